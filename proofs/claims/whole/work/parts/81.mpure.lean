/-! orders, counted from the first forme on: plain numbers -/
def mCb (A : Nat → Nat) (s f : Nat) : Bool := s.testBit f && !qEx (fun g => decide (¬ g = (f : Int)) && (s.testBit g.toNat && (A g.toNat).testBit f)) 6
theorem mCb_iff {A : Nat → Nat} {s f : Nat} : mCb A s f = true ↔ s.testBit f = true ∧ ∀ g, g < 6 → ¬ g = f → s.testBit g = true → (A g).testBit f = false := by
  unfold mCb
  rw [Bool.and_eq_true, Bool.not_eq_true', Bool.eq_false_iff]
  refine and_congr_right (fun _ => ⟨fun h g g6 hne hs => ?_, fun h z => ?_⟩)
  · rw [Bool.eq_false_iff]
    intro ha
    refine h ((qEx_iff _ _).2 ⟨(g : Int), by omega, by omega, ?_⟩)
    rw [Bool.and_eq_true, Bool.and_eq_true]
    exact ⟨decide_eq_true (by omega), hs, ha⟩
  · obtain ⟨g, g0, g6, hz⟩ := (qEx_iff _ _).1 z
    rw [Bool.and_eq_true, Bool.and_eq_true] at hz
    have := h g.toNat (by omega) (by have := of_decide_eq_true hz.1; omega) hz.2.1
    rw [hz.2.2] at this
    exact absurd this (by decide)
theorem vBit6 {s g : Nat} (hs : s < 64) (h : s.testBit g = true) : g < 6 := by
  by_cases e : g < 6
  · exact e
  · rw [Nat.testBit_lt_two_pow (Nat.lt_of_lt_of_le hs (show 2 ^ 6 ≤ 2 ^ g from Nat.pow_le_pow_right (by decide) (by omega)))] at h
    exact absurd h (by decide)
theorem vBit0 {s : Nat} (hs : s < 64) (h : ∀ g, g < 6 → s.testBit g = false) : s = 0 := by
  refine Nat.eq_of_testBit_eq (fun g => ?_)
  rw [Nat.zero_testBit]
  by_cases e : g < 6
  · exact h g e
  · rw [Bool.eq_false_iff]
    intro z
    exact e (vBit6 hs z)
theorem vBitN {s : Nat} (hs : s < 64) (h : ¬ s = 0) : ∃ g, g < 6 ∧ s.testBit g = true := by
  refine Classical.byContradiction (fun z => h (vBit0 hs (fun g g6 => ?_)))
  rw [Bool.eq_false_iff]
  exact fun y => z ⟨g, g6, y⟩
theorem vLs_iff {a s : Nat} (hs : s < 64) : a &&& s = 0 ↔ ∀ g, g < 6 → s.testBit g = true → a.testBit g = false := by
  constructor
  · intro h g _ hg
    have := congrArg (fun x => x.testBit g) h
    simp only [Nat.testBit_and, Nat.zero_testBit, hg, Bool.and_true] at this
    exact this
  · intro h
    refine vBit0 (Nat.lt_of_le_of_lt Nat.and_le_right hs) (fun g g6 => ?_)
    rw [Nat.testBit_and]
    cases e : s.testBit g
    · rw [Bool.and_false]
    · rw [h g g6 e]; rfl
theorem vXb {s l : Nat} (hl : s.testBit l = true) (g : Nat) : (s ^^^ 2 ^ l).testBit g = (s.testBit g && decide (¬ g = l)) := by
  rw [Nat.testBit_xor, Nat.testBit_two_pow]
  by_cases e : g = l
  · rw [e, hl, decide_eq_true rfl, decide_eq_false (fun z => z rfl)]; rfl
  · rw [decide_eq_false (fun z => e z.symm), decide_eq_true e, Bool.xor_false, Bool.and_true]
theorem vXlt {s l : Nat} (hs : s < 64) (hl : l < 6) : s ^^^ 2 ^ l < 64 := Nat.xor_lt_two_pow (n := 6) hs (Nat.pow_lt_pow_right (by decide) hl)
theorem qS_zero (n : Nat) : qS (fun _ => 0) n = 0 := by
  induction n with
  | zero => rfl
  | succ n ih => simp only [qS]; rw [ih]; rfl
theorem qS_swap (F : Int → Int → Int) (n : Nat) : ∀ m : Nat, qS (fun a => qS (fun b => F a b) n) m = qS (fun b => qS (fun a => F a b) m) n := by
  intro m
  induction m with
  | zero => exact (qS_zero n).symm
  | succ m ih =>
    show qS (fun a => qS (fun b => F a b) n) m + qS (fun b => F (m : Int) b) n = qS (fun b => qS (fun a => F a b) m + F (m : Int) b) n
    rw [ih, qS_add]
theorem vSwap {A : Nat → Nat} {s l f : Nat} (hs : s < 64) (hl : l < 6) (hf : f < 6) : ((s.testBit l = true ∧ A l &&& s = 0) ∧ mCb A (s ^^^ 2 ^ l) f = true) ↔ (mCb A s f = true ∧ ((s ^^^ 2 ^ f).testBit l = true ∧ A l &&& (s ^^^ 2 ^ f) = 0)) := by
  rw [vLs_iff hs, vLs_iff (vXlt hs hf), mCb_iff, mCb_iff]
  constructor
  · rintro ⟨⟨a1, a2⟩, b1, b2⟩
    rw [vXb a1, Bool.and_eq_true] at b1
    have hne := of_decide_eq_true b1.2
    refine ⟨⟨b1.1, fun g g6 gne gs => ?_⟩, ?_, fun g g6 h => ?_⟩
    · by_cases e : g = l
      · rw [e]; exact a2 f hf b1.1
      · exact b2 g g6 gne (by rw [vXb a1, gs, decide_eq_true e]; rfl)
    · rw [vXb b1.1, a1, decide_eq_true (show ¬ l = f from fun z => hne z.symm)]; rfl
    · rw [vXb b1.1, Bool.and_eq_true] at h
      exact a2 g g6 h.1
  · rintro ⟨⟨b1, b2⟩, a1, a2⟩
    rw [vXb b1, Bool.and_eq_true] at a1
    have hne := of_decide_eq_true a1.2
    refine ⟨⟨a1.1, fun g g6 gs => ?_⟩, ?_, fun g g6 gne gs => ?_⟩
    · by_cases e : g = f
      · rw [e]; exact b2 l hl hne a1.1
      · exact a2 g g6 (by rw [vXb b1, gs, decide_eq_true e]; rfl)
    · rw [vXb a1.1, b1, decide_eq_true (show ¬ f = l from fun z => hne z.symm)]; rfl
    · rw [vXb a1.1, Bool.and_eq_true] at gs
      exact b2 g g6 gne gs.1
/-- the count from the last on is the count from the first on -/
theorem vW_first {A : Nat → Nat} (hirr : ∀ f, f < 6 → (A f).testBit f = false) : ∀ s, s < 64 → ¬ s = 0 → vW A 6 s = qS (fun f => if mCb A s f.toNat = true then vW A 6 (s ^^^ 2 ^ f.toNat) else 0) 6 := by
  intro s
  induction s using Nat.strongRecOn with
  | _ s ih =>
    intro hs h0
    rw [vW_6 A s hs, if_neg h0]
    by_cases h1 : ∃ l, l < 6 ∧ s = 2 ^ l
    · obtain ⟨l, l6, hl⟩ := h1
      refine qS_congr (fun f f0 f6 => ?_)
      have f6 : f.toNat < 6 := by omega
      have hb : ∀ g, s.testBit g = true ↔ g = l := fun g => by
        rw [hl, Nat.testBit_two_pow, decide_eq_true_iff]
        exact ⟨Eq.symm, Eq.symm⟩
      by_cases e : f.toNat = l
      · have c1 : s.testBit f.toNat = true ∧ A f.toNat &&& s = 0 := ⟨(hb _).2 e, (vLs_iff hs).2 (fun g g6 hg => by rw [(hb g).1 hg, e]; exact hirr l l6)⟩
        have c2 : mCb A s f.toNat = true := mCb_iff.2 ⟨(hb _).2 e, fun g g6 gne hg => absurd (((hb g).1 hg).trans e.symm) gne⟩
        rw [if_pos c1, if_pos c2]
      · rw [if_neg (fun z => e ((hb _).1 z.1)), if_neg (fun z => e ((hb _).1 (mCb_iff.1 z).1))]
    · have hx : ∀ l, l < 6 → s.testBit l = true → ¬ s ^^^ 2 ^ l = 0 := fun l l6 hl z => h1 ⟨l, l6, by
        have := congrArg (fun x => x ^^^ 2 ^ l) z
        simp only [Nat.xor_assoc, Nat.xor_self, Nat.xor_zero, Nat.zero_xor] at this
        exact this⟩
      have e1 : qS (fun l => if s.testBit l.toNat = true ∧ A l.toNat &&& s = 0 then vW A 6 (s ^^^ 2 ^ l.toNat) else 0) 6 = qS (fun l => qS (fun f => if (s.testBit l.toNat = true ∧ A l.toNat &&& s = 0) ∧ mCb A (s ^^^ 2 ^ l.toNat) f.toNat = true then vW A 6 (s ^^^ 2 ^ l.toNat ^^^ 2 ^ f.toNat) else 0) 6) 6 := qS_congr (fun l l0 l6 => by
        by_cases c : s.testBit l.toNat = true ∧ A l.toNat &&& s = 0
        · have hd := vPc_dn s hs l.toNat (by omega) c.1
          rw [if_pos c, ih _ hd.2.1 (vXlt hs (by omega)) (hx _ (by omega) c.1)]
          refine qS_congr (fun f f0 f6 => ?_)
          by_cases c2 : mCb A (s ^^^ 2 ^ l.toNat) f.toNat = true
          · rw [if_pos c2, if_pos ⟨c, c2⟩]
          · rw [if_neg c2, if_neg (fun z => c2 z.2)]
        · rw [if_neg c, qS_congr (g := fun _ => 0) (fun f f0 f6 => if_neg (fun z => c z.1)), qS_zero])
      have e2 : qS (fun f => if mCb A s f.toNat = true then vW A 6 (s ^^^ 2 ^ f.toNat) else 0) 6 = qS (fun f => qS (fun l => if mCb A s f.toNat = true ∧ ((s ^^^ 2 ^ f.toNat).testBit l.toNat = true ∧ A l.toNat &&& (s ^^^ 2 ^ f.toNat) = 0) then vW A 6 (s ^^^ 2 ^ f.toNat ^^^ 2 ^ l.toNat) else 0) 6) 6 := qS_congr (fun f f0 f6 => by
        by_cases c : mCb A s f.toNat = true
        · have cb := (mCb_iff.1 c).1
          rw [if_pos c, vW_6 A _ (vXlt hs (by omega)), if_neg (hx _ (by omega) cb)]
          refine qS_congr (fun l l0 l6 => ?_)
          by_cases c2 : (s ^^^ 2 ^ f.toNat).testBit l.toNat = true ∧ A l.toNat &&& (s ^^^ 2 ^ f.toNat) = 0
          · rw [if_pos c2, if_pos ⟨c, c2⟩]
          · rw [if_neg c2, if_neg (fun z => c2 z.2)]
        · rw [if_neg c, qS_congr (g := fun _ => 0) (fun l l0 l6 => if_neg (fun z => c z.1)), qS_zero])
      rw [e1, e2, qS_swap]
      refine qS_congr (fun f f0 f6 => qS_congr (fun l l0 l6 => ?_))
      have hsw := vSwap (A := A) (s := s) (l := l.toNat) (f := f.toNat) hs (by omega) (by omega)
      have hxc : s ^^^ 2 ^ l.toNat ^^^ 2 ^ f.toNat = s ^^^ 2 ^ f.toNat ^^^ 2 ^ l.toNat := by rw [Nat.xor_assoc, Nat.xor_comm (2 ^ l.toNat), ← Nat.xor_assoc]
      by_cases c : (s.testBit l.toNat = true ∧ A l.toNat &&& s = 0) ∧ mCb A (s ^^^ 2 ^ l.toNat) f.toNat = true
      · rw [if_pos c, if_pos (hsw.1 c), hxc]
      · rw [if_neg c, if_neg (fun z => c (hsw.2 z))]
theorem qS_pos {f : Int → Int} : ∀ {n : Nat}, (∀ k : Int, 0 ≤ k → k < n → 0 ≤ f k) → ∀ k : Int, 0 ≤ k → k < n → 0 < f k → 0 < qS f n := by
  intro n
  induction n with
  | zero => intro _ k k0 k1; exact absurd k1 (by omega)
  | succ n ih =>
    intro h k k0 k1 hk
    have hn := h n (by omega) (by omega)
    simp only [qS]
    by_cases e : k = n
    · have h0 : 0 ≤ qS f n := by
        clear ih
        have hh : ∀ k : Int, 0 ≤ k → k < n → 0 ≤ f k := fun k a b => h k a (by omega)
        clear h hk hn k1 e
        induction n with
        | zero => exact Int.le_refl _
        | succ n ih2 => simp only [qS]; have := ih2 (fun k a b => hh k a (by omega)); have := hh n (by omega) (by omega); omega
      rw [e] at hk
      omega
    · have := ih (fun k a b => h k a (by omega)) k k0 (by omega) hk
      omega
theorem qS_ex {f : Int → Int} : ∀ {n : Nat}, 0 < qS f n → ∃ k : Int, 0 ≤ k ∧ k < n ∧ 0 < f k := by
  intro n
  induction n with
  | zero => intro h; exact absurd h (by simp [qS])
  | succ n ih =>
    intro h
    simp only [qS] at h
    by_cases e : 0 < f (n : Int)
    · exact ⟨n, by omega, by omega, e⟩
    · obtain ⟨k, k0, k1, hk⟩ := ih (by omega)
      exact ⟨k, k0, by omega, hk⟩
/-- a set in which each forme has another one of the set ahead of it -/
def vLoop (A : Nat → Nat) (X : Nat) : Prop := ¬ X = 0 ∧ X < 64 ∧ ∀ g, g < 6 → X.testBit g = true → ∃ f, f < 6 ∧ X.testBit f = true ∧ (A f).testBit g = true
theorem vW_loop {A : Nat → Nat} (hirr : ∀ f, f < 6 → (A f).testBit f = false) : ∀ s, s < 64 → 0 < vW A 6 s → ∀ X, vLoop A X → ¬ (∀ g, X.testBit g = true → s.testBit g = true) := by
  intro s
  induction s using Nat.strongRecOn with
  | _ s ih =>
    intro hs hw X hX hsub
    by_cases h0 : s = 0
    · obtain ⟨g, g6, hg⟩ := vBitN hX.2.1 hX.1
      have := hsub g hg
      rw [h0, Nat.zero_testBit] at this
      exact absurd this (by decide)
    · rw [vW_first hirr s hs h0] at hw
      obtain ⟨f, f0, f6, hf⟩ := qS_ex hw
      by_cases c : mCb A s f.toNat = true
      · rw [if_pos c] at hf
        have cb := mCb_iff.1 c
        have hd := vPc_dn s hs f.toNat (by omega) cb.1
        refine ih _ hd.2.1 (vXlt hs (by omega)) hf X hX (fun g hg => ?_)
        rw [vXb cb.1, hsub g hg]
        refine decide_eq_true (fun e => ?_)
        rw [e] at hg
        obtain ⟨f', f6', hX', ha⟩ := hX.2.2 f.toNat (by omega) hg
        by_cases e2 : f' = f.toNat
        · rw [e2, hirr _ (by omega)] at ha; exact absurd ha (by decide)
        · rw [cb.2 f' f6' e2 (hsub f' hX')] at ha; exact absurd ha (by decide)
      · rw [if_neg c] at hf; exact absurd hf (by decide)
theorem vW_free {A : Nat → Nat} (hirr : ∀ f, f < 6 → (A f).testBit f = false) : ∀ s, s < 64 → (∀ X, vLoop A X → ¬ (∀ g, X.testBit g = true → s.testBit g = true)) → 0 < vW A 6 s := by
  intro s
  induction s using Nat.strongRecOn with
  | _ s ih =>
    intro hs hX
    by_cases h0 : s = 0
    · rw [vW_6 A s hs, if_pos h0]; decide
    · rw [vW_first hirr s hs h0]
      have hn : ∃ g, g < 6 ∧ s.testBit g = true ∧ ∀ f, f < 6 → s.testBit f = true → (A f).testBit g = false := by
        refine Classical.byContradiction (fun z => hX s ⟨h0, hs, fun g g6 hg => ?_⟩ (fun _ h => h))
        refine Classical.byContradiction (fun y => z ⟨g, g6, hg, fun f f6 hf => ?_⟩)
        rw [Bool.eq_false_iff]
        exact fun w => y ⟨f, f6, hf, w⟩
      obtain ⟨g, g6, hg, hb⟩ := hn
      have hc : mCb A s g = true := mCb_iff.2 ⟨hg, fun f f6 _ hf => hb f f6 hf⟩
      refine qS_pos (fun k _ _ => by
        split
        · exact (vW_b A 6 _).1
        · exact Int.le_refl _) (g : Int) (by omega) (by omega) ?_
      show 0 < if mCb A s ((g : Int)).toNat = true then vW A 6 (s ^^^ 2 ^ ((g : Int)).toNat) else 0
      rw [show ((g : Int)).toNat = g by omega, if_pos hc]
      have hd := vPc_dn s hs g g6 hg
      refine ih _ hd.2.1 (vXlt hs g6) (fun X hX' hsub => hX X hX' (fun q hq => ?_))
      have := hsub q hq
      rw [vXb hg, Bool.and_eq_true] at this
      exact this.1
theorem vBh_bit {A : Nat → Nat} {s g : Nat} (hg : g < 6) : (vBh A s).testBit g = true ↔ ∃ f, f < 6 ∧ s.testBit f = true ∧ (A f).testBit g = true := by
  unfold vBh
  rw [qBm_bit, decide_eq_true hg, Bool.true_and, qEx_iff]
  constructor
  · rintro ⟨f, f0, f6, h⟩
    rw [Bool.and_eq_true] at h
    exact ⟨f.toNat, by omega, h.1, h.2⟩
  · rintro ⟨f, f6, h1, h2⟩
    exact ⟨(f : Int), by omega, by omega, by rw [show ((f : Int)).toNat = f by omega, h1, h2]; rfl⟩
theorem vPc_lt : ∀ a, a < 64 → ∀ b, b < 64 → a &&& b = a ∨ qPc (a &&& b) 6 + 1 ≤ qPc a 6 := by decide +kernel
theorem vNc_loop {A : Nat → Nat} : vNc A 6 = 0 ↔ ∀ X, ¬ vLoop A X := by
  constructor
  · intro h X hX
    have hsub : ∀ k g, X.testBit g = true → (vNc A k).testBit g = true := by
      intro k
      induction k with
      | zero =>
        intro g hg
        have g6 := vBit6 hX.2.1 hg
        show (2 ^ 6 - 1).testBit g = true
        rw [Nat.testBit_two_pow_sub_one]; exact decide_eq_true g6
      | succ k ih =>
        intro g hg
        have g6 := vBit6 hX.2.1 hg
        simp only [vNc]
        rw [Nat.testBit_and, ih g hg, Bool.true_and, vBh_bit g6]
        obtain ⟨f, f6, h1, h2⟩ := hX.2.2 g g6 hg
        exact ⟨f, f6, ih f h1, h2⟩
    obtain ⟨g, g6, hg⟩ := vBitN hX.2.1 hX.1
    have := hsub 6 g hg
    rw [h, Nat.zero_testBit] at this
    exact absurd this (by decide)
  · intro h
    have hp : ∀ k : Nat, k ≤ 6 → qPc (vNc A k) 6 ≤ 6 - (k : Int) ∨ vNc A k = 0 := by
      intro k
      induction k with
      | zero => intro _; left; exact (qPc_b _ 6).2
      | succ k ih =>
        intro hk
        rcases ih (by omega) with z | z
        · by_cases e0 : vNc A k = 0
          · right; simp only [vNc]; rw [e0, Nat.zero_and]
          · left
            rcases vPc_lt (vNc A k) (vNc_lt A k) (vBh A (vNc A k)) (vBh_lt A _) with e | e
            · refine absurd ⟨e0, vNc_lt A k, fun g g6 hg => ?_⟩ (h (vNc A k))
              rw [← e, Nat.testBit_and, Bool.and_eq_true] at hg
              exact (vBh_bit g6).1 hg.2
            · simp only [vNc]; omega
        · right; simp only [vNc]; rw [z, Nat.zero_and]
    rcases hp 6 (by decide) with z | z
    · exact vPc_0 _ (vNc_lt A 6) (by omega)
    · exact z
/-- no forme is ahead of itself; what is behind or ahead is seen -/
theorem vA_irr {Y : qYt} (hi : qYi Y) (S : Int → Bool) : ∀ f, f < 6 → (vA Y S f).testBit f = false := by
  intro f f6
  unfold vA
  rw [qBm_bit, decide_eq_true f6, Bool.true_and, Bool.eq_false_iff]
  intro h
  unfold vAh at h
  obtain ⟨i, i0, i1, h⟩ := (qEx_iff _ _).1 h
  obtain ⟨j, j0, j1, h⟩ := (qEx_iff _ _).1 h
  rw [Bool.and_eq_true, Bool.and_eq_true, Bool.and_eq_true] at h
  have h1 := of_decide_eq_true h.2.1
  have h2 := of_decide_eq_true h.2.2
  have := hi.2.2 i j i0 (by omega) j0 (by omega) (by omega) h2.1
  rw [this] at h2
  omega
theorem vA_seen {Y : qYt} {S : Int → Bool} {f g : Nat} (h : (vA Y S f).testBit g = true) (g6 : g < 6) : (vS Y S).testBit g = true := by
  unfold vA at h
  rw [qBm_bit, decide_eq_true g6, Bool.true_and] at h
  unfold vAh at h
  obtain ⟨i, i0, i1, h⟩ := (qEx_iff _ _).1 h
  obtain ⟨j, j0, j1, h⟩ := (qEx_iff _ _).1 h
  rw [Bool.and_eq_true, Bool.and_eq_true, Bool.and_eq_true] at h
  have h1 := of_decide_eq_true h.2.1
  unfold vS
  rw [qBm_bit, decide_eq_true g6, Bool.true_and]
  refine (qEx_iff _ _).2 ⟨j, j0, j1, ?_⟩
  rw [h.1.2]; exact decide_eq_true h1.2
theorem vOk_w {Y : qYt} (hi : qYi Y) (o : Nat) : vOk Y o = true ↔ 0 < vW (vA Y (vOut o)) 6 (vS Y (vOut o)) := by
  unfold vOk
  rw [decide_eq_true_iff, vNc_loop]
  constructor
  · exact fun h => vW_free (vA_irr hi _) _ (vS_lt _ _) (fun X hX => absurd hX (h X))
  · intro h X hX
    refine vW_loop (vA_irr hi _) _ (vS_lt _ _) h X hX (fun g hg => ?_)
    have g6 := vBit6 hX.2.1 hg
    obtain ⟨f, f6, _, ha⟩ := hX.2.2 g g6 hg
    exact vA_seen ha g6
/-- the smallest free forme -/
theorem mCb_an {A : Nat → Nat} (hirr : ∀ f, f < 6 → (A f).testBit f = false) {s f : Nat} (hf : f < 6) : mCb A s f = (qAn s (vBh A s)).testBit f := by
  rw [qAn_bit, Bool.eq_iff_iff, Bool.and_eq_true, Bool.not_eq_true', Bool.eq_false_iff, mCb_iff]
  refine and_congr_right (fun _ => ⟨fun h z => ?_, fun h g g6 _ hs => ?_⟩)
  · obtain ⟨g, g6, hg, ha⟩ := (vBh_bit hf).1 z
    by_cases e : g = f
    · rw [e, hirr f hf] at ha; exact absurd ha (by decide)
    · rw [h g g6 e hg] at ha; exact absurd ha (by decide)
  · rw [Bool.eq_false_iff]
    exact fun ha => h ((vBh_bit hf).2 ⟨g, g6, hs, ha⟩)
theorem qTz_at : ∀ x : Nat, x < 64 → ¬ x = 0 → x.testBit (qTz x).toNat = true ∧ ∀ j, j < 6 → j < (qTz x).toNat → x.testBit j = false := by decide +kernel
theorem vNx_at {A : Nat → Nat} (hirr : ∀ f, f < 6 → (A f).testBit f = false) {s : Nat} (hs : s < 64) (h0 : ¬ s = 0) (hw : 0 < vW A 6 s) : (0 ≤ vNx A s ∧ vNx A s < 6) ∧ mCb A s (vNx A s).toNat = true ∧ s.testBit (vNx A s).toNat = true ∧ 0 < vW A 6 (s ^^^ 2 ^ (vNx A s).toNat) ∧ ∀ j, j < (vNx A s).toNat → mCb A s j = false := by
  have hx : ¬ qAn s (vBh A s) = 0 := fun z => by
    rw [vW_first hirr s hs h0] at hw
    obtain ⟨f, f0, f6, hf⟩ := qS_ex hw
    have : mCb A s f.toNat = false := by rw [mCb_an hirr (by omega), z, Nat.zero_testBit]
    rw [this, if_neg (by decide)] at hf
    exact absurd hf (by decide)
  have hlt : qAn s (vBh A s) < 64 := qAn_lt (n := 6) hs
  have e : vNx A s = qTz (qAn s (vBh A s)) := if_neg hx
  have hb := qTz_b (qAn s (vBh A s))
  obtain ⟨h1, h2⟩ := qTz_at _ hlt hx
  rw [← e] at hb h1 h2
  have h3 : mCb A s (vNx A s).toNat = true := by rw [mCb_an hirr (by omega)]; exact h1
  have h4 := (mCb_iff.1 h3).1
  refine ⟨by omega, h3, h4, ?_, fun j hj => by rw [mCb_an hirr (by omega)]; exact h2 j (by omega) hj⟩
  refine vW_free hirr _ (vXlt hs (by omega)) (fun X hX hsub => vW_loop hirr s hs hw X hX (fun g hg => ?_))
  have := hsub g hg
  rw [vXb h4, Bool.and_eq_true] at this
  exact this.1
/-- the sets that are left, place by place -/
theorem vLf_at {A : Nat → Nat} (hirr : ∀ f, f < 6 → (A f).testBit f = false) {s : Nat} (hs : s < 64) (hw : 0 < vW A 6 s) : ∀ k : Nat, (k : Int) ≤ qPc s 6 → 0 < vW A 6 (vLf A s k) ∧ qPc (vLf A s k) 6 = qPc s 6 - k ∧ vLf A s k < 64 := by
  intro k
  induction k with
  | zero => intro _; exact ⟨hw, by show qPc s 6 = _; omega, hs⟩
  | succ k ih =>
    intro hk
    obtain ⟨h1, h2, h3⟩ := ih (by omega)
    have h0 : ¬ vLf A s k = 0 := fun z => by
      rw [z] at h2
      have : qPc 0 6 = 0 := by decide
      omega
    obtain ⟨n1, n2, n3, n4, n5⟩ := vNx_at hirr h3 h0 h1
    have hd := vPc_dn _ h3 _ (by omega) n3
    have e : vLf A s (k + 1) = vLf A s k ^^^ 2 ^ (vNx A (vLf A s k)).toNat := by
      simp only [vLf]
      rw [if_neg (by omega), hd.2.2]
    rw [e]
    exact ⟨n4, by omega, by omega⟩
