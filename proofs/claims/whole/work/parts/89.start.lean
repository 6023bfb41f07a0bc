/-! the start: what the constructors leave -/
set_option maxHeartbeats 4000000 in
theorem zEx_st {m : zD} {pc len pc' : Nat} {i : Jvm.ClassFile.Instr} {ls st ls' st' : List zV} {q q' : zS} (h : zEx m pc len i ls st q = some (.inl (pc', ls', st', q'))) (h4 : 4 ≤ q.1.length) : ∀ a, a < 3 → ∀ k, q'.2.2 a k = q.2.2 a k := by
  have h0 : ∀ {ok : Bool} {pc1 : Nat} {ls1 st1 : List zV} {q1 : zS}, zNx ok pc1 ls1 st1 q1 = some (.inl (pc', ls', st', q')) → q1 = q' := fun h => (zNx_inv h).2.2.2.2
  cases i <;> simp only [zEx, zBin, zLdI, zLdL, zLdA, zStI, zStL, zStA, zGetF, zPutF, zALd, zRLd, zASt, zRSt, zALen, zNewO, zNewA, zNewM, zMathS, zCallI, zJp, zCallV, zCallS, zRet] at h <;> (repeat' split at h) <;>
    first
    | (cases h; done)
    | (have h1 := h0 h; subst h1; exact fun a ha k => rfl)
    | (have h1 := h0 h; subst h1; intro a ha k; simp only [zU, zPush, zZ, List.length_append, List.length_replicate]; rw [if_neg (by omega)]; done)
    | (have h1 := h0 h; subst h1; intro a ha k; simp only [zU, zPush, zZ, List.length_append, List.length_replicate]; rw [if_neg (by omega), if_neg (by omega)]; done)
theorem zRun_st : ∀ (n d : Nat) (m : zD) (pc : Nat) (ls st : List zV) (q : zS) (r : Option zV) (q' : zS), zRun n d m pc ls st q = some (r, q') → 4 ≤ q.1.length → ∀ a, a < 3 → ∀ k, q'.2.2 a k = q.2.2 a k := by
  intro n
  induction n with
  | zero => intro d m pc ls st q r q' h; simp [zRun] at h
  | succ n ih =>
    intro d m pc ls st q r q' h h4 a ha k
    simp only [zRun] at h
    split at h
    · split at h
      · next pc1 ls1 st1 q1 hx =>
        have g1 := z_grow (zEx_mono hx)
        exact (ih _ _ _ _ _ _ _ _ h (by omega) a ha k).trans (zEx_st hx h4 a ha k)
      · split at h
        · cases h
        · split at h
          · next r1 q1 hr =>
            have g1 := z_grow (zRun_mono _ _ _ _ _ _ _ _ _ hr)
            exact (ih _ _ _ _ _ _ _ _ h (by omega) a ha k).trans (ih _ _ _ _ _ _ _ _ hr h4 a ha k)
          · cases h
      · cases h
        rfl
      · cases h
    · cases h
theorem zGo_st : ∀ (k n d : Nat) (m : zD) (pc : Nat) (ls st : List zV) (q : zS) (pc' : Nat) (ls' st' : List zV) (q' : zS), zGo k n d m pc ls st q = some (pc', ls', st', q') → 4 ≤ q.1.length → ∀ a, a < 3 → ∀ j, q'.2.2 a j = q.2.2 a j := by
  intro k
  induction k with
  | zero => intro n d m pc ls st q pc' ls' st' q' h; cases h; exact fun _ a _ j => rfl
  | succ k ih =>
    intro n d m pc ls st q pc' ls' st' q' h h4 a ha j
    simp only [zGo] at h
    split at h
    · split at h
      · next pc1 ls1 st1 q1 hx =>
        have g1 := z_grow (zEx_mono hx)
        exact (ih _ _ _ _ _ _ _ _ _ _ _ h (by omega) a ha j).trans (zEx_st hx h4 a ha j)
      · split at h
        · cases h
        · split at h
          · next r1 q1 hr =>
            have g1 := z_grow (zRun_mono _ _ _ _ _ _ _ _ _ hr)
            exact (ih _ _ _ _ _ _ _ _ _ _ _ h (by omega) a ha j).trans (zRun_st _ _ _ _ _ _ _ _ _ hr h4 a ha j)
          · cases h
      · cases h
      · cases h
    · cases h
theorem zM1_st : ∀ a, a < 3 → ∀ k, zM1 a k = zMs a k := by
  obtain ⟨q, h1, h2, h5, h6⟩ := zP1_ex
  intro a ha k
  rw [← h6]
  exact zGo_st _ _ _ _ _ _ _ _ _ _ _ _ h1 (by decide) a ha k
theorem z0_at {xs : Nat → Int32} {a kd n k : Nat} (h3 : ¬ a = 3) (ha : zkd 0 a = some (kd, n)) (hk : k < n) (hkd : kd < 11) : zM0 xs a k = zMb a k := by
  unfold zM0
  rw [if_neg h3]
  exact (zM1_at ((zsh_ne (c := (20, 0)) h3).symm.trans ha) hk hkd).1
section ZStart
variable (xs : Nat → Int32)
theorem z0_73 : zM0 xs 7 3 = 0 := (z0_at (by decide) (zk_7 0) (by decide) (by decide)).trans rfl
theorem z0_74 : zM0 xs 7 4 = 3 := (z0_at (by decide) (zk_7 0) (by decide) (by decide)).trans rfl
theorem z0_75 : zM0 xs 7 5 = 0 := (z0_at (by decide) (zk_7 0) (by decide) (by decide)).trans rfl
theorem z0_51 : zM0 xs 5 1 = 0 := (z0_at (by decide) (zk_5 0) (by decide) (by decide)).trans rfl
theorem z0_47 : zM0 xs 4 7 = 0 := (z0_at (by decide) (zk_4 0) (by decide) (by decide)).trans rfl
theorem z0_48 : zM0 xs 4 8 = 0 := (z0_at (by decide) (zk_4 0) (by decide) (by decide)).trans rfl
theorem z0_st : zM0 xs 132 11 = -1 := (z0_at (by decide) (zk_132 0) (by decide) (by decide)).trans rfl
theorem z0_s1 : zM0 xs 147 1 = 0 := (z0_at (by decide) (zk_147 0) (by decide) (by decide)).trans rfl
theorem z0_s2 : zM0 xs 147 2 = 0 := (z0_at (by decide) (zk_147 0) (by decide) (by decide)).trans rfl
theorem z0_ch : zM0 xs 161 7 = -1 := (z0_at (by decide) (zk_161 0) (by decide) (by decide)).trans rfl
theorem z0_fa : zM0 xs 167 6 = -1 := (z0_at (by decide) (zk_167 0) (by decide) (by decide)).trans rfl
theorem z0_pr : zM0 xs 172 2 = -1 := (z0_at (by decide) (zk_172 0) (by decide) (by decide)).trans rfl
theorem z0_m0 : zM0 xs 174 0 = 0 := (z0_at (by decide) (zk_174 0) (by decide) (by decide)).trans rfl
theorem z0_m2 : zM0 xs 174 2 = 0 := (z0_at (by decide) (zk_174 0) (by decide) (by decide)).trans rfl
theorem z0_m5 : zM0 xs 174 5 = 3 := (z0_at (by decide) (zk_174 0) (by decide) (by decide)).trans rfl
theorem z0_m6 : zM0 xs 174 6 = 0 := (z0_at (by decide) (zk_174 0) (by decide) (by decide)).trans rfl
theorem z0_m7 : zM0 xs 174 7 = 0 := (z0_at (by decide) (zk_174 0) (by decide) (by decide)).trans rfl
theorem z0_mc : zM0 xs 174 12 = 0 := (z0_at (by decide) (zk_174 0) (by decide) (by decide)).trans rfl
theorem z0_an {p : Nat} (hp : p < 36) : zM0 xs (24 + 3 * p) 2 = 0 := by
  rw [z0_at (by omega) (zAn_i 0 p hp).1 (by decide) (by decide)]
  unfold zMb
  rw [if_neg (by omega), if_neg (by omega), if_neg (by omega), if_neg (by omega), if_neg (by omega), if_neg (by omega), if_neg (by omega)]
end ZStart
/-- class and model at the start -/
theorem zStart {M : zM} {xs : Nat → Int32} (hst : zSt M) (h73 : M 7 3 = 0) (h74 : M 7 4 = 3) (h75 : M 7 5 = 0) (h51 : M 5 1 = 0) (h47 : M 4 7 = 0) (h48 : M 4 8 = 0) (hs : M 132 11 = -1) (s1 : M 147 1 = 0) (s2 : M 147 2 = 0) (c1 : M 161 7 = -1) (c2 : M 167 6 = -1) (c3 : M 172 2 = -1) (m0 : M 174 0 = 0) (m2 : M 174 2 = 0) (m5 : M 174 5 = 3) (m6 : M 174 6 = 0) (m7 : M 174 7 = 0) (mc : M 174 12 = 0) (han : ∀ p, p < 36 → M (24 + 3 * p) 2 = 0) (hx : ∀ k, M 3 k = (xs k).toInt) : ∃ v : jT, jC xs 0 v M ∧ jM v M ∧ jP 0 v := by
  have e3 : (qDC M).2.2.2 = 0 := h73
  have e4 : (qDC M).2.2.1 = 3 := h74
  have e1 : (qYC M).1 = 0 := s1
  have e0 : (qPg M).1 = 0 := h51
  have hyi : qYi (qYC M) := ⟨by omega, fun i i0 i1 => absurd i1 (by omega), fun i j i0 i1 => absurd i1 (by omega)⟩
  have hic : qIC M := ⟨⟨hst, by omega, by omega, fun c hc => absurd hc (by omega), fun p hp => Or.inl (han p hp), fun x y x0 x1 => absurd x1 (by omega)⟩, fun z => absurd z (by omega), by omega, by omega⟩
  have his : qIS M := ⟨hyi, fun z => absurd z (by omega), fun z => absurd z (by omega), fun z => absurd z (by omega), by omega, by omega⟩
  have hpi : qPi M := ⟨by omega, fun k hk => absurd hk (by omega)⟩
  refine ⟨(qDC M, qYC M, qPg M, M 4 7, M 4 8), ⟨⟨hic, his, hpi⟩, ⟨rfl, rfl, rfl, rfl, rfl⟩, by omega, by omega, hx⟩, ⟨⟨m2.trans e3.symm, m5.trans e4.symm, fun c c0 c1 => ?_⟩, ⟨m7.trans e1.symm, fun i i0 i1 => ?_⟩, ⟨m0.trans e0.symm, fun i i0 i1 => ?_⟩, m6.trans h47.symm, mc.trans h48.symm⟩, ⟨⟨?_, ?_, fun c c0 c1 => ?_⟩, hyi, ?_, ?_, ?_⟩⟩
  · have c1 : c < (qDC M).2.2.2 := c1
    exact absurd c1 (by omega)
  · have i1 : i < (qYC M).1 := i1
    exact absurd i1 (by omega)
  · have i1 : i < (qPg M).1 := i1
    exact absurd i1 (by omega)
  · show 0 ≤ (qDC M).2.2.2 ∧ (qDC M).2.2.2 ≤ 6
    omega
  · show 0 ≤ (qDC M).2.2.1 ∧ (qDC M).2.2.1 ≤ 9
    omega
  · have c1 : c < (qDC M).2.2.2 := c1
    exact absurd c1 (by omega)
  · show 0 ≤ (qPg M).1 ∧ (qPg M).1 ≤ 24
    omega
  · show 0 ≤ M 4 7 ∧ M 4 7 ≤ 0
    omega
  · show 0 ≤ M 4 8 ∧ M 4 8 ≤ 0
    omega
theorem z0_ss (xs : Nat → Int32) : zSt (zM0 xs) := fun a ha k => (if_neg (by omega)).trans (zM1_st a ha k)
theorem z0_xs (xs : Nat → Int32) (k : Nat) : zM0 xs 3 k = (xs k).toInt := if_pos rfl
/-- every script runs to its end, and the answer is 1 -/
theorem zMain (L : Nat) (xs : Nat → Int32) (hL : L ≤ 2560) : ∃ (n : Nat) (M' : zM), zRun n 40 zm_law 18 [rV 3, rV 4, rV 174, iV 0] [] (zsh (20, L), zK0, zM0 xs) = some (some (iV 1), (zsh (20, L), zK0, M')) := by
  obtain ⟨v, j1, j2, j3⟩ := zStart (M := zM0 xs) (z0_ss xs) (z0_73 xs) (z0_74 xs) (z0_75 xs) (z0_51 xs) (z0_47 xs) (z0_48 xs) (z0_st xs) (z0_s1 xs) (z0_s2 xs) (z0_ch xs) (z0_fa xs) (z0_pr xs) (z0_m0 xs) (z0_m2 xs) (z0_m5 xs) (z0_m6 xs) (z0_m7 xs) (z0_mc xs) (fun p hp => z0_an xs hp) (z0_xs xs)
  obtain ⟨n, r, M', h1, h2⟩ := lp_law (L := L) (xs := xs) hL 3000 0 0 v (zM0 xs) (by omega) (by omega) (by omega) (by omega) j1 j2 j3
  refine ⟨n, M', ?_⟩
  rw [h2] at h1
  exact h1
