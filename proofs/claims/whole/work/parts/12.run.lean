/-! whole runs -/
set_option maxHeartbeats 4000000 in
theorem zEx_mono {m : zD} {pc len pc' : Nat} {i : Jvm.ClassFile.Instr} {ls st ls' st' : List zV} {q q' : zS} (h : zEx m pc len i ls st q = some (.inl (pc', ls', st', q'))) : ∃ t, q'.1 = q.1 ++ t := by
  have h0 : ∀ {ok : Bool} {pc1 : Nat} {ls1 st1 : List zV} {q1 : zS}, zNx ok pc1 ls1 st1 q1 = some (.inl (pc', ls', st', q')) → q1 = q' := fun h => (zNx_inv h).2.2.2.2
  cases i <;> simp only [zEx, zBin, zLdI, zLdL, zLdA, zStI, zStL, zStA, zGetF, zPutF, zALd, zRLd, zASt, zRSt, zALen, zNewO, zNewA, zNewM, zMathS, zCallI, zJp, zCallV, zCallS, zRet] at h <;> (repeat' split at h) <;>
    first
    | (cases h; done)
    | (have h1 := h0 h; subst h1; exact ⟨[], (List.append_nil _).symm⟩)
    | (have h1 := h0 h; subst h1; exact ⟨_, rfl⟩)
    | (have h1 := h0 h; subst h1; exact ⟨_, List.append_assoc _ _ _⟩)
theorem zRun_mono : ∀ (n d : Nat) (m : zD) (pc : Nat) (ls st : List zV) (q : zS) (r : Option zV) (q' : zS), zRun n d m pc ls st q = some (r, q') → ∃ t, q'.1 = q.1 ++ t := by
  intro n
  induction n with
  | zero => intro d m pc ls st q r q' h; simp [zRun] at h
  | succ n ih =>
    intro d m pc ls st q r q' h
    simp only [zRun] at h
    split at h
    · split at h
      · next pc1 ls1 st1 q1 hx =>
        obtain ⟨t1, e1⟩ := zEx_mono hx
        obtain ⟨t2, e2⟩ := ih _ _ _ _ _ _ _ _ h
        exact ⟨t1 ++ t2, by rw [e2, e1, List.append_assoc]⟩
      · split at h
        · cases h
        · split at h
          · next r1 q1 hr =>
            obtain ⟨t1, e1⟩ := ih _ _ _ _ _ _ _ _ hr
            obtain ⟨t2, e2⟩ := ih _ _ _ _ _ _ _ _ h
            exact ⟨t1 ++ t2, by rw [e2, e1, List.append_assoc]⟩
          · cases h
      · cases h
        exact ⟨[], (List.append_nil _).symm⟩
      · cases h
    · cases h
theorem z_grow {q q' : zS} (h : ∃ t, q'.1 = q.1 ++ t) : q.1.length ≤ q'.1.length ∧ zSz q ≤ zSz q' := by
  obtain ⟨t, e⟩ := h
  unfold zSz
  rw [e]
  simp
/-- what a call is -/
theorem zEx_call {m m' : zD} {pc len : Nat} {i : Jvm.ClassFile.Instr} {ls st as rest : List zV} {q : zS} (h : zEx m pc len i ls st q = some (.inr (.inl (m', as, rest)))) :
    len = 3 ∧ zCs rest ≤ 8 ∧ (zSl as).length ≤ m'.2.2.2.1 ∧
    ((∃ (k np a : Nat), i = .invokevirtual k ∧ zCall m.1 k = some (0, np, m') ∧ as = rV a :: (st.take np).reverse ∧ st = st.take np ++ rV a :: rest ∧ np ≤ st.length ∧ q.1[a]?.map Prod.fst = some m'.1) ∨
     (∃ (k np : Nat), i = .invokestatic k ∧ zCall m.1 k = some (1, np, m') ∧ as = (st.take np).reverse ∧ st = st.take np ++ rest ∧ np ≤ st.length) ∨
     (∃ (k kd a : Nat), i = .invokespecial k ∧ zCall m.1 k = some (kd, 0, m') ∧ (kd = 2 ∨ kd = 3) ∧ as = [rV a] ∧ st = rV a :: rest)) := by
  have h0 : ∀ {ok : Bool} {pc1 : Nat} {ls1 st1 : List zV} {q1 : zS} {x : (zD × List zV × List zV) ⊕ Option zV}, zNx ok pc1 ls1 st1 q1 ≠ some (.inr x) := by
    intro ok pc1 ls1 st1 q1 x h
    unfold zNx at h
    split at h <;> cases h
  cases i with
  | invokevirtual k =>
    simp only [zEx, zCallV] at h
    split at h
    · next kd np m1 hf =>
      split at h
      · next a rest1 hd =>
        split at h
        · next hc =>
          cases h
          obtain ⟨rfl, hl, hr, hq, hs⟩ := hc
          have hlen : np ≤ st.length := by
            rcases Nat.lt_or_ge st.length np with z | z
            · rw [List.drop_eq_nil_of_le (by omega)] at hd; cases hd
            · exact z
          exact ⟨hl, hr, hs, Or.inl ⟨k, np, a, rfl, hf, rfl, by rw [← hd, List.take_append_drop], hlen, hq⟩⟩
        · cases h
      · cases h
    · cases h
  | invokestatic k =>
    simp only [zEx] at h
    split at h
    · simp only [zMathS] at h
      split at h <;> first | exact absurd h h0 | cases h
    · simp only [zCallS] at h
      split at h
      · next kd np m1 hf =>
        split at h
        · next hc =>
          cases h
          obtain ⟨rfl, hl, hr, hlen, hs⟩ := hc
          exact ⟨hl, hr, hs, Or.inr (Or.inl ⟨k, np, rfl, hf, rfl, by rw [List.take_append_drop], hlen⟩)⟩
        · cases h
      · cases h
  | invokespecial k =>
    simp only [zEx, zCallI] at h
    split at h
    · next a r =>
      split at h
      · exact absurd h h0
      · split at h
        · next kd np m1 hf =>
          split at h
          · next hc =>
            cases h
            obtain ⟨hkd, rfl, hl, hr, hm⟩ := hc
            exact ⟨hl, hr, by simpa [zSl, zCat] using hm, Or.inr (Or.inr ⟨k, kd, a, rfl, hf, hkd, rfl, rfl⟩)⟩
          · cases h
        · cases h
    · cases h
  | _ =>
    exfalso
    simp only [zEx, zBin, zLdI, zLdL, zLdA, zStI, zStL, zStA, zGetF, zPutF, zALd, zRLd, zASt, zRSt, zALen, zNewO, zNewA, zNewM, zJp, zRet] at h
    try (repeat' split at h)
    all_goals first | exact absurd h h0 | cases h
def zRetAt (m : zD) (pc : Nat) (r : Option zV) : Prop := match r with
  | some (.inl a) => decode m.2.2.1 pc = .ok (.ireturn, 1) ∧ (m.2.2.2.2 = some .int ∨ m.2.2.2.2 = some .boolean ∧ (a = 0 ∨ a = 1))
  | some (.inr (.inl _)) => decode m.2.2.1 pc = .ok (.lreturn, 1) ∧ m.2.2.2.2 = some .long
  | some (.inr (.inr (.inl _))) => decode m.2.2.1 pc = .ok (.areturn, 1) ∧ ∃ n, m.2.2.2.2 = some (.object n)
  | some (.inr (.inr (.inr _))) => False
  | none => decode m.2.2.1 pc = .ok (.return_, 1) ∧ m.2.2.2.2 = none
theorem zEx_ret {m : zD} {pc len : Nat} {i : Jvm.ClassFile.Instr} {ls st : List zV} {q : zS} {r : Option zV} (hdg : decode m.2.2.1 pc = .ok (i, len)) (h : zEx m pc len i ls st q = some (.inr (.inr r))) : zRetAt m pc r ∧ st = r.toList := by
  have h0 : ∀ {ok : Bool} {pc1 : Nat} {ls1 st1 : List zV} {q1 : zS} {x : (zD × List zV × List zV) ⊕ Option zV}, zNx ok pc1 ls1 st1 q1 ≠ some (.inr x) := by
    intro ok pc1 ls1 st1 q1 x h
    unfold zNx at h
    split at h <;> cases h
  cases i with
  | ireturn =>
    simp only [zEx, zRet] at h
    split at h
    · split at h
      · next hc =>
        cases h
        obtain ⟨rfl, hc⟩ := hc
        exact ⟨⟨hdg, hc⟩, rfl⟩
      · cases h
    · cases h
  | lreturn =>
    simp only [zEx] at h
    split at h
    · split at h
      · next hc =>
        cases h
        obtain ⟨rfl, hc⟩ := hc
        exact ⟨⟨hdg, hc⟩, rfl⟩
      · cases h
    · cases h
  | areturn =>
    simp only [zEx] at h
    split at h
    · next hret =>
      split at h
      · next hc =>
        cases h
        subst hc
        exact ⟨⟨hdg, _, hret⟩, rfl⟩
      · cases h
    · cases h
  | return_ =>
    simp only [zEx] at h
    split at h
    · split at h
      · next hc =>
        cases h
        obtain ⟨rfl, hc⟩ := hc
        exact ⟨⟨hdg, hc⟩, rfl⟩
      · cases h
    · cases h
  | _ =>
    exfalso
    simp only [zEx, zBin, zLdI, zLdL, zLdA, zStI, zStL, zStA, zGetF, zPutF, zALd, zRLd, zASt, zRSt, zALen, zNewO, zNewA, zNewM, zMathS, zCallI, zCallV, zCallS, zJp] at h
    try (repeat' split at h)
    all_goals first | exact absurd h h0 | cases h
