/-! the small machine behind the constructors: weakest preconditions. The shapes and the references stay. -/
def zQ (L : Nat) (M : zM) : zS := (zsh (20, L), zK0, M)
def wp (L d : Nat) (m : zD) (pc : Nat) (ls st : List zV) (M : zM) (Q : Option zV → zM → Prop) : Prop := ∃ (n : Nat) (r : Option zV) (M' : zM), zRun n d m pc ls st (zQ L M) = some (r, zQ L M') ∧ Q r M'
/-- a call -/
def wpc (L d : Nat) (m : zD) (as : List zV) (M : zM) (Q : Option zV → zM → Prop) : Prop := wp L d m 0 (zEnt m.2.2.2.1 as) [] M Q
theorem zRun_more : ∀ (n d : Nat) (m : zD) (pc : Nat) (ls st : List zV) (q : zS) (x : Option zV × zS), zRun n d m pc ls st q = some x → ∀ n' d', n ≤ n' → d ≤ d' → zRun n' d' m pc ls st q = some x := by
  intro n
  induction n with
  | zero => intro d m pc ls st q x h; simp [zRun] at h
  | succ n ih =>
    intro d m pc ls st q x h n' d' hn hd
    obtain ⟨k, rfl⟩ : ∃ k, n' = k + 1 := ⟨n' - 1, by omega⟩
    simp only [zRun] at h ⊢
    split at h
    · split at h
      · exact ih _ _ _ _ _ _ _ h _ _ (by omega) hd
      · split at h
        · cases h
        · next d1 =>
          obtain ⟨e, rfl⟩ : ∃ e, d' = e + 1 := ⟨d' - 1, by omega⟩
          split at h
          · next r1 q1 hr =>
            dsimp only
            rw [ih _ _ _ _ _ _ _ hr k e (by omega) (by omega)]
            exact ih _ _ _ _ _ _ _ h _ _ (by omega) (by omega)
          · cases h
      · exact h
      · cases h
    · cases h
section ZWP
variable {L d pc : Nat} {m : zD} {ls st : List zV} {M : zM} {Q : Option zV → zM → Prop}
theorem wp_mono {Q' : Option zV → zM → Prop} (h : wp L d m pc ls st M Q) (hq : ∀ r M', Q r M' → Q' r M') : wp L d m pc ls st M Q' := by
  obtain ⟨n, r, M', h1, h2⟩ := h
  exact ⟨n, r, M', h1, hq r M' h2⟩
theorem wpc_mono {as : List zV} {Q' : Option zV → zM → Prop} (h : wpc L d m as M Q) (hq : ∀ r M', Q r M' → Q' r M') : wpc L d m as M Q' := wp_mono h hq
theorem wp_deep {d' : Nat} (h : wp L d m pc ls st M Q) (hd : d ≤ d') : wp L d' m pc ls st M Q := by
  obtain ⟨n, r, M', h1, h2⟩ := h
  exact ⟨n, r, M', zRun_more _ _ _ _ _ _ _ _ h1 _ _ (Nat.le_refl _) hd, h2⟩
theorem wp_step {i : Jvm.ClassFile.Instr} {len pc' : Nat} {ls' st' : List zV} {M' : zM} (hd : decode m.2.2.1 pc = .ok (i, len)) (he : zEx m pc len i ls st (zQ L M) = some (.inl (pc', ls', st', zQ L M'))) (h : wp L d m pc' ls' st' M' Q) : wp L d m pc ls st M Q := by
  obtain ⟨n, r, M2, h1, h2⟩ := h
  refine ⟨n + 1, r, M2, ?_, h2⟩
  simp only [zRun, hd, he]
  exact h1
theorem wp_retX {i : Jvm.ClassFile.Instr} {len : Nat} {r : Option zV} (hd : decode m.2.2.1 pc = .ok (i, len)) (he : zEx m pc len i ls st (zQ L M) = some (.inr (.inr r))) (h : Q r M) : wp L d m pc ls st M Q := by
  refine ⟨1, r, M, ?_, h⟩
  simp only [zRun, hd, he]
theorem wp_callX {i : Jvm.ClassFile.Instr} {len d' : Nat} {m' : zD} {as rest : List zV} {P : Option zV → zM → Prop} (hd : decode m.2.2.1 pc = .ok (i, len)) (he : zEx m pc len i ls st (zQ L M) = some (.inr (.inl (m', as, rest)))) (hc : wpc L d' m' as M P) (hle : d' + 1 ≤ d)
    (h : ∀ r M', P r M' → wp L d m (pc + 3) ls (r.toList ++ rest) M' Q) : wp L d m pc ls st M Q := by
  obtain ⟨n1, r1, M1, h1, h2⟩ := hc
  obtain ⟨n2, r2, M2, h3, h4⟩ := h r1 M1 h2
  obtain ⟨e, rfl⟩ : ∃ e, d = e + 1 := ⟨d - 1, by omega⟩
  refine ⟨n1 + n2 + 1, r2, M2, ?_, h4⟩
  simp only [zRun, hd, he]
  rw [zRun_more _ _ _ _ _ _ _ _ h1 (n1 + n2) e (by omega) (by omega)]
  exact zRun_more _ _ _ _ _ _ _ _ h3 _ _ (by omega) (Nat.le_refl _)

theorem wp_iconst {n : Int} (hd : decode m.2.2.1 pc = .ok (.iconst n, 1)) (hn : decide (-128 ≤ n ∧ n < 128) = true) (h : wp L d m (pc + 1) ls (iV n :: st) M Q) : wp L d m pc ls st M Q :=
  wp_step hd (by simp only [zEx, zNx, hn, beq_self_eq_true, Bool.and_self, if_true]) h
theorem wp_bipush {n : Int} (hd : decode m.2.2.1 pc = .ok (.bipush n, 2)) (hn : decide (-128 ≤ n ∧ n < 128) = true) (h : wp L d m (pc + 2) ls (iV n :: st) M Q) : wp L d m pc ls st M Q :=
  wp_step hd (by simp only [zEx, zNx, hn, beq_self_eq_true, Bool.and_self, if_true]) h
theorem wp_sipush {n : Int} (hd : decode m.2.2.1 pc = .ok (.sipush n, 3)) (hn : decide (-32768 ≤ n ∧ n < 32768) = true) (h : wp L d m (pc + 3) ls (iV n :: st) M Q) : wp L d m pc ls st M Q :=
  wp_step hd (by simp only [zEx, zNx, hn, beq_self_eq_true, Bool.and_self, if_true]) h
theorem wp_ldc {k : Nat} {v : Int} (hd : decode m.2.2.1 pc = .ok (.ldc k, 2)) (hv : zCst m.1 k = some v) (h : wp L d m (pc + 2) ls (iV v :: st) M Q) : wp L d m pc ls st M Q :=
  wp_step hd (by simp only [zEx, hv]; rfl) h
theorem wp_ldc_w {k : Nat} {v : Int} (hd : decode m.2.2.1 pc = .ok (.ldc_w k, 3)) (hv : zCst m.1 k = some v) (h : wp L d m (pc + 3) ls (iV v :: st) M Q) : wp L d m pc ls st M Q :=
  wp_step hd (by simp only [zEx, hv]; rfl) h
theorem wp_ldc2_w {k : Nat} {v : Int64} (hd : decode m.2.2.1 pc = .ok (.ldc2_w k, 3)) (hv : zCstL m.1 k = some v) (h : wp L d m (pc + 3) ls (lV v :: st) M Q) : wp L d m pc ls st M Q :=
  wp_step hd (by simp only [zEx, hv]; rfl) h
theorem wp_iload {k : Nat} {x : Int} (hd : decode m.2.2.1 pc = .ok (.iload k, 2)) (hl : ls[k]? = some (iV x)) (h : wp L d m (pc + 2) ls (iV x :: st) M Q) : wp L d m pc ls st M Q :=
  wp_step hd (by simp only [zEx, zLdI, hl]; rfl) h
theorem wp_iload_n {k : Fin 4} {x : Int} (hd : decode m.2.2.1 pc = .ok (.iload_n k, 1)) (hl : ls[k.val]? = some (iV x)) (h : wp L d m (pc + 1) ls (iV x :: st) M Q) : wp L d m pc ls st M Q :=
  wp_step hd (by simp only [zEx, zLdI, hl]; rfl) h
theorem wp_lload {k : Nat} {x : Int64} (hd : decode m.2.2.1 pc = .ok (.lload k, 2)) (hl : ls[k]? = some (lV x)) (h : wp L d m (pc + 2) ls (lV x :: st) M Q) : wp L d m pc ls st M Q :=
  wp_step hd (by simp only [zEx, zLdL, hl]; rfl) h
theorem wp_lload_n {k : Fin 4} {x : Int64} (hd : decode m.2.2.1 pc = .ok (.lload_n k, 1)) (hl : ls[k.val]? = some (lV x)) (h : wp L d m (pc + 1) ls (lV x :: st) M Q) : wp L d m pc ls st M Q :=
  wp_step hd (by simp only [zEx, zLdL, hl]; rfl) h
theorem wp_aload {k : Nat} {x : Nat} (hd : decode m.2.2.1 pc = .ok (.aload k, 2)) (hl : ls[k]? = some (rV x)) (h : wp L d m (pc + 2) ls (rV x :: st) M Q) : wp L d m pc ls st M Q :=
  wp_step hd (by simp only [zEx, zLdA, hl]; rfl) h
theorem wp_aload_n {k : Fin 4} {x : Nat} (hd : decode m.2.2.1 pc = .ok (.aload_n k, 1)) (hl : ls[k.val]? = some (rV x)) (h : wp L d m (pc + 1) ls (rV x :: st) M Q) : wp L d m pc ls st M Q :=
  wp_step hd (by simp only [zEx, zLdA, hl]; rfl) h
theorem wp_istore {k : Nat} {x : Int} {ls' : List zV} (hd : decode m.2.2.1 pc = .ok (.istore k, 2)) (hf : (decide (k < ls.length) && zFree ls k) = true) (hs : ls.set k (iV x) = ls') (h : wp L d m (pc + 2) ls' st M Q) : wp L d m pc ls (iV x :: st) M Q := by
  subst hs
  exact wp_step hd (by simp only [zEx, zStI, zNx]; rw [Bool.and_assoc, hf]; rfl) h
theorem wp_istore_n {k : Fin 4} {x : Int} {ls' : List zV} (hd : decode m.2.2.1 pc = .ok (.istore_n k, 1)) (hf : (decide (k.val < ls.length) && zFree ls k.val) = true) (hs : ls.set k.val (iV x) = ls') (h : wp L d m (pc + 1) ls' st M Q) : wp L d m pc ls (iV x :: st) M Q := by
  subst hs
  exact wp_step hd (by simp only [zEx, zStI, zNx]; rw [Bool.and_assoc, hf]; rfl) h
theorem wp_astore {k : Nat} {x : Nat} {ls' : List zV} (hd : decode m.2.2.1 pc = .ok (.astore k, 2)) (hf : (decide (k < ls.length) && zFree ls k) = true) (hs : ls.set k (rV x) = ls') (h : wp L d m (pc + 2) ls' st M Q) : wp L d m pc ls (rV x :: st) M Q := by
  subst hs
  exact wp_step hd (by simp only [zEx, zStA, zNx]; rw [Bool.and_assoc, hf]; rfl) h
theorem wp_astore_n {k : Fin 4} {x : Nat} {ls' : List zV} (hd : decode m.2.2.1 pc = .ok (.astore_n k, 1)) (hf : (decide (k.val < ls.length) && zFree ls k.val) = true) (hs : ls.set k.val (rV x) = ls') (h : wp L d m (pc + 1) ls' st M Q) : wp L d m pc ls (rV x :: st) M Q := by
  subst hs
  exact wp_step hd (by simp only [zEx, zStA, zNx]; rw [Bool.and_assoc, hf]; rfl) h
theorem wp_lstore {k : Nat} {x : Int64} {ls' : List zV} (hd : decode m.2.2.1 pc = .ok (.lstore k, 2)) (hf : (decide (k + 1 < ls.length) && zFree ls k) = true) (hs : (ls.set k (lV x)).set (k + 1) uV = ls') (h : wp L d m (pc + 2) ls' st M Q) : wp L d m pc ls (lV x :: st) M Q := by
  subst hs
  exact wp_step hd (by simp only [zEx, zStL, zNx]; rw [Bool.and_assoc, hf]; rfl) h
theorem wp_lstore_n {k : Fin 4} {x : Int64} {ls' : List zV} (hd : decode m.2.2.1 pc = .ok (.lstore_n k, 1)) (hf : (decide (k.val + 1 < ls.length) && zFree ls k.val) = true) (hs : (ls.set k.val (lV x)).set (k.val + 1) uV = ls') (h : wp L d m (pc + 1) ls' st M Q) : wp L d m pc ls (lV x :: st) M Q := by
  subst hs
  exact wp_step hd (by simp only [zEx, zStL, zNx]; rw [Bool.and_assoc, hf]; rfl) h
theorem z2_in {f : Int32 → Int32 → Int32} {a b v : Int} (hv : f (Int32.ofInt a) (Int32.ofInt b) = Int32.ofInt v) (h : zR v) : zI2 f a b = v := by
  unfold zI2
  rw [hv, z_of h]
theorem z_add (a b : Int) : Int32.ofInt a + Int32.ofInt b = Int32.ofInt (a + b) := (Int32.ofInt_add a b).symm
theorem z_sub (a b : Int) : Int32.ofInt a - Int32.ofInt b = Int32.ofInt (a - b) := (Int32.ofInt_sub a b).symm
theorem z_mul (a b : Int) : Int32.ofInt a * Int32.ofInt b = Int32.ofInt (a * b) := (Int32.ofInt_mul a b).symm
theorem wp_iinc {k : Nat} {n a : Int} {ls' : List zV} (hd : decode m.2.2.1 pc = .ok (.iinc k n, 3)) (hl : ls[k]? = some (iV a)) (hf : zFree ls k = true) (h1 : -2147483648 ≤ a + n) (h2 : a + n ≤ 2147483647) (hs : ls.set k (iV (a + n)) = ls') (h : wp L d m (pc + 3) ls' st M Q) : wp L d m pc ls st M Q := by
  subst hs
  refine wp_step hd ?_ h
  simp only [zEx, hl, hf]
  rw [z2_in (z_add a n) ⟨h1, h2⟩]
  rfl
theorem wp_iadd {a b : Int} (hd : decode m.2.2.1 pc = .ok (.iadd, 1)) (h1 : -2147483648 ≤ a + b) (h2 : a + b ≤ 2147483647) (h : wp L d m (pc + 1) ls (iV (a + b) :: st) M Q) : wp L d m pc ls (iV b :: iV a :: st) M Q := by
  refine wp_step hd ?_ h
  simp only [zEx, zBin]
  rw [z2_in (z_add a b) ⟨h1, h2⟩]
  rfl
theorem wp_isub {a b : Int} (hd : decode m.2.2.1 pc = .ok (.isub, 1)) (h1 : -2147483648 ≤ a - b) (h2 : a - b ≤ 2147483647) (h : wp L d m (pc + 1) ls (iV (a - b) :: st) M Q) : wp L d m pc ls (iV b :: iV a :: st) M Q := by
  refine wp_step hd ?_ h
  simp only [zEx, zBin]
  rw [z2_in (z_sub a b) ⟨h1, h2⟩]
  rfl
theorem wp_imul {a b : Int} (hd : decode m.2.2.1 pc = .ok (.imul, 1)) (h1 : -2147483648 ≤ a * b) (h2 : a * b ≤ 2147483647) (h : wp L d m (pc + 1) ls (iV (a * b) :: st) M Q) : wp L d m pc ls (iV b :: iV a :: st) M Q := by
  refine wp_step hd ?_ h
  simp only [zEx, zBin]
  rw [z2_in (z_mul a b) ⟨h1, h2⟩]
  rfl
theorem wp_iand {a b v : Int} (hd : decode m.2.2.1 pc = .ok (.iand, 1)) (hv : zI2 (· &&& ·) a b = v) (h : wp L d m (pc + 1) ls (iV v :: st) M Q) : wp L d m pc ls (iV b :: iV a :: st) M Q := by
  subst hv
  exact wp_step hd rfl h
theorem wp_ior {a b v : Int} (hd : decode m.2.2.1 pc = .ok (.ior, 1)) (hv : zI2 (· ||| ·) a b = v) (h : wp L d m (pc + 1) ls (iV v :: st) M Q) : wp L d m pc ls (iV b :: iV a :: st) M Q := by
  subst hv
  exact wp_step hd rfl h
theorem wp_ixor {a b v : Int} (hd : decode m.2.2.1 pc = .ok (.ixor, 1)) (hv : zI2 (· ^^^ ·) a b = v) (h : wp L d m (pc + 1) ls (iV v :: st) M Q) : wp L d m pc ls (iV b :: iV a :: st) M Q := by
  subst hv
  exact wp_step hd rfl h
theorem wp_ishl {a b v : Int} (hd : decode m.2.2.1 pc = .ok (.ishl, 1)) (hv : zI2 zShl a b = v) (h : wp L d m (pc + 1) ls (iV v :: st) M Q) : wp L d m pc ls (iV b :: iV a :: st) M Q := by
  subst hv
  exact wp_step hd rfl h
theorem wp_ishr {a b v : Int} (hd : decode m.2.2.1 pc = .ok (.ishr, 1)) (hv : zI2 zShr a b = v) (h : wp L d m (pc + 1) ls (iV v :: st) M Q) : wp L d m pc ls (iV b :: iV a :: st) M Q := by
  subst hv
  exact wp_step hd rfl h
theorem wp_iushr {a b v : Int} (hd : decode m.2.2.1 pc = .ok (.iushr, 1)) (hv : zI2 zUsr a b = v) (h : wp L d m (pc + 1) ls (iV v :: st) M Q) : wp L d m pc ls (iV b :: iV a :: st) M Q := by
  subst hv
  exact wp_step hd rfl h
theorem wp_idiv {a b v : Int} (hd : decode m.2.2.1 pc = .ok (.idiv, 1)) (hb : ¬ b = 0) (hv : zI2 (· / ·) a b = v) (h : wp L d m (pc + 1) ls (iV v :: st) M Q) : wp L d m pc ls (iV b :: iV a :: st) M Q := by
  subst hv
  exact wp_step hd (by simp only [zEx, zBin, hb, not_false_eq_true, decide_true]; rfl) h
theorem wp_irem {a b v : Int} (hd : decode m.2.2.1 pc = .ok (.irem, 1)) (hb : ¬ b = 0) (hv : zI2 zRem a b = v) (h : wp L d m (pc + 1) ls (iV v :: st) M Q) : wp L d m pc ls (iV b :: iV a :: st) M Q := by
  subst hv
  exact wp_step hd (by simp only [zEx, zBin, hb, not_false_eq_true, decide_true]; rfl) h
theorem wp_ineg {a v : Int} (hd : decode m.2.2.1 pc = .ok (.ineg, 1)) (hv : (-(Int32.ofInt a)).toInt = v) (h : wp L d m (pc + 1) ls (iV v :: st) M Q) : wp L d m pc ls (iV a :: st) M Q := by
  subst hv
  exact wp_step hd rfl h
theorem wp_i2l {a : Int} (hd : decode m.2.2.1 pc = .ok (.i2l, 1)) (h : wp L d m (pc + 1) ls (lV (Int32.ofInt a).toInt64 :: st) M Q) : wp L d m pc ls (iV a :: st) M Q := wp_step hd rfl h
theorem wp_ladd {a b : Int64} (hd : decode m.2.2.1 pc = .ok (.ladd, 1)) (h : wp L d m (pc + 1) ls (lV (a + b) :: st) M Q) : wp L d m pc ls (lV b :: lV a :: st) M Q := wp_step hd rfl h
theorem wp_lmul {a b : Int64} (hd : decode m.2.2.1 pc = .ok (.lmul, 1)) (h : wp L d m (pc + 1) ls (lV (a * b) :: st) M Q) : wp L d m pc ls (lV b :: lV a :: st) M Q := wp_step hd rfl h
theorem wp_lcmp {a b : Int64} (hd : decode m.2.2.1 pc = .ok (.lcmp, 1)) (h : wp L d m (pc + 1) ls (iV (lg_cmp a b).toInt :: st) M Q) : wp L d m pc ls (lV b :: lV a :: st) M Q := wp_step hd rfl h
theorem wp_dup {v : zV} (hd : decode m.2.2.1 pc = .ok (.dup, 1)) (hv : (zCat v == 1) = true) (h : wp L d m (pc + 1) ls (v :: v :: st) M Q) : wp L d m pc ls (v :: st) M Q := wp_step hd (by simp only [zEx, hv]; rfl) h
theorem wp_pop {v : zV} (hd : decode m.2.2.1 pc = .ok (.pop, 1)) (hv : (zCat v == 1) = true) (h : wp L d m (pc + 1) ls st M Q) : wp L d m pc ls (v :: st) M Q := wp_step hd (by simp only [zEx, hv]; rfl) h
theorem wp_dup2 {v w : zV} (hd : decode m.2.2.1 pc = .ok (.dup2, 1)) (hv : (zCat v == 1) = true) (hw : (zCat w == 1) = true) (h : wp L d m (pc + 1) ls (v :: w :: v :: w :: st) M Q) : wp L d m pc ls (v :: w :: st) M Q := wp_step hd (by simp only [zEx, hv, hw]; rfl) h
theorem zJp_at {off : Int} {tgt : Nat} {ls st : List zV} {q : zS} (ht : (pc : Int) + off = (tgt : Int)) : zJp true pc off ls st q = some (.inl (tgt, ls, st, q)) := by
  unfold zJp zNx
  rw [ht]
  rw [if_pos (by simp)]
  rfl
theorem wp_goto {off : Int} {tgt : Nat} (hd : decode m.2.2.1 pc = .ok (.goto off, 3)) (ht : (pc : Int) + off = (tgt : Int)) (h : wp L d m tgt ls st M Q) : wp L d m pc ls st M Q := wp_step hd (zJp_at ht) h
theorem wp_if_eq {a off : Int} {tgt : Nat} (hd : decode m.2.2.1 pc = .ok (.ifCond .eq off, 3)) (ht : (pc : Int) + off = (tgt : Int)) (kt : a = 0 → wp L d m tgt ls st M Q) (kf : ¬ (a = 0) → wp L d m (pc + 3) ls st M Q) : wp L d m pc ls (iV a :: st) M Q := by
  by_cases hc : a = 0
  · refine wp_step hd ?_ (kt hc)
    simp only [zEx]
    rw [if_pos (show zC .eq a 0 = true from decide_eq_true hc)]
    exact zJp_at ht
  · refine wp_step hd ?_ (kf hc)
    simp only [zEx]
    rw [if_neg (show ¬ zC .eq a 0 = true from fun h => hc (of_decide_eq_true h))]
    rfl
theorem wp_icmp_eq {a b off : Int} {tgt : Nat} (hd : decode m.2.2.1 pc = .ok (.if_icmp .eq off, 3)) (ht : (pc : Int) + off = (tgt : Int)) (kt : a = b → wp L d m tgt ls st M Q) (kf : ¬ (a = b) → wp L d m (pc + 3) ls st M Q) : wp L d m pc ls (iV b :: iV a :: st) M Q := by
  by_cases hc : a = b
  · refine wp_step hd ?_ (kt hc)
    simp only [zEx]
    rw [if_pos (show zC .eq a b = true from decide_eq_true hc)]
    exact zJp_at ht
  · refine wp_step hd ?_ (kf hc)
    simp only [zEx]
    rw [if_neg (show ¬ zC .eq a b = true from fun h => hc (of_decide_eq_true h))]
    rfl
theorem wp_if_ne {a off : Int} {tgt : Nat} (hd : decode m.2.2.1 pc = .ok (.ifCond .ne off, 3)) (ht : (pc : Int) + off = (tgt : Int)) (kt : ¬ a = 0 → wp L d m tgt ls st M Q) (kf : ¬ (¬ a = 0) → wp L d m (pc + 3) ls st M Q) : wp L d m pc ls (iV a :: st) M Q := by
  by_cases hc : ¬ a = 0
  · refine wp_step hd ?_ (kt hc)
    simp only [zEx]
    rw [if_pos (show zC .ne a 0 = true from decide_eq_true hc)]
    exact zJp_at ht
  · refine wp_step hd ?_ (kf hc)
    simp only [zEx]
    rw [if_neg (show ¬ zC .ne a 0 = true from fun h => hc (of_decide_eq_true h))]
    rfl
theorem wp_icmp_ne {a b off : Int} {tgt : Nat} (hd : decode m.2.2.1 pc = .ok (.if_icmp .ne off, 3)) (ht : (pc : Int) + off = (tgt : Int)) (kt : ¬ a = b → wp L d m tgt ls st M Q) (kf : ¬ (¬ a = b) → wp L d m (pc + 3) ls st M Q) : wp L d m pc ls (iV b :: iV a :: st) M Q := by
  by_cases hc : ¬ a = b
  · refine wp_step hd ?_ (kt hc)
    simp only [zEx]
    rw [if_pos (show zC .ne a b = true from decide_eq_true hc)]
    exact zJp_at ht
  · refine wp_step hd ?_ (kf hc)
    simp only [zEx]
    rw [if_neg (show ¬ zC .ne a b = true from fun h => hc (of_decide_eq_true h))]
    rfl
theorem wp_if_lt {a off : Int} {tgt : Nat} (hd : decode m.2.2.1 pc = .ok (.ifCond .lt off, 3)) (ht : (pc : Int) + off = (tgt : Int)) (kt : a < 0 → wp L d m tgt ls st M Q) (kf : ¬ (a < 0) → wp L d m (pc + 3) ls st M Q) : wp L d m pc ls (iV a :: st) M Q := by
  by_cases hc : a < 0
  · refine wp_step hd ?_ (kt hc)
    simp only [zEx]
    rw [if_pos (show zC .lt a 0 = true from decide_eq_true hc)]
    exact zJp_at ht
  · refine wp_step hd ?_ (kf hc)
    simp only [zEx]
    rw [if_neg (show ¬ zC .lt a 0 = true from fun h => hc (of_decide_eq_true h))]
    rfl
theorem wp_icmp_lt {a b off : Int} {tgt : Nat} (hd : decode m.2.2.1 pc = .ok (.if_icmp .lt off, 3)) (ht : (pc : Int) + off = (tgt : Int)) (kt : a < b → wp L d m tgt ls st M Q) (kf : ¬ (a < b) → wp L d m (pc + 3) ls st M Q) : wp L d m pc ls (iV b :: iV a :: st) M Q := by
  by_cases hc : a < b
  · refine wp_step hd ?_ (kt hc)
    simp only [zEx]
    rw [if_pos (show zC .lt a b = true from decide_eq_true hc)]
    exact zJp_at ht
  · refine wp_step hd ?_ (kf hc)
    simp only [zEx]
    rw [if_neg (show ¬ zC .lt a b = true from fun h => hc (of_decide_eq_true h))]
    rfl
theorem wp_if_ge {a off : Int} {tgt : Nat} (hd : decode m.2.2.1 pc = .ok (.ifCond .ge off, 3)) (ht : (pc : Int) + off = (tgt : Int)) (kt : 0 ≤ a → wp L d m tgt ls st M Q) (kf : ¬ (0 ≤ a) → wp L d m (pc + 3) ls st M Q) : wp L d m pc ls (iV a :: st) M Q := by
  by_cases hc : 0 ≤ a
  · refine wp_step hd ?_ (kt hc)
    simp only [zEx]
    rw [if_pos (show zC .ge a 0 = true from decide_eq_true hc)]
    exact zJp_at ht
  · refine wp_step hd ?_ (kf hc)
    simp only [zEx]
    rw [if_neg (show ¬ zC .ge a 0 = true from fun h => hc (of_decide_eq_true h))]
    rfl
theorem wp_icmp_ge {a b off : Int} {tgt : Nat} (hd : decode m.2.2.1 pc = .ok (.if_icmp .ge off, 3)) (ht : (pc : Int) + off = (tgt : Int)) (kt : b ≤ a → wp L d m tgt ls st M Q) (kf : ¬ (b ≤ a) → wp L d m (pc + 3) ls st M Q) : wp L d m pc ls (iV b :: iV a :: st) M Q := by
  by_cases hc : b ≤ a
  · refine wp_step hd ?_ (kt hc)
    simp only [zEx]
    rw [if_pos (show zC .ge a b = true from decide_eq_true hc)]
    exact zJp_at ht
  · refine wp_step hd ?_ (kf hc)
    simp only [zEx]
    rw [if_neg (show ¬ zC .ge a b = true from fun h => hc (of_decide_eq_true h))]
    rfl
theorem wp_if_gt {a off : Int} {tgt : Nat} (hd : decode m.2.2.1 pc = .ok (.ifCond .gt off, 3)) (ht : (pc : Int) + off = (tgt : Int)) (kt : 0 < a → wp L d m tgt ls st M Q) (kf : ¬ (0 < a) → wp L d m (pc + 3) ls st M Q) : wp L d m pc ls (iV a :: st) M Q := by
  by_cases hc : 0 < a
  · refine wp_step hd ?_ (kt hc)
    simp only [zEx]
    rw [if_pos (show zC .gt a 0 = true from decide_eq_true hc)]
    exact zJp_at ht
  · refine wp_step hd ?_ (kf hc)
    simp only [zEx]
    rw [if_neg (show ¬ zC .gt a 0 = true from fun h => hc (of_decide_eq_true h))]
    rfl
theorem wp_icmp_gt {a b off : Int} {tgt : Nat} (hd : decode m.2.2.1 pc = .ok (.if_icmp .gt off, 3)) (ht : (pc : Int) + off = (tgt : Int)) (kt : b < a → wp L d m tgt ls st M Q) (kf : ¬ (b < a) → wp L d m (pc + 3) ls st M Q) : wp L d m pc ls (iV b :: iV a :: st) M Q := by
  by_cases hc : b < a
  · refine wp_step hd ?_ (kt hc)
    simp only [zEx]
    rw [if_pos (show zC .gt a b = true from decide_eq_true hc)]
    exact zJp_at ht
  · refine wp_step hd ?_ (kf hc)
    simp only [zEx]
    rw [if_neg (show ¬ zC .gt a b = true from fun h => hc (of_decide_eq_true h))]
    rfl
theorem wp_if_le {a off : Int} {tgt : Nat} (hd : decode m.2.2.1 pc = .ok (.ifCond .le off, 3)) (ht : (pc : Int) + off = (tgt : Int)) (kt : a ≤ 0 → wp L d m tgt ls st M Q) (kf : ¬ (a ≤ 0) → wp L d m (pc + 3) ls st M Q) : wp L d m pc ls (iV a :: st) M Q := by
  by_cases hc : a ≤ 0
  · refine wp_step hd ?_ (kt hc)
    simp only [zEx]
    rw [if_pos (show zC .le a 0 = true from decide_eq_true hc)]
    exact zJp_at ht
  · refine wp_step hd ?_ (kf hc)
    simp only [zEx]
    rw [if_neg (show ¬ zC .le a 0 = true from fun h => hc (of_decide_eq_true h))]
    rfl
theorem wp_icmp_le {a b off : Int} {tgt : Nat} (hd : decode m.2.2.1 pc = .ok (.if_icmp .le off, 3)) (ht : (pc : Int) + off = (tgt : Int)) (kt : a ≤ b → wp L d m tgt ls st M Q) (kf : ¬ (a ≤ b) → wp L d m (pc + 3) ls st M Q) : wp L d m pc ls (iV b :: iV a :: st) M Q := by
  by_cases hc : a ≤ b
  · refine wp_step hd ?_ (kt hc)
    simp only [zEx]
    rw [if_pos (show zC .le a b = true from decide_eq_true hc)]
    exact zJp_at ht
  · refine wp_step hd ?_ (kf hc)
    simp only [zEx]
    rw [if_neg (show ¬ zC .le a b = true from fun h => hc (of_decide_eq_true h))]
    rfl
theorem wp_tableO {a dd lo hi : Int} {offs : Array Int} {len tgt : Nat} (hd : decode m.2.2.1 pc = .ok (.tableswitch dd lo hi offs, len)) (ho : a < lo ∨ hi < a) (ht : (pc : Int) + dd = (tgt : Int)) (h : wp L d m tgt ls st M Q) : wp L d m pc ls (iV a :: st) M Q := by
  refine wp_step hd ?_ h
  simp only [zEx]
  rw [if_pos ho]
  exact zJp_at ht
theorem wp_tableI {a dd lo hi off : Int} {offs : Array Int} {len tgt : Nat} (hd : decode m.2.2.1 pc = .ok (.tableswitch dd lo hi offs, len)) (h1 : lo ≤ a) (h2 : a ≤ hi) (hf : offs[(a - lo).toNat]? = some off) (ht : (pc : Int) + off = (tgt : Int)) (h : wp L d m tgt ls st M Q) : wp L d m pc ls (iV a :: st) M Q := by
  refine wp_step hd ?_ h
  simp only [zEx]
  rw [if_neg (by omega), hf]
  exact zJp_at ht
/-- kinds and sizes of the cells -/
def zkd (L a : Nat) : Option (Nat × Nat) := (zsh (20, L))[a]?
theorem zk_map {a C sz : Nat} (hk : zkd L a = some (C, sz)) : ((zQ L M).1[a]?).map Prod.fst = some C := by
  rw [show (zQ L M).1[a]? = some (C, sz) from hk]; rfl
theorem wp_getI {k C f t a sz : Nat} {fin : Bool} (hd : decode m.2.2.1 pc = .ok (.getfield k, 3)) (hf : zFld m.1 k = some (C, f, t, fin)) (ht : t = 0 ∨ t = 1) (hk : zkd L a = some (C, sz)) (h : wp L d m (pc + 3) ls (iV (M a f) :: st) M Q) : wp L d m pc ls (rV a :: st) M Q := by
  refine wp_step hd ?_ h
  show zGetF pc 3 (zFld m.1 k) ls (rV a :: st) (zQ L M) = _
  rw [hf]
  exact (if_pos (zk_map hk)).trans ((if_neg (by omega)).trans ((if_neg (by omega)).trans rfl))
theorem wp_getR {k C f a sz b : Nat} {fin : Bool} (hd : decode m.2.2.1 pc = .ok (.getfield k, 3)) (hf : zFld m.1 k = some (C, f, 3, fin)) (hk : zkd L a = some (C, sz)) (hb : zK0 a f = (b : Int)) (h : wp L d m (pc + 3) ls (rV b :: st) M Q) : wp L d m pc ls (rV a :: st) M Q := by
  refine wp_step hd ?_ h
  show zGetF pc 3 (zFld m.1 k) ls (rV a :: st) (zQ L M) = _
  rw [hf]
  refine (if_pos (zk_map hk)).trans ((if_pos rfl).trans ?_)
  show zNx (3 == 3 && decide (0 ≤ zK0 a f)) (pc + 3) ls (rV (zK0 a f).toNat :: st) (zQ L M) = _
  rw [hb]
  unfold zNx
  rw [if_pos (by simp)]
  rfl
theorem wp_getL {k C f a sz : Nat} {fin : Bool} (hd : decode m.2.2.1 pc = .ok (.getfield k, 3)) (hf : zFld m.1 k = some (C, f, 2, fin)) (hk : zkd L a = some (C, sz)) (h : wp L d m (pc + 3) ls (lV (zLg (M a f) (M a (f + 1000))) :: st) M Q) : wp L d m pc ls (rV a :: st) M Q := by
  refine wp_step hd ?_ h
  show zGetF pc 3 (zFld m.1 k) ls (rV a :: st) (zQ L M) = _
  rw [hf]
  exact (if_pos (zk_map hk)).trans ((if_neg (by omega)).trans ((if_pos rfl).trans rfl))
theorem wp_putI {k C f a sz : Nat} {x : Int} (hd : decode m.2.2.1 pc = .ok (.putfield k, 3)) (hf : zFld m.1 k = some (C, f, 0, false)) (hk : zkd L a = some (C, sz)) (h4 : 4 ≤ a) (h : wp L d m (pc + 3) ls st (zU M a f x) Q) : wp L d m pc ls (iV x :: rV a :: st) M Q := by
  refine wp_step hd ?_ h
  show zPutF m pc 3 (zFld m.1 k) ls (iV x :: rV a :: st) (zQ L M) = _
  rw [hf]
  exact (if_pos ⟨zk_map hk, h4, Or.inl rfl, rfl⟩).trans rfl
theorem wp_putZ {k C f a sz : Nat} {x : Int} (hd : decode m.2.2.1 pc = .ok (.putfield k, 3)) (hf : zFld m.1 k = some (C, f, 1, false)) (hk : zkd L a = some (C, sz)) (h4 : 4 ≤ a) (hx : x = 0 ∨ x = 1) (h : wp L d m (pc + 3) ls st (zU M a f x) Q) : wp L d m pc ls (iV x :: rV a :: st) M Q := by
  refine wp_step hd ?_ h
  show zPutF m pc 3 (zFld m.1 k) ls (iV x :: rV a :: st) (zQ L M) = _
  rw [hf]
  exact (if_pos ⟨zk_map hk, h4, Or.inr ⟨rfl, hx⟩, rfl⟩).trans rfl
theorem wp_putL {k C f a sz : Nat} {x : Int64} (hd : decode m.2.2.1 pc = .ok (.putfield k, 3)) (hf : zFld m.1 k = some (C, f, 2, false)) (hk : zkd L a = some (C, sz)) (h4 : 4 ≤ a) (h : wp L d m (pc + 3) ls st (zU (zU M a f (zHi x)) a (f + 1000) (zLo x)) Q) : wp L d m pc ls (lV x :: rV a :: st) M Q := by
  refine wp_step hd ?_ h
  show zPutF m pc 3 (zFld m.1 k) ls (lV x :: rV a :: st) (zQ L M) = _
  rw [hf]
  exact (if_pos ⟨zk_map hk, h4, rfl, rfl⟩).trans rfl
theorem wp_getS {k a : Nat} (hd : decode m.2.2.1 pc = .ok (.getstatic k, 3)) (hf : zStat m.1 k = some a) (h : wp L d m (pc + 3) ls (rV a :: st) M Q) : wp L d m pc ls st M Q := by
  refine wp_step hd ?_ h
  simp only [zEx, hf]
  rfl
theorem wp_iald {a n : Nat} {i : Int} (hd : decode m.2.2.1 pc = .ok (.iaload, 1)) (hk : zkd L a = some (20, n)) (h0 : 0 ≤ i) (h1 : i < n) (h : wp L d m (pc + 1) ls (iV (M a i.toNat) :: st) M Q) : wp L d m pc ls (iV i :: rV a :: st) M Q := by
  refine wp_step hd ?_ h
  show zALd pc 1 20 ls (iV i :: rV a :: st) (zQ L M) = _
  have hk' : (zQ L M).1[a]? = some (20, n) := hk
  unfold zALd
  dsimp only
  rw [hk']
  exact (if_pos ⟨rfl, h0, h1⟩).trans rfl
theorem wp_bald {a n : Nat} {i : Int} (hd : decode m.2.2.1 pc = .ok (.baload, 1)) (hk : zkd L a = some (21, n)) (h0 : 0 ≤ i) (h1 : i < n) (h : wp L d m (pc + 1) ls (iV (M a i.toNat) :: st) M Q) : wp L d m pc ls (iV i :: rV a :: st) M Q := by
  refine wp_step hd ?_ h
  show zALd pc 1 21 ls (iV i :: rV a :: st) (zQ L M) = _
  have hk' : (zQ L M).1[a]? = some (21, n) := hk
  unfold zALd
  dsimp only
  rw [hk']
  exact (if_pos ⟨rfl, h0, h1⟩).trans rfl
theorem wp_aald {a n b kd : Nat} {i : Int} (hd : decode m.2.2.1 pc = .ok (.aaload, 1)) (hk : zkd L a = some (kd, n)) (hkd : kd = 22 ∨ kd = 23 ∨ kd = 24) (h0 : 0 ≤ i) (h1 : i < n) (hb : zK0 a i.toNat = (b : Int)) (h : wp L d m (pc + 1) ls (rV b :: st) M Q) : wp L d m pc ls (iV i :: rV a :: st) M Q := by
  refine wp_step hd ?_ h
  show zRLd pc 1 ls (iV i :: rV a :: st) (zQ L M) = _
  have hk' : (zQ L M).1[a]? = some (kd, n) := hk
  have hb' : (zQ L M).2.1 a i.toNat = (b : Int) := hb
  unfold zRLd
  dsimp only
  rw [hk']
  dsimp only
  rw [hb']
  exact (if_pos ⟨hkd, h0, h1, by omega⟩).trans rfl
theorem wp_iast {a n : Nat} {i x : Int} (hd : decode m.2.2.1 pc = .ok (.iastore, 1)) (hk : zkd L a = some (20, n)) (h4 : 4 ≤ a) (h0 : 0 ≤ i) (h1 : i < n) (h : wp L d m (pc + 1) ls st (zU M a i.toNat x) Q) : wp L d m pc ls (iV x :: iV i :: rV a :: st) M Q := by
  refine wp_step hd ?_ h
  show zASt pc 1 20 ls (iV x :: iV i :: rV a :: st) (zQ L M) = _
  have hk' : (zQ L M).1[a]? = some (20, n) := hk
  unfold zASt
  dsimp only
  rw [hk']
  exact (if_pos ⟨rfl, h4, h0, h1, Or.inl rfl⟩).trans rfl
theorem wp_bast {a n : Nat} {i x : Int} (hd : decode m.2.2.1 pc = .ok (.bastore, 1)) (hk : zkd L a = some (21, n)) (h4 : 4 ≤ a) (h0 : 0 ≤ i) (h1 : i < n) (hx : x = 0 ∨ x = 1) (h : wp L d m (pc + 1) ls st (zU M a i.toNat x) Q) : wp L d m pc ls (iV x :: iV i :: rV a :: st) M Q := by
  refine wp_step hd ?_ h
  show zASt pc 1 21 ls (iV x :: iV i :: rV a :: st) (zQ L M) = _
  have hk' : (zQ L M).1[a]? = some (21, n) := hk
  unfold zASt
  dsimp only
  rw [hk']
  exact (if_pos ⟨rfl, h4, h0, h1, Or.inr hx⟩).trans rfl
theorem wp_alen {a n kd : Nat} (hd : decode m.2.2.1 pc = .ok (.arraylength, 1)) (hk : zkd L a = some (kd, n)) (hkd : (kd = 20 ∨ kd = 21 ∨ kd = 22 ∨ kd = 23 ∨ kd = 24) ∧ n < 100000) (h : wp L d m (pc + 1) ls (iV n :: st) M Q) : wp L d m pc ls (rV a :: st) M Q := by
  refine wp_step hd ?_ h
  show zALen pc 1 ls (rV a :: st) (zQ L M) = _
  have hk' : (zQ L M).1[a]? = some (kd, n) := hk
  unfold zALen
  dsimp only
  rw [hk']
  exact (if_pos hkd).trans rfl
theorem wp_callV {k np a sz d' : Nat} {m' : zD} {as rest : List zV} {P : Option zV → zM → Prop} (hd : decode m.2.2.1 pc = .ok (.invokevirtual k, 3)) (hf : zCall m.1 k = some (0, np, m')) (hst : st.take np = as ∧ st.drop np = rV a :: rest) (hcs : decide (zCs rest ≤ 8) = true) (hk : zkd L a = some (m'.1, sz)) (hsl : decide ((zSl (rV a :: as.reverse)).length ≤ m'.2.2.2.1) = true)
    (hle : decide (d' + 1 ≤ d) = true) (hc : wpc L d' m' (rV a :: as.reverse) M P) (h : ∀ r M', P r M' → wp L d m (pc + 3) ls (r.toList ++ rest) M' Q) : wp L d m pc ls st M Q := by
  refine wp_callX hd ?_ hc (of_decide_eq_true hle) h
  show zCallV pc 3 (zCall m.1 k) st (zQ L M) = _
  rw [hf]
  unfold zCallV
  dsimp only
  rw [hst.2]
  dsimp only
  rw [hst.1]
  exact if_pos ⟨rfl, rfl, of_decide_eq_true hcs, zk_map hk, of_decide_eq_true hsl⟩
theorem wp_callS {k np d' : Nat} {m' : zD} {as rest : List zV} {P : Option zV → zM → Prop} (hd : decode m.2.2.1 pc = .ok (.invokestatic k, 3)) (hm : zMth m.1 k = none) (hf : zCall m.1 k = some (1, np, m')) (hst : st.take np = as ∧ st.drop np = rest ∧ decide (np ≤ st.length) = true) (hcs : decide (zCs rest ≤ 8) = true) (hsl : decide ((zSl as.reverse).length ≤ m'.2.2.2.1) = true)
    (hle : decide (d' + 1 ≤ d) = true) (hc : wpc L d' m' as.reverse M P) (h : ∀ r M', P r M' → wp L d m (pc + 3) ls (r.toList ++ rest) M' Q) : wp L d m pc ls st M Q := by
  refine wp_callX hd ?_ hc (of_decide_eq_true hle) h
  show (match zMth m.1 k with
    | some a => zMathS pc 3 a ls st (zQ L M)
    | none => zCallS pc 3 (zCall m.1 k) st (zQ L M)) = _
  rw [hm, hf]
  unfold zCallS
  dsimp only
  rw [hst.1, hst.2.1]
  exact if_pos ⟨rfl, rfl, of_decide_eq_true hcs, of_decide_eq_true hst.2.2, of_decide_eq_true hsl⟩
theorem wp_max {k : Nat} {a b : Int} (hd : decode m.2.2.1 pc = .ok (.invokestatic k, 3)) (hm : zMth m.1 k = some 0) (hcs : decide (zCs st ≤ 8) = true) (h : wp L d m (pc + 3) ls (iV (if a < b then b else a) :: st) M Q) : wp L d m pc ls (iV b :: iV a :: st) M Q := by
  refine wp_step hd ?_ h
  simp only [zEx, hm, zMathS, hcs]
  rfl
theorem wp_min {k : Nat} {a b : Int} (hd : decode m.2.2.1 pc = .ok (.invokestatic k, 3)) (hm : zMth m.1 k = some 1) (hcs : decide (zCs st ≤ 8) = true) (h : wp L d m (pc + 3) ls (iV (if b < a then b else a) :: st) M Q) : wp L d m pc ls (iV b :: iV a :: st) M Q := by
  refine wp_step hd ?_ h
  simp only [zEx, hm, zMathS, hcs]
  rfl
theorem wp_abs {k : Nat} {a : Int} (hd : decode m.2.2.1 pc = .ok (.invokestatic k, 3)) (hm : zMth m.1 k = some 2) (hcs : decide (zCs st ≤ 8) = true) (h1 : -2147483647 ≤ a) (h2 : a ≤ 2147483647) (h : wp L d m (pc + 3) ls (iV (if 0 ≤ a then a else 0 - a) :: st) M Q) : wp L d m pc ls (iV a :: st) M Q := by
  refine wp_step hd ?_ h
  have e : (0 - Int32.ofInt a).toInt = 0 - a := by
    rw [← z_0, z_sub, z_of (by unfold zR; omega)]
  simp only [zEx, hm, zMathS, hcs, e]
  rfl
theorem wp_ireturn {a : Int} (hd : decode m.2.2.1 pc = .ok (.ireturn, 1)) (hr : m.2.2.2.2 = some .int) (h : Q (some (iV a)) M) : wp L d m pc ls [iV a] M Q := by
  refine wp_retX hd ?_ h
  show zRet m 1 [iV a] = _
  exact if_pos ⟨rfl, Or.inl hr⟩
theorem wp_zreturn {a : Int} (hd : decode m.2.2.1 pc = .ok (.ireturn, 1)) (hr : m.2.2.2.2 = some .boolean) (ha : a = 0 ∨ a = 1) (h : Q (some (iV a)) M) : wp L d m pc ls [iV a] M Q := by
  refine wp_retX hd ?_ h
  show zRet m 1 [iV a] = _
  exact if_pos ⟨rfl, Or.inr ⟨hr, ha⟩⟩
theorem wp_lreturn {a : Int64} (hd : decode m.2.2.1 pc = .ok (.lreturn, 1)) (hr : m.2.2.2.2 = some .long) (h : Q (some (lV a)) M) : wp L d m pc ls [lV a] M Q := by
  refine wp_retX hd ?_ h
  exact if_pos ⟨rfl, hr⟩
theorem wp_areturn {a : Nat} {n : String} (hd : decode m.2.2.1 pc = .ok (.areturn, 1)) (hr : m.2.2.2.2 = some (.object n)) (h : Q (some (rV a)) M) : wp L d m pc ls [rV a] M Q := by
  refine wp_retX hd ?_ h
  simp [zEx, hr]
theorem wp_return_ (hd : decode m.2.2.1 pc = .ok (.return_, 1)) (hr : m.2.2.2.2 = none) (h : Q none M) : wp L d m pc ls [] M Q := by
  refine wp_retX hd ?_ h
  exact if_pos ⟨rfl, hr⟩
end ZWP
