/-! steps that leave the heap alone -/
section ZP
variable {p : Program} {l : Launch} {e : Env} {R : Room} {s : State} {mid : MethodId} {args : Array Value} {below : List Frame} {meth : Method} {c : Code} {H : Heap} {locs : List Loc} {cells slots : Nat} {Q : State → Prop} {D : va_G} {cA : Nat → ClassId} {ad : Nat → Nat} {base : Nat}
variable {m : zD} {d pc pc' len : Nat} {ls ls' st st' : List zV} {q q' : zS} {lsR : Array Slot}
/-- what is to be shown of one step -/
def zGoal (p : Program) (l : Launch) (e : Env) (R : Room) (s : State) (mid : MethodId) (args : Array Value) (below : List Frame) (meth : Method) (c : Code) (D : va_G) (cA : Nat → ClassId) (ad : Nat → Nat) (base : Nat) (m : zD) (cells slots : Nat) (Q : State → Prop) (q : zS) (pc' : Nat) (ls' st' : List zV) (q' : zS) : Prop :=
  ∀ (H' : Heap) (locs' : List Loc) (lsR' : Array Slot), zIn D cA ad base s m ls' st' q' H' locs' lsR' → W p l e R s mid args below meth c H' locs' (cells + (q'.1.length - q.1.length)) (slots + (zSz q' - zSz q)) Q (F0 mid pc' lsR' (st'.map (zE ad)))
theorem zGoal.same {H : Heap} {locs : List Loc} {lsR : Array Slot} (kk : zGoal p l e R s mid args below meth c D cA ad base m cells slots Q q pc' ls' st' q) (I : zIn D cA ad base s m ls' st' q H locs lsR) : W p l e R s mid args below meth c H locs cells slots Q (F0 mid pc' lsR (st'.map (zE ad))) := by
  have h := kk H locs lsR I
  rw [Nat.sub_self, Nat.sub_self, Nat.add_zero, Nat.add_zero] at h
  exact h
theorem zIn.stk {st2 : List zV} (I : zIn D cA ad base s m ls st q H locs lsR) (h : ∀ v ∈ st2, zOk v) : zIn D cA ad base s m ls st2 q H locs lsR := ⟨I.1, I.2.1, I.2.2.1, h, I.2.2.2.2⟩
theorem zIn.loc {ls2 : List zV} {st2 : List zV} {lsR2 : Array Slot} (I : zIn D cA ad base s m ls st q H locs lsR) (h1 : zLR ad m.2.2.2.1 ls2 lsR2) (h2 : ∀ v ∈ ls2, zOk v) (h : ∀ v ∈ st2, zOk v) : zIn D cA ad base s m ls2 st2 q H locs lsR2 := ⟨I.1, h1, h2, h, I.2.2.2.2⟩
theorem zs_push {v : zV} (row : W p l e R s mid args below meth c H locs cells slots Q (F0 mid pc' lsR (zE ad v :: st.map (zE ad))) → W p l e R s mid args below meth c H locs cells slots Q (F0 mid pc lsR (st.map (zE ad)))) (hv : zOk v)
    (I : zIn D cA ad base s m ls st q H locs lsR) (kk : zGoal p l e R s mid args below meth c D cA ad base m cells slots Q q pc' ls (v :: st) q) : W p l e R s mid args below meth c H locs cells slots Q (F0 mid pc lsR (st.map (zE ad))) :=
  row (kk.same (I.stk (zOk_cons hv I.2.2.2.1)))
theorem zs_ldI {w k : Nat} (h : zLdI pc len w k ls st q = some (.inl (pc', ls', st', q'))) (I : zIn D cA ad base s m ls st q H locs lsR)
    (row : len = w → ∀ (x : Int32) (rest : List Value), lsR[k]? = some (.val (.int x)) → W p l e R s mid args below meth c H locs cells slots Q (F0 mid (pc + w) lsR (.int x :: rest)) → W p l e R s mid args below meth c H locs cells slots Q (F0 mid pc lsR rest))
    (kk : zGoal p l e R s mid args below meth c D cA ad base m cells slots Q q pc' ls' st' q') : W p l e R s mid args below meth c H locs cells slots Q (F0 mid pc lsR (st.map (zE ad))) := by
  unfold zLdI at h
  split at h
  · next a ha =>
    obtain ⟨h1, rfl, rfl, rfl, rfl⟩ := zNx_inv h
    exact row (by simpa using h1) _ _ (I.2.1.2.2.2 k (iV a) ha (fun e => by cases e)) (kk.same (I.stk (zOk_cons (I.2.2.1 _ (List.mem_of_getElem? ha)) I.2.2.2.1)))
  · cases h
theorem zs_ldL {w k : Nat} (h : zLdL pc len w k ls st q = some (.inl (pc', ls', st', q'))) (I : zIn D cA ad base s m ls st q H locs lsR)
    (row : len = w → ∀ (x : Int64) (rest : List Value), lsR[k]? = some (.val (.long x)) → W p l e R s mid args below meth c H locs cells slots Q (F0 mid (pc + w) lsR (.long x :: rest)) → W p l e R s mid args below meth c H locs cells slots Q (F0 mid pc lsR rest))
    (kk : zGoal p l e R s mid args below meth c D cA ad base m cells slots Q q pc' ls' st' q') : W p l e R s mid args below meth c H locs cells slots Q (F0 mid pc lsR (st.map (zE ad))) := by
  unfold zLdL at h
  split at h
  · next a ha =>
    obtain ⟨h1, rfl, rfl, rfl, rfl⟩ := zNx_inv h
    exact row (by simpa using h1) _ _ (I.2.1.2.2.2 k (lV a) ha (fun e => by cases e)) (kk.same (I.stk (zOk_cons trivial I.2.2.2.1)))
  · cases h
theorem zs_ldA {w k : Nat} (h : zLdA pc len w k ls st q = some (.inl (pc', ls', st', q'))) (I : zIn D cA ad base s m ls st q H locs lsR)
    (row : len = w → ∀ (x : Nat) (rest : List Value), lsR[k]? = some (.val (.ref x)) → W p l e R s mid args below meth c H locs cells slots Q (F0 mid (pc + w) lsR (.ref x :: rest)) → W p l e R s mid args below meth c H locs cells slots Q (F0 mid pc lsR rest))
    (kk : zGoal p l e R s mid args below meth c D cA ad base m cells slots Q q pc' ls' st' q') : W p l e R s mid args below meth c H locs cells slots Q (F0 mid pc lsR (st.map (zE ad))) := by
  unfold zLdA at h
  split at h
  · next a ha =>
    obtain ⟨h1, rfl, rfl, rfl, rfl⟩ := zNx_inv h
    exact row (by simpa using h1) _ _ (I.2.1.2.2.2 k (rV a) ha (fun e => by cases e)) (kk.same (I.stk (zOk_cons trivial I.2.2.2.1)))
  · cases h
theorem zs_stI {w k : Nat} (h : zStI pc len w k ls st q = some (.inl (pc', ls', st', q'))) (I : zIn D cA ad base s m ls st q H locs lsR)
    (row : len = w → ∀ (x : Int32) (rest : List Value), k < m.2.2.2.1 → (∀ lsR' : Array Slot, lv_has lsR' m.2.2.2.1 ((k, .int x) :: (zAl ad ls).filter (fun q => !(q.1 == k) && !(q.1 + 1 == k && q.2.category == 2))) → W p l e R s mid args below meth c H locs cells slots Q (F0 mid (pc + w) lsR' rest)) → W p l e R s mid args below meth c H locs cells slots Q (F0 mid pc lsR (.int x :: rest)))
    (kk : zGoal p l e R s mid args below meth c D cA ad base m cells slots Q q pc' ls' st' q') : W p l e R s mid args below meth c H locs cells slots Q (F0 mid pc lsR (st.map (zE ad))) := by
  unfold zStI at h
  split at h
  · next a r =>
    obtain ⟨h1, rfl, rfl, rfl, rfl⟩ := zNx_inv h
    simp only [Bool.and_eq_true, beq_iff_eq, decide_eq_true_eq] at h1
    obtain ⟨⟨h1, h2⟩, h3⟩ := h1
    have hk := List.forall_mem_cons.mp I.2.2.2.1
    exact row h1 _ _ (by rw [← I.2.1.2.1]; exact h2) fun lsR' hl => kk.same (I.loc (zLR_set (v := iV a) I.2.1.2.1 h3 hl) (zOk_set I.2.2.1 hk.1) hk.2)
  · cases h
theorem zs_stA {w k : Nat} (h : zStA pc len w k ls st q = some (.inl (pc', ls', st', q'))) (I : zIn D cA ad base s m ls st q H locs lsR)
    (row : len = w → ∀ (x : Nat) (rest : List Value), k < m.2.2.2.1 → (∀ lsR' : Array Slot, lv_has lsR' m.2.2.2.1 ((k, .ref x) :: (zAl ad ls).filter (fun q => !(q.1 == k) && !(q.1 + 1 == k && q.2.category == 2))) → W p l e R s mid args below meth c H locs cells slots Q (F0 mid (pc + w) lsR' rest)) → W p l e R s mid args below meth c H locs cells slots Q (F0 mid pc lsR (.ref x :: rest)))
    (kk : zGoal p l e R s mid args below meth c D cA ad base m cells slots Q q pc' ls' st' q') : W p l e R s mid args below meth c H locs cells slots Q (F0 mid pc lsR (st.map (zE ad))) := by
  unfold zStA at h
  split at h
  · next a r =>
    obtain ⟨h1, rfl, rfl, rfl, rfl⟩ := zNx_inv h
    simp only [Bool.and_eq_true, beq_iff_eq, decide_eq_true_eq] at h1
    obtain ⟨⟨h1, h2⟩, h3⟩ := h1
    have hk := List.forall_mem_cons.mp I.2.2.2.1
    exact row h1 _ _ (by rw [← I.2.1.2.1]; exact h2) fun lsR' hl => kk.same (I.loc (zLR_set (v := rV a) I.2.1.2.1 h3 hl) (zOk_set I.2.2.1 hk.1) hk.2)
  · cases h
theorem zs_stL {w k : Nat} (h : zStL pc len w k ls st q = some (.inl (pc', ls', st', q'))) (I : zIn D cA ad base s m ls st q H locs lsR)
    (row : len = w → ∀ (x : Int64) (rest : List Value), k + 1 < m.2.2.2.1 → (∀ lsR' : Array Slot, lv_has lsR' m.2.2.2.1 ((k, .long x) :: (zAl ad ls).filter (fun q => !(q.1 == k) && (!(q.1 == k + 1) && !(q.1 + 1 == k && q.2.category == 2)))) → W p l e R s mid args below meth c H locs cells slots Q (F0 mid (pc + w) lsR' rest)) → W p l e R s mid args below meth c H locs cells slots Q (F0 mid pc lsR (.long x :: rest)))
    (kk : zGoal p l e R s mid args below meth c D cA ad base m cells slots Q q pc' ls' st' q') : W p l e R s mid args below meth c H locs cells slots Q (F0 mid pc lsR (st.map (zE ad))) := by
  unfold zStL at h
  split at h
  · next a r =>
    obtain ⟨h1, rfl, rfl, rfl, rfl⟩ := zNx_inv h
    simp only [Bool.and_eq_true, beq_iff_eq, decide_eq_true_eq] at h1
    obtain ⟨⟨h1, h2⟩, h3⟩ := h1
    have hk := List.forall_mem_cons.mp I.2.2.2.1
    have h4 : k + 1 < m.2.2.2.1 := by rw [← I.2.1.2.1]; exact h2
    exact row h1 _ _ h4 fun lsR' hl => kk.same (I.loc (zLR_set2 I.2.1.2.1 h3 h4 hl) (zOk_set (zOk_set I.2.2.1 trivial) trivial) hk.2)
  · cases h
theorem zs_bin {f : Int32 → Int32 → Int32} {okf : Int → Bool} (h : zBin pc len f okf ls st q = some (.inl (pc', ls', st', q'))) (I : zIn D cA ad base s m ls st q H locs lsR)
    (row : len = 1 → ∀ (a b : Int) (rest : List Value), zR b → okf b = true → W p l e R s mid args below meth c H locs cells slots Q (F0 mid (pc + 1) lsR (.int (f (Int32.ofInt a) (Int32.ofInt b)) :: rest)) → W p l e R s mid args below meth c H locs cells slots Q (F0 mid pc lsR (.int (Int32.ofInt b) :: .int (Int32.ofInt a) :: rest)))
    (kk : zGoal p l e R s mid args below meth c D cA ad base m cells slots Q q pc' ls' st' q') : W p l e R s mid args below meth c H locs cells slots Q (F0 mid pc lsR (st.map (zE ad))) := by
  unfold zBin at h
  split at h
  · next b a r =>
    obtain ⟨h1, rfl, rfl, rfl, rfl⟩ := zNx_inv h
    simp only [Bool.and_eq_true, beq_iff_eq] at h1
    have hk := List.forall_mem_cons.mp I.2.2.2.1
    have hk2 := List.forall_mem_cons.mp hk.2
    have h3 := kk.same (I.stk (zOk_cons (zR_of _) hk2.2))
    simp only [List.map_cons, zE, zI2, z_re] at h3
    exact row h1.1 a b _ hk.1 h1.2 h3
  · cases h
theorem zs_jp {ok : Bool} {off : Int} {st2 : List zV} (h : zJp ok pc off ls st2 q = some (.inl (pc', ls', st', q'))) : ok = true ∧ (pc : Int) + off = (pc' : Int) ∧ ls = ls' ∧ st2 = st' ∧ q = q' := by
  obtain ⟨h1, h2, h3, h4, h5⟩ := zNx_inv h
  simp only [Bool.and_eq_true, decide_eq_true_eq] at h1
  exact ⟨h1.1, by omega, h3, h4, h5⟩
end ZP
