/-! THE MACHINE GOES AS THE SMALL MACHINE DOES: one step at a time. Numbers first. -/
theorem zR_of (x : Int32) : zR x.toInt := by
  have h1 := Int32.le_toInt x
  have h2 := Int32.toInt_lt x
  unfold zR
  omega
theorem z_of {a : Int} (h : zR a) : (Int32.ofInt a).toInt = a := by
  unfold zR at h
  exact Int32.toInt_ofInt_of_le (by omega) (by omega)
theorem z_re (x : Int32) : Int32.ofInt x.toInt = x := Int32.ofInt_toInt x
theorem z_lt {a b : Int} (ha : zR a) (hb : zR b) : Int32.ofInt a < Int32.ofInt b ↔ a < b := by
  rw [Int32.lt_iff_toInt_lt, z_of ha, z_of hb]
theorem z_le {a b : Int} (ha : zR a) (hb : zR b) : Int32.ofInt a ≤ Int32.ofInt b ↔ a ≤ b := by
  rw [Int32.le_iff_toInt_le, z_of ha, z_of hb]
theorem z_eq {a b : Int} (ha : zR a) (hb : zR b) : Int32.ofInt a = Int32.ofInt b ↔ a = b := by
  rw [← Int32.toInt_inj, z_of ha, z_of hb]
theorem zR_0 : zR 0 := by unfold zR; omega
theorem z_0 : Int32.ofInt 0 = 0 := by decide
theorem z_lt0 {a : Int} (ha : zR a) : Int32.ofInt a < 0 ↔ a < 0 := by rw [← z_0, z_lt ha zR_0]
theorem z_le0 {a : Int} (ha : zR a) : Int32.ofInt a ≤ 0 ↔ a ≤ 0 := by rw [← z_0, z_le ha zR_0]
theorem z_0lt {a : Int} (ha : zR a) : 0 < Int32.ofInt a ↔ 0 < a := by rw [← z_0, z_lt zR_0 ha]
theorem z_0le {a : Int} (ha : zR a) : 0 ≤ Int32.ofInt a ↔ 0 ≤ a := by rw [← z_0, z_le zR_0 ha]
theorem z_eq0 {a : Int} (ha : zR a) : Int32.ofInt a = 0 ↔ a = 0 := by rw [← z_0, z_eq ha zR_0]
theorem z_cl {a : Int} (ha : zR a) : (Int32.ofInt a).toNatClampNeg = a.toNat := by
  show (Int32.ofInt a).toInt.toNat = a.toNat
  rw [z_of ha]
theorem z_in {a : Int} {n : Nat} (ha : zR a) (h0 : 0 ≤ a) (h1 : a < n) : ¬ (Int32.ofInt a < 0 ∨ n ≤ (Int32.ofInt a).toNatClampNeg) := by
  rw [z_lt0 ha, z_cl ha]
  omega
theorem zR_sm {n : Int} (h1 : -32768 ≤ n) (h2 : n < 32768) : zR n := by unfold zR; omega
theorem z_i8 {n : Int} (h : -128 ≤ n ∧ n < 128) : (Int8.ofInt n).toInt32 = Int32.ofInt n := by
  rw [← Int32.toInt_inj, Int8.toInt_toInt32, Int8.toInt_ofInt_of_le (by omega) (by omega), z_of (zR_sm (by omega) (by omega))]
theorem z_i16 {n : Int} (h : -32768 ≤ n ∧ n < 32768) : (Int16.ofInt n).toInt32 = Int32.ofInt n := by
  rw [← Int32.toInt_inj, Int16.toInt_toInt32, Int16.toInt_ofInt_of_le (by omega) (by omega), z_of (zR_sm (by omega) (by omega))]
theorem zR_nat {n : Nat} (h : n < 100000) : zR (n : Int) := by unfold zR; omega
theorem z_lg (x : Int64) : zLg (zHi x) (zLo x) = x := by
  have h : x.toInt / 4294967296 * 4294967296 + (if zLo x < 0 then zLo x + 4294967296 else zLo x) = x.toInt := by
    unfold zLo
    split <;> split <;> omega
  unfold zLg zHi
  rw [h, Int64.ofInt_toInt]
theorem zR_hi (x : Int64) : zR (zHi x) := by
  have h1 := Int64.le_toInt x
  have h2 := Int64.toInt_lt x
  unfold zR zHi
  omega
theorem zR_lo (x : Int64) : zR (zLo x) := by unfold zR zLo; split <;> omega
/-! the picture -/
def zRf (ad : Nat → Nat) (x : Int) : Value := if x < 0 then .null else .ref (ad x.toNat)
def zE (ad : Nat → Nat) (v : zV) : Value := match v with
  | .inl a => .int (Int32.ofInt a)
  | .inr (.inl x) => .long x
  | .inr (.inr (.inl a)) => .ref (ad a)
  | .inr (.inr (.inr _)) => .null
def zFv (ad : Nat → Nat) (K M : zM) (a c k : Nat) : Value := if zTy c k = 3 then zRf ad (K a k) else if zTy c k = 2 then .long (zLg (M a k) (M a (k + 1000))) else .int (Int32.ofInt (M a k))
def zAv (ad : Nat → Nat) (K M : zM) (a kd j : Nat) : Value := if kd = 20 ∨ kd = 21 then .int (Int32.ofInt (M a j)) else zRf ad (K a j)
def zCell (D : va_G) (cA : Nat → ClassId) (ad : Nat → Nat) (K M : zM) (H : Heap) (a : Nat) (q : Nat × Nat) : Prop :=
  (q.1 < 11 → t_OB (ad a) (D.1 q.1) (zNF q.1) (D.2 q.1) H (fun k => zFv ad K M a q.1 k)) ∧
  (20 ≤ q.1 → q.1 ≤ 24 → H[ad a]? = some (arrV (cA q.1) q.2 (fun j => zAv ad K M a q.1 j)))
/-- an array of ints that lies below: at least its first n places -/
def zX (b n : Nat) (xs : Nat → Int32) (U : State) (H : Heap) : Prop := ∃ cell : Cell, H[b]? = some cell ∧ U.isArrayOf cell .int ∧ cell.vm ≠ .unknown ∧ n ≤ cell.slots.size ∧ cell.slots.size.toInt32 = Int32.ofNat n ∧ ∀ j : Nat, j < n → cell.slots[j]? = some (.int (xs j))
def zRel (D : va_G) (cA : Nat → ClassId) (ad : Nat → Nat) (base : Nat) (q : zS) (U : State) (H : Heap) : Prop :=
  H.size + 4 = base + q.1.length ∧ 4 ≤ q.1.length ∧ (∀ (a : Nat) (e : Nat × Nat), 4 ≤ a → q.1[a]? = some e → zCell D cA ad q.2.1 q.2.2 H a e) ∧
  (∀ (a n : Nat), a < 4 → q.1[a]? = some (20, n) → zX (ad a) n (fun j => Int32.ofInt (q.2.2 a j)) U H) ∧ (∀ (a : Nat) (e : Nat × Nat), a < 4 → q.1[a]? = some e → e.1 = 20 ∨ e.1 = 99) ∧ ∀ a k, zR (q.2.2 a k)
def zAdr (ad : Nat → Nat) (base : Nat) : Prop := (∀ a, 4 ≤ a → ad a = base + (a - 4)) ∧ ∀ a, a < 4 → ad a < base
abbrev zA (base : Nat) : Nat → Prop := fun q => base ≤ q
def zTys (cA : Nat → ClassId) : List (ClassId × FieldType) := [(cA 20, .int), (cA 21, .boolean), (cA 22, .object "StopPress$Text"), (cA 23, .object "StopPress$Alignment"), (cA 24, .array .int)]
def zEnv (D : va_G) (cA : Nat → ClassId) (ad : Nat → Nat) (base : Nat) (U : State) : Prop :=
  zAdr ad base ∧ va_K D zCls (zTys cA) U ∧ (∀ w ∈ zNW, va_Nw w U) ∧ va_AO "StopPress$Text" U ∧ va_AO "StopPress$Alignment" U ∧ (Cond.arrayOver (.array .int)).before #[] U = true ∧ (∀ a, a < 3 → va_Z "StopPress" (zSn a) "[I" (.ref (ad a)) (zA base) U U.heap) ∧ base ≤ U.heap.size
def zLR (ad : Nat → Nat) (nL : Nat) (ls : List zV) (lsR : Array Slot) : Prop := lsR.size = nL ∧ ls.length = nL ∧ lv_wf lsR ∧ ∀ (k : Nat) (v : zV), ls[k]? = some v → v ≠ uV → lsR[k]? = some (.val (zE ad v))
def zOk (v : zV) : Prop := match v with
  | .inl a => zR a
  | _ => True
def zIn (D : va_G) (cA : Nat → ClassId) (ad : Nat → Nat) (base : Nat) (s : State) (m : zD) (ls st : List zV) (q : zS) (H : Heap) (locs : List Loc) (lsR : Array Slot) : Prop :=
  zRel D cA ad base q s H ∧ zLR ad m.2.2.2.1 ls lsR ∧ (∀ v ∈ ls, zOk v) ∧ (∀ v ∈ st, zOk v) ∧ va_S (zA base) s.heap H locs
def zFx (p : Program) (R : Room) (s : State) (mid : MethodId) (args : Array Value) (meth : Method) (c : Code) (m : zD) (d : Nat) : Prop :=
  p.tables.exec = Jvm.exec ∧ c.code = m.2.2.1 ∧ c.maxLocals = m.2.2.2.1 ∧ s.vm.findClass (zCn m.1) = some mid.cls ∧ (∀ w ∈ zGW, w.before args s = true) ∧ meth.sig.returnType = m.2.2.2.2 ∧ meth.locks = false ∧ (m.2.1.name = "<init>" → meth.name = "<init>") ∧ d + 1 ≤ R.frames ∧ 42 * (d + 1) ≤ R.locals
def zSz (q : zS) : Nat := (q.1.map Prod.snd).sum
theorem zNx_inv {ok : Bool} {pc pc' : Nat} {ls ls' st st' : List zV} {q q' : zS} (h : zNx ok pc ls st q = some (.inl (pc', ls', st', q'))) : ok = true ∧ pc = pc' ∧ ls = ls' ∧ st = st' ∧ q = q' := by
  unfold zNx at h
  split at h
  · next ho =>
    simp only [Option.some.injEq, Sum.inl.injEq, Prod.mk.injEq] at h
    exact ⟨ho, h.1, h.2.1, h.2.2.1, h.2.2.2⟩
  · cases h
def zUn (v : zV) : Bool := match v with
  | .inr (.inr (.inr _)) => true
  | _ => false
theorem zUn_t {v : zV} (h : zUn v = true) : v = uV := by
  match v, h with
  | .inr (.inr (.inr ())), _ => rfl
  | .inl a, h => cases h
  | .inr (.inl a), h => cases h
  | .inr (.inr (.inl a)), h => cases h
/-- the assoc list of the locals that are set -/
def zAl (ad : Nat → Nat) (ls : List zV) : List (Nat × Value) := (List.range ls.length).filterMap (fun (k : Nat) => (ls[k]?).bind (fun (v : zV) => if zUn v = true then none else some (k, zE ad v)))
theorem zAl_mem {ad : Nat → Nat} {ls : List zV} {k : Nat} {w : Value} (h : (k, w) ∈ zAl ad ls) : ∃ v, ls[k]? = some v ∧ v ≠ uV ∧ w = zE ad v := by
  unfold zAl at h
  obtain ⟨j, hj, h2⟩ := List.mem_filterMap.mp h
  obtain ⟨v, hv, h3⟩ := Option.bind_eq_some_iff.mp h2
  split at h3
  · cases h3
  · next hn =>
    cases h3
    exact ⟨v, hv, fun e => hn (by rw [e]; rfl), rfl⟩
theorem zAl_in {ad : Nat → Nat} {ls : List zV} {k : Nat} {v : zV} (h : ls[k]? = some v) (hv : v ≠ uV) : (k, zE ad v) ∈ zAl ad ls := by
  unfold zAl
  refine List.mem_filterMap.mpr ⟨k, List.mem_range.mpr (List.getElem?_eq_some_iff.mp h).1, ?_⟩
  rw [h]
  simp only [Option.bind_some]
  rw [if_neg (fun e => hv (zUn_t e))]
theorem zLR_has {ad : Nat → Nat} {nL : Nat} {ls : List zV} {lsR : Array Slot} (h : zLR ad nL ls lsR) : lv_has lsR nL (zAl ad ls) := by
  refine ⟨h.1, h.2.2.1, fun q hq => ?_⟩
  obtain ⟨v, h1, h2, h3⟩ := zAl_mem (k := q.1) (w := q.2) hq
  rw [h3]
  exact h.2.2.2 _ _ h1 h2
theorem zE_cat (ad : Nat → Nat) (v : zV) : (zE ad v).category = zCat v := by
  match v with
  | .inl a => rfl
  | .inr (.inl a) => rfl
  | .inr (.inr (.inl a)) => rfl
  | .inr (.inr (.inr ())) => rfl
theorem zCat2 {v : zV} (h : zCat v = 2) : ∃ x, v = lV x := by
  match v, h with
  | .inr (.inl a), _ => exact ⟨a, rfl⟩
  | .inl a, h => cases h
  | .inr (.inr _), h => cases h
theorem zFree_ok {ls : List zV} {k j : Nat} {v : zV} (h : zFree ls k = true) (hj : ls[j]? = some v) (e : j + 1 = k) : zCat v = 1 := by
  subst e
  have h2 : (match ls[j]? with
    | some v => zCat v == 1
    | none => true) = true := h
  rw [hj] at h2
  simpa using h2
theorem zLR_set {ad : Nat → Nat} {nL i : Nat} {ls : List zV} {ls' : Array Slot} {v : zV} (hlen : ls.length = nL) (hf : zFree ls i = true)
    (h' : lv_has ls' nL ((i, zE ad v) :: (zAl ad ls).filter (fun q => !(q.1 == i) && !(q.1 + 1 == i && q.2.category == 2)))) : zLR ad nL (ls.set i v) ls' := by
  refine ⟨h'.1, by rw [List.length_set]; exact hlen, h'.2.1, fun k w hk hw => ?_⟩
  by_cases e : k = i
  · subst e
    have hlt : k < ls.length := by have := (List.getElem?_eq_some_iff.mp hk).1; rwa [List.length_set] at this
    rw [List.getElem?_set_self hlt] at hk
    cases hk
    exact h'.2.2 _ List.mem_cons_self
  · rw [List.getElem?_set_ne (fun q => e q.symm)] at hk
    refine h'.2.2 (k, zE ad w) (List.mem_cons_of_mem _ (List.mem_filter.mpr ⟨zAl_in hk hw, ?_⟩))
    have h1 : (k == i) = false := by simpa using e
    simp only [h1, Bool.not_false, Bool.true_and, Bool.not_eq_true', Bool.and_eq_false_iff, beq_eq_false_iff_ne, zE_cat]
    by_cases e2 : k + 1 = i
    · exact Or.inr (by rw [zFree_ok hf hk e2]; decide)
    · exact Or.inl e2
theorem zLR_set2 {ad : Nat → Nat} {nL i : Nat} {ls : List zV} {ls' : Array Slot} {x : Int64} (hlen : ls.length = nL) (hf : zFree ls i = true) (hi : i + 1 < nL)
    (h' : lv_has ls' nL ((i, Value.long x) :: (zAl ad ls).filter (fun q => !(q.1 == i) && (!(q.1 == i + 1) && !(q.1 + 1 == i && q.2.category == 2))))) : zLR ad nL ((ls.set i (lV x)).set (i + 1) uV) ls' := by
  refine ⟨h'.1, by rw [List.length_set, List.length_set]; exact hlen, h'.2.1, fun k w hk hw => ?_⟩
  by_cases e1 : k = i + 1
  · subst e1
    rw [List.getElem?_set_self (by rw [List.length_set]; omega)] at hk
    cases hk
    exact absurd rfl hw
  · rw [List.getElem?_set_ne (fun q => e1 q.symm)] at hk
    by_cases e : k = i
    · subst e
      rw [List.getElem?_set_self (by omega)] at hk
      cases hk
      exact h'.2.2 _ List.mem_cons_self
    · rw [List.getElem?_set_ne (fun q => e q.symm)] at hk
      refine h'.2.2 (k, zE ad w) (List.mem_cons_of_mem _ (List.mem_filter.mpr ⟨zAl_in hk hw, ?_⟩))
      have h1 : (k == i) = false := by simpa using e
      have h2 : (k == i + 1) = false := by simpa using e1
      simp only [h1, h2, Bool.not_false, Bool.true_and, Bool.not_eq_true', Bool.and_eq_false_iff, beq_eq_false_iff_ne, zE_cat]
      by_cases e2 : k + 1 = i
      · exact Or.inr (by rw [zFree_ok hf hk e2]; decide)
      · exact Or.inl e2
theorem zOk_set {ls : List zV} {i : Nat} {v : zV} (h : ∀ w ∈ ls, zOk w) (hv : zOk v) : ∀ w ∈ ls.set i v, zOk w := by
  intro w hw
  rcases List.mem_or_eq_of_mem_set hw with h1 | h1
  · exact h w h1
  · rw [h1]; exact hv
theorem zOk_cons {st : List zV} {v : zV} (hv : zOk v) (h : ∀ w ∈ st, zOk w) : ∀ w ∈ v :: st, zOk w := List.forall_mem_cons.mpr ⟨hv, h⟩
