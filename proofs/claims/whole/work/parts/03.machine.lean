/-! THE SMALL MACHINE: the claim's methods run over a heap of plain numbers. A value is an int, a long, a reference (a cell's number) or unset; the heap is the shapes of the cells (kind, size), the references they hold, the numbers they hold. Kinds 0 to 10: objects of the classes; 20 int[], 21 boolean[], 22 Text[], 23 Alignment[], 24 int[][]; others: no cell that is looked at. -/
abbrev zV : Type := Int ⊕ (Int64 ⊕ (Nat ⊕ Unit))
abbrev iV (a : Int) : zV := Sum.inl a
abbrev lV (x : Int64) : zV := Sum.inr (Sum.inl x)
abbrev rV (a : Nat) : zV := Sum.inr (Sum.inr (Sum.inl a))
abbrev uV : zV := Sum.inr (Sum.inr (Sum.inr ()))
abbrev zM : Type := Nat → Nat → Int
abbrev zS : Type := List (Nat × Nat) × zM × zM
def zU (M : zM) (a k : Nat) (v : Int) : zM := fun a' k' => if a' = a ∧ k' = k then v else M a' k'
def zZ (M : zM) (n a : Nat) (v : Int) : zM := fun a' k' => if a ≤ a' ∧ a' < a + n then v else M a' k'
def zR (a : Int) : Prop := -2147483648 ≤ a ∧ a ≤ 2147483647
/-- a long as two ints -/
def zHi (x : Int64) : Int := x.toInt / 4294967296
def zLo (x : Int64) : Int := if 2147483648 ≤ x.toInt % 4294967296 then x.toInt % 4294967296 - 4294967296 else x.toInt % 4294967296
def zLg (hi lo : Int) : Int64 := Int64.ofInt (hi * 4294967296 + (if lo < 0 then lo + 4294967296 else lo))
def zI2 (f : Int32 → Int32 → Int32) (a b : Int) : Int := (f (Int32.ofInt a) (Int32.ofInt b)).toInt
def zShl (x y : Int32) : Int32 := x <<< (y &&& 31)
def zShr (x y : Int32) : Int32 := x >>> (y &&& 31)
def zUsr (x y : Int32) : Int32 := (x.toUInt32 >>> (y.toUInt32 &&& Int32.toUInt32 31)).toInt32
def zRem (x y : Int32) : Int32 := x - x / y * y
def zC (c : Jvm.ClassFile.Cond) (a b : Int) : Bool := match c with
  | .eq => decide (a = b)
  | .ne => decide (¬ a = b)
  | .lt => decide (a < b)
  | .ge => decide (b ≤ a)
  | .gt => decide (b < a)
  | .le => decide (a ≤ b)
def zCat (v : zV) : Nat := match v with
  | .inr (.inl _) => 2
  | _ => 1
def zCs (l : List zV) : Nat := (l.map zCat).sum
/-- the locals at a method's entry -/
def zSl (as : List zV) : List zV := as.flatMap (fun v => if zCat v = 2 then [v, uV] else [v])
def zEnt (maxL : Nat) (as : List zV) : List zV := zSl as ++ List.replicate (maxL - (zSl as).length) uV
abbrev zT : Type := (Nat × List zV × List zV × zS) ⊕ ((zD × List zV × List zV) ⊕ Option zV)
def zNx (ok : Bool) (pc : Nat) (ls st : List zV) (q : zS) : Option zT := if ok = true then some (.inl (pc, ls, st, q)) else none
def zJp (ok : Bool) (pc : Nat) (off : Int) (ls st : List zV) (q : zS) : Option zT := zNx (ok && decide (0 ≤ (pc : Int) + off)) ((pc : Int) + off).toNat ls st q
def zBin (pc len : Nat) (f : Int32 → Int32 → Int32) (ok : Int → Bool) (ls st : List zV) (q : zS) : Option zT := match st with
  | .inl b :: .inl a :: r => zNx (len == 1 && ok b) (pc + 1) ls (iV (zI2 f a b) :: r) q
  | _ => none
def zLdI (pc len w k : Nat) (ls st : List zV) (q : zS) : Option zT := match ls[k]? with
  | some (.inl a) => zNx (len == w) (pc + w) ls (iV a :: st) q
  | _ => none
def zLdL (pc len w k : Nat) (ls st : List zV) (q : zS) : Option zT := match ls[k]? with
  | some (.inr (.inl x)) => zNx (len == w) (pc + w) ls (lV x :: st) q
  | _ => none
def zLdA (pc len w k : Nat) (ls st : List zV) (q : zS) : Option zT := match ls[k]? with
  | some (.inr (.inr (.inl a))) => zNx (len == w) (pc + w) ls (rV a :: st) q
  | _ => none
/-- no long stands just below a place -/
def zFree (ls : List zV) (k : Nat) : Bool := match k with
  | 0 => true
  | k + 1 => match ls[k]? with
    | some v => zCat v == 1
    | none => true
def zStI (pc len w k : Nat) (ls st : List zV) (q : zS) : Option zT := match st with
  | .inl a :: r => zNx (len == w && decide (k < ls.length) && zFree ls k) (pc + w) (ls.set k (iV a)) r q
  | _ => none
def zStL (pc len w k : Nat) (ls st : List zV) (q : zS) : Option zT := match st with
  | .inr (.inl x) :: r => zNx (len == w && decide (k + 1 < ls.length) && zFree ls k) (pc + w) ((ls.set k (lV x)).set (k + 1) uV) r q
  | _ => none
def zStA (pc len w k : Nat) (ls st : List zV) (q : zS) : Option zT := match st with
  | .inr (.inr (.inl a)) :: r => zNx (len == w && decide (k < ls.length) && zFree ls k) (pc + w) (ls.set k (rV a)) r q
  | _ => none
def zGetF (pc len : Nat) (f : Option (Nat × Nat × Nat × Bool)) (ls st : List zV) (q : zS) : Option zT := match st, f with
  | .inr (.inr (.inl a)) :: r, some (C, k, t, _) =>
    if q.1[a]?.map Prod.fst = some C then
      if t = 3 then zNx (len == 3 && decide (0 ≤ q.2.1 a k)) (pc + 3) ls (rV (q.2.1 a k).toNat :: r) q
      else if t = 2 then zNx (len == 3) (pc + 3) ls (lV (zLg (q.2.2 a k) (q.2.2 a (k + 1000))) :: r) q
      else zNx (len == 3) (pc + 3) ls (iV (q.2.2 a k) :: r) q
    else none
  | _, _ => none
def zPutF (m : zD) (pc len : Nat) (f : Option (Nat × Nat × Nat × Bool)) (ls st : List zV) (q : zS) : Option zT := match st, f with
  | .inl x :: .inr (.inr (.inl a)) :: r, some (C, k, t, fin) =>
    if q.1[a]?.map Prod.fst = some C ∧ 4 ≤ a ∧ (t = 0 ∨ t = 1 ∧ (x = 0 ∨ x = 1)) ∧ fin = false then zNx (len == 3) (pc + 3) ls r (q.1, q.2.1, zU q.2.2 a k x) else none
  | .inr (.inl x) :: .inr (.inr (.inl a)) :: r, some (C, k, t, fin) =>
    if q.1[a]?.map Prod.fst = some C ∧ 4 ≤ a ∧ t = 2 ∧ fin = false then zNx (len == 3) (pc + 3) ls r (q.1, q.2.1, zU (zU q.2.2 a k (zHi x)) a (k + 1000) (zLo x)) else none
  | .inr (.inr (.inl v)) :: .inr (.inr (.inl a)) :: r, some (C, k, t, fin) =>
    if q.1[a]?.map Prod.fst = some C ∧ 4 ≤ a ∧ t = 3 ∧ fin = true ∧ m.1 = C ∧ m.2.1.name = "<init>" then zNx (len == 3) (pc + 3) ls r (q.1, zU q.2.1 a k v, q.2.2) else none
  | _, _ => none
/-- an element of a row of numbers of kind kd -/
def zALd (pc len kd : Nat) (ls st : List zV) (q : zS) : Option zT := match st with
  | .inl i :: .inr (.inr (.inl a)) :: r => match q.1[a]? with
    | some (k, n) => if k = kd ∧ 0 ≤ i ∧ i < n then zNx (len == 1) (pc + 1) ls (iV (q.2.2 a i.toNat) :: r) q else none
    | none => none
  | _ => none
def zRLd (pc len : Nat) (ls st : List zV) (q : zS) : Option zT := match st with
  | .inl i :: .inr (.inr (.inl a)) :: r => match q.1[a]? with
    | some (k, n) => if (k = 22 ∨ k = 23 ∨ k = 24) ∧ 0 ≤ i ∧ i < n ∧ 0 ≤ q.2.1 a i.toNat then zNx (len == 1) (pc + 1) ls (rV (q.2.1 a i.toNat).toNat :: r) q else none
    | none => none
  | _ => none
def zASt (pc len kd : Nat) (ls st : List zV) (q : zS) : Option zT := match st with
  | .inl x :: .inl i :: .inr (.inr (.inl a)) :: r => match q.1[a]? with
    | some (k, n) => if k = kd ∧ 4 ≤ a ∧ 0 ≤ i ∧ i < n ∧ (kd = 20 ∨ x = 0 ∨ x = 1) then zNx (len == 1) (pc + 1) ls r (q.1, q.2.1, zU q.2.2 a i.toNat x) else none
    | none => none
  | _ => none
def zRSt (pc len : Nat) (ls st : List zV) (q : zS) : Option zT := match st with
  | .inr (.inr (.inl v)) :: .inl i :: .inr (.inr (.inl a)) :: r => match q.1[a]? with
    | some (k, n) => if ((k = 22 ∧ q.1[v]?.map Prod.fst = some 8) ∨ (k = 23 ∧ q.1[v]?.map Prod.fst = some 1)) ∧ 4 ≤ a ∧ 0 ≤ i ∧ i < n then zNx (len == 1) (pc + 1) ls r (q.1, zU q.2.1 a i.toNat v, q.2.2) else none
    | none => none
  | _ => none
def zALen (pc len : Nat) (ls st : List zV) (q : zS) : Option zT := match st with
  | .inr (.inr (.inl a)) :: r => match q.1[a]? with
    | some (k, n) => if (k = 20 ∨ k = 21 ∨ k = 22 ∨ k = 23 ∨ k = 24) ∧ n < 100000 then zNx (len == 1) (pc + 1) ls (iV n :: r) q else none
    | none => none
  | _ => none
/-- cells that are made: n of a kind and a size -/
def zPush (q : zS) (n kd sz : Nat) : zS := (q.1 ++ List.replicate n (kd, sz), zZ q.2.1 n q.1.length (-1), zZ q.2.2 n q.1.length 0)
def zNewO (pc len : Nat) (c : Option Nat) (ls st : List zV) (q : zS) : Option zT := match c with
  | some C => zNx (len == 3 && decide (C < 11)) (pc + 3) ls (rV q.1.length :: st) (zPush q 1 C (zNF C))
  | none => none
def zNewA (pc len w kd : Nat) (ls st : List zV) (q : zS) : Option zT := match st with
  | .inl n :: r => zNx (len == w && decide (0 ≤ n) && decide (n < 10000)) (pc + w) ls (rV q.1.length :: r) (zPush q 1 kd n.toNat)
  | _ => none
def zNewM (pc len : Nat) (ls st : List zV) (q : zS) : Option zT := match st with
  | .inl k :: .inl n :: r => zNx (len == 4 && decide (0 ≤ n) && decide (n < 10000) && decide (0 ≤ k) && decide (k < 10000)) (pc + 4) ls (rV q.1.length :: r)
      (let p := zPush (zPush q 1 24 n.toNat) n.toNat 20 k.toNat
       (p.1, (fun a j => if a = q.1.length ∧ j < n.toNat then ((q.1.length + 1 + j : Nat) : Int) else p.2.1 a j), p.2.2))
  | _ => none
def zCallV (pc len : Nat) (f : Option (Nat × Nat × zD)) (st : List zV) (q : zS) : Option zT := match f with
  | some (kd, np, m) => match st.drop np with
    | .inr (.inr (.inl a)) :: rest => if kd = 0 ∧ len = 3 ∧ zCs rest ≤ 8 ∧ q.1[a]?.map Prod.fst = some m.1 ∧ (zSl (rV a :: (st.take np).reverse)).length ≤ m.2.2.2.1 then some (.inr (.inl (m, rV a :: (st.take np).reverse, rest))) else none
    | _ => none
  | none => none
def zCallS (pc len : Nat) (f : Option (Nat × Nat × zD)) (st : List zV) (q : zS) : Option zT := match f with
  | some (kd, np, m) => if kd = 1 ∧ len = 3 ∧ zCs (st.drop np) ≤ 8 ∧ np ≤ st.length ∧ (zSl (st.take np).reverse).length ≤ m.2.2.2.1 then some (.inr (.inl (m, (st.take np).reverse, st.drop np))) else none
  | none => none
def zCallI (pc len : Nat) (o : Bool) (f : Option (Nat × Nat × zD)) (ls st : List zV) (q : zS) : Option zT := match st with
  | .inr (.inr (.inl a)) :: rest => if o = true then zNx (len == 3 && decide (zCs rest ≤ 8)) (pc + 3) ls rest q else match f with
    | some (kd, np, m) => if (kd = 2 ∨ kd = 3) ∧ np = 0 ∧ len = 3 ∧ zCs rest ≤ 8 ∧ 1 ≤ m.2.2.2.1 then some (.inr (.inl (m, [rV a], rest))) else none
    | none => none
  | _ => none
def zMathS (pc len a : Nat) (ls st : List zV) (q : zS) : Option zT := match a, st with
  | 0, .inl b :: .inl a :: r => zNx (len == 3 && decide (zCs r ≤ 8)) (pc + 3) ls (iV (if a < b then b else a) :: r) q
  | 1, .inl b :: .inl a :: r => zNx (len == 3 && decide (zCs r ≤ 8)) (pc + 3) ls (iV (if b < a then b else a) :: r) q
  | 2, .inl a :: r => zNx (len == 3 && decide (zCs r ≤ 8)) (pc + 3) ls (iV (if 0 ≤ a then a else (0 - Int32.ofInt a).toInt) :: r) q
  | _, _ => none
def zRet (m : zD) (len : Nat) (st : List zV) : Option zT := match st with
  | [.inl a] => if len = 1 ∧ (m.2.2.2.2 = some .int ∨ m.2.2.2.2 = some .boolean ∧ (a = 0 ∨ a = 1)) then some (.inr (.inr (some (iV a)))) else none
  | _ => none
def zEx (m : zD) (pc len : Nat) (i : Jvm.ClassFile.Instr) (ls st : List zV) (q : zS) : Option zT := match i with
  | .iconst n => zNx (len == 1 && decide (-128 ≤ n ∧ n < 128)) (pc + 1) ls (iV n :: st) q
  | .bipush n => zNx (len == 2 && decide (-128 ≤ n ∧ n < 128)) (pc + 2) ls (iV n :: st) q
  | .sipush n => zNx (len == 3 && decide (-32768 ≤ n ∧ n < 32768)) (pc + 3) ls (iV n :: st) q
  | .ldc k => match zCst m.1 k with
    | some v => zNx (len == 2) (pc + 2) ls (iV v :: st) q
    | none => none
  | .ldc_w k => match zCst m.1 k with
    | some v => zNx (len == 3) (pc + 3) ls (iV v :: st) q
    | none => none
  | .ldc2_w k => match zCstL m.1 k with
    | some v => zNx (len == 3) (pc + 3) ls (lV v :: st) q
    | none => none
  | .iload k => zLdI pc len 2 k ls st q
  | .iload_n k => zLdI pc len 1 k.val ls st q
  | .lload k => zLdL pc len 2 k ls st q
  | .lload_n k => zLdL pc len 1 k.val ls st q
  | .aload k => zLdA pc len 2 k ls st q
  | .aload_n k => zLdA pc len 1 k.val ls st q
  | .istore k => zStI pc len 2 k ls st q
  | .istore_n k => zStI pc len 1 k.val ls st q
  | .lstore k => zStL pc len 2 k ls st q
  | .lstore_n k => zStL pc len 1 k.val ls st q
  | .astore k => zStA pc len 2 k ls st q
  | .astore_n k => zStA pc len 1 k.val ls st q
  | .iinc k n => match ls[k]? with
    | some (.inl a) => zNx (len == 3 && zFree ls k) (pc + 3) (ls.set k (iV (zI2 (· + ·) a n))) st q
    | _ => none
  | .iadd => zBin pc len (· + ·) (fun _ => true) ls st q
  | .isub => zBin pc len (· - ·) (fun _ => true) ls st q
  | .imul => zBin pc len (· * ·) (fun _ => true) ls st q
  | .iand => zBin pc len (· &&& ·) (fun _ => true) ls st q
  | .ior => zBin pc len (· ||| ·) (fun _ => true) ls st q
  | .ixor => zBin pc len (· ^^^ ·) (fun _ => true) ls st q
  | .ishl => zBin pc len zShl (fun _ => true) ls st q
  | .ishr => zBin pc len zShr (fun _ => true) ls st q
  | .iushr => zBin pc len zUsr (fun _ => true) ls st q
  | .idiv => zBin pc len (· / ·) (fun b => decide (¬ b = 0)) ls st q
  | .irem => zBin pc len zRem (fun b => decide (¬ b = 0)) ls st q
  | .ineg => match st with
    | .inl a :: r => zNx (len == 1) (pc + 1) ls (iV (-(Int32.ofInt a)).toInt :: r) q
    | _ => none
  | .i2l => match st with
    | .inl a :: r => zNx (len == 1) (pc + 1) ls (lV (Int32.ofInt a).toInt64 :: r) q
    | _ => none
  | .ladd => match st with
    | .inr (.inl b) :: .inr (.inl a) :: r => zNx (len == 1) (pc + 1) ls (lV (a + b) :: r) q
    | _ => none
  | .lmul => match st with
    | .inr (.inl b) :: .inr (.inl a) :: r => zNx (len == 1) (pc + 1) ls (lV (a * b) :: r) q
    | _ => none
  | .lcmp => match st with
    | .inr (.inl b) :: .inr (.inl a) :: r => zNx (len == 1) (pc + 1) ls (iV (lg_cmp a b).toInt :: r) q
    | _ => none
  | .dup => match st with
    | v :: r => zNx (len == 1 && zCat v == 1) (pc + 1) ls (v :: v :: r) q
    | _ => none
  | .pop => match st with
    | v :: r => zNx (len == 1 && zCat v == 1) (pc + 1) ls r q
    | _ => none
  | .dup2 => match st with
    | v :: w :: r => zNx (len == 1 && zCat v == 1 && zCat w == 1) (pc + 1) ls (v :: w :: v :: w :: r) q
    | _ => none
  | .ifCond c off => match st with
    | .inl a :: r => if zC c a 0 = true then zJp (len == 3) pc off ls r q else zNx (len == 3) (pc + 3) ls r q
    | _ => none
  | .if_icmp c off => match st with
    | .inl b :: .inl a :: r => if zC c a b = true then zJp (len == 3) pc off ls r q else zNx (len == 3) (pc + 3) ls r q
    | _ => none
  | .goto off => zJp (len == 3) pc off ls st q
  | .tableswitch d lo hi offs => match st with
    | .inl a :: r => if a < lo ∨ hi < a then zJp true pc d ls r q else match offs[(a - lo).toNat]? with
      | some off => zJp true pc off ls r q
      | none => none
    | _ => none
  | .getfield k => zGetF pc len (zFld m.1 k) ls st q
  | .putfield k => zPutF m pc len (zFld m.1 k) ls st q
  | .getstatic k => match zStat m.1 k with
    | some a => zNx (len == 3) (pc + 3) ls (rV a :: st) q
    | none => none
  | .iaload => zALd pc len 20 ls st q
  | .baload => zALd pc len 21 ls st q
  | .aaload => zRLd pc len ls st q
  | .iastore => zASt pc len 20 ls st q
  | .bastore => zASt pc len 21 ls st q
  | .aastore => zRSt pc len ls st q
  | .arraylength => zALen pc len ls st q
  | .new k => zNewO pc len (zNew m.1 k) ls st q
  | .newarray t => if t = .int then zNewA pc len 2 20 ls st q else if t = .boolean then zNewA pc len 2 21 ls st q else none
  | .anewarray k => if zNew m.1 k = some 8 then zNewA pc len 3 22 ls st q else if zNew m.1 k = some 1 then zNewA pc len 3 23 ls st q else none
  | .multianewarray k d => if (m.1 = 6 ∨ m.1 = 7) ∧ k = 9 ∧ d = 2 then zNewM pc len ls st q else none
  | .invokevirtual k => zCallV pc len (zCall m.1 k) st q
  | .invokestatic k => match zMth m.1 k with
    | some a => zMathS pc len a ls st q
    | none => zCallS pc len (zCall m.1 k) st q
  | .invokespecial k => zCallI pc len (zObj m.1 k) (zCall m.1 k) ls st q
  | .ireturn => zRet m len st
  | .lreturn => match st with
    | [.inr (.inl x)] => if len = 1 ∧ m.2.2.2.2 = some .long then some (.inr (.inr (some (lV x)))) else none
    | _ => none
  | .areturn => match st, m.2.2.2.2 with
    | [.inr (.inr (.inl a))], some (.object _) => if len = 1 then some (.inr (.inr (some (rV a)))) else none
    | _, _ => none
  | .return_ => match st with
    | [] => if len = 1 ∧ m.2.2.2.2 = none then some (.inr (.inr none)) else none
    | _ => none
  | _ => none
/-- n: steps, over all calls; d: how deep calls may go -/
def zRun : Nat → Nat → zD → Nat → List zV → List zV → zS → Option (Option zV × zS)
  | 0, _, _, _, _, _, _ => none
  | n + 1, d, m, pc, ls, st, q => match decode m.2.2.1 pc with
    | .ok (i, len) => match zEx m pc len i ls st q with
      | some (.inl (pc', ls', st', q')) => zRun n d m pc' ls' st' q'
      | some (.inr (.inl (m', as, rest))) => match d with
        | 0 => none
        | d' + 1 => match zRun n d' m' 0 (zEnt m'.2.2.2.1 as) [] q with
          | some (r, q') => zRun n (d' + 1) m (pc + 3) ls (r.toList ++ rest) q'
          | none => none
      | some (.inr (.inr r)) => some (r, q)
      | none => none
    | _ => none
