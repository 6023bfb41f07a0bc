/-! rules by shape, and the cells' facts -/
section ZWR
variable {L d pc : Nat} {m : zD} {st : List zV} {M : zM} {Q : Option zV → zM → Prop}
theorem wp_ist0 {x0 : zV} {t : List zV} {y : Int} (hd : decode m.2.2.1 pc = .ok (.istore_n 0, 1)) (h : wp L d m (pc + 1) (iV y :: t) st M Q) : wp L d m pc (x0 :: t) (iV y :: st) M Q := by
  refine wp_istore_n hd ?_ rfl h
  simp [zFree]
theorem wp_ast0 {x0 : zV} {t : List zV} {y : Nat} (hd : decode m.2.2.1 pc = .ok (.astore_n 0, 1)) (h : wp L d m (pc + 1) (rV y :: t) st M Q) : wp L d m pc (x0 :: t) (rV y :: st) M Q := by
  refine wp_astore_n hd ?_ rfl h
  simp [zFree]
theorem wp_iinc0 {t : List zV} {a n : Int} (hd : decode m.2.2.1 pc = .ok (.iinc 0 n, 3)) (h1 : -2147483648 ≤ a + n) (h2 : a + n ≤ 2147483647) (h : wp L d m (pc + 3) (iV (a + n) :: t) st M Q) : wp L d m pc (iV a :: t) st M Q := by
  refine wp_iinc hd rfl ?_ h1 h2 rfl h
  simp [zFree]
theorem wp_ist1 {x0 x1 : zV} {t : List zV} {y : Int} (hd : decode m.2.2.1 pc = .ok (.istore_n 1, 1)) (hf : (zCat x0 == 1) = true) (h : wp L d m (pc + 1) (x0 :: iV y :: t) st M Q) : wp L d m pc (x0 :: x1 :: t) (iV y :: st) M Q := by
  refine wp_istore_n hd ?_ rfl h
  simp [zFree, hf]
theorem wp_ast1 {x0 x1 : zV} {t : List zV} {y : Nat} (hd : decode m.2.2.1 pc = .ok (.astore_n 1, 1)) (hf : (zCat x0 == 1) = true) (h : wp L d m (pc + 1) (x0 :: rV y :: t) st M Q) : wp L d m pc (x0 :: x1 :: t) (rV y :: st) M Q := by
  refine wp_astore_n hd ?_ rfl h
  simp [zFree, hf]
theorem wp_iinc1 {x0 : zV} {t : List zV} {a n : Int} (hd : decode m.2.2.1 pc = .ok (.iinc 1 n, 3)) (hf : (zCat x0 == 1) = true) (h1 : -2147483648 ≤ a + n) (h2 : a + n ≤ 2147483647) (h : wp L d m (pc + 3) (x0 :: iV (a + n) :: t) st M Q) : wp L d m pc (x0 :: iV a :: t) st M Q := by
  refine wp_iinc hd rfl ?_ h1 h2 rfl h
  simp [zFree, hf]
theorem wp_ist2 {x0 x1 x2 : zV} {t : List zV} {y : Int} (hd : decode m.2.2.1 pc = .ok (.istore_n 2, 1)) (hf : (zCat x1 == 1) = true) (h : wp L d m (pc + 1) (x0 :: x1 :: iV y :: t) st M Q) : wp L d m pc (x0 :: x1 :: x2 :: t) (iV y :: st) M Q := by
  refine wp_istore_n hd ?_ rfl h
  simp [zFree, hf]
theorem wp_ast2 {x0 x1 x2 : zV} {t : List zV} {y : Nat} (hd : decode m.2.2.1 pc = .ok (.astore_n 2, 1)) (hf : (zCat x1 == 1) = true) (h : wp L d m (pc + 1) (x0 :: x1 :: rV y :: t) st M Q) : wp L d m pc (x0 :: x1 :: x2 :: t) (rV y :: st) M Q := by
  refine wp_astore_n hd ?_ rfl h
  simp [zFree, hf]
theorem wp_iinc2 {x0 x1 : zV} {t : List zV} {a n : Int} (hd : decode m.2.2.1 pc = .ok (.iinc 2 n, 3)) (hf : (zCat x1 == 1) = true) (h1 : -2147483648 ≤ a + n) (h2 : a + n ≤ 2147483647) (h : wp L d m (pc + 3) (x0 :: x1 :: iV (a + n) :: t) st M Q) : wp L d m pc (x0 :: x1 :: iV a :: t) st M Q := by
  refine wp_iinc hd rfl ?_ h1 h2 rfl h
  simp [zFree, hf]
theorem wp_ist3 {x0 x1 x2 x3 : zV} {t : List zV} {y : Int} (hd : decode m.2.2.1 pc = .ok (.istore_n 3, 1)) (hf : (zCat x2 == 1) = true) (h : wp L d m (pc + 1) (x0 :: x1 :: x2 :: iV y :: t) st M Q) : wp L d m pc (x0 :: x1 :: x2 :: x3 :: t) (iV y :: st) M Q := by
  refine wp_istore_n hd ?_ rfl h
  simp [zFree, hf]
  show (3 : Nat) < _
  omega
theorem wp_ast3 {x0 x1 x2 x3 : zV} {t : List zV} {y : Nat} (hd : decode m.2.2.1 pc = .ok (.astore_n 3, 1)) (hf : (zCat x2 == 1) = true) (h : wp L d m (pc + 1) (x0 :: x1 :: x2 :: rV y :: t) st M Q) : wp L d m pc (x0 :: x1 :: x2 :: x3 :: t) (rV y :: st) M Q := by
  refine wp_astore_n hd ?_ rfl h
  simp [zFree, hf]
  show (3 : Nat) < _
  omega
theorem wp_iinc3 {x0 x1 x2 : zV} {t : List zV} {a n : Int} (hd : decode m.2.2.1 pc = .ok (.iinc 3 n, 3)) (hf : (zCat x2 == 1) = true) (h1 : -2147483648 ≤ a + n) (h2 : a + n ≤ 2147483647) (h : wp L d m (pc + 3) (x0 :: x1 :: x2 :: iV (a + n) :: t) st M Q) : wp L d m pc (x0 :: x1 :: x2 :: iV a :: t) st M Q := by
  refine wp_iinc hd rfl ?_ h1 h2 rfl h
  simp [zFree, hf]
theorem wp_ist4 {x0 x1 x2 x3 x4 : zV} {t : List zV} {y : Int} (hd : decode m.2.2.1 pc = .ok (.istore 4, 2)) (hf : (zCat x3 == 1) = true) (h : wp L d m (pc + 2) (x0 :: x1 :: x2 :: x3 :: iV y :: t) st M Q) : wp L d m pc (x0 :: x1 :: x2 :: x3 :: x4 :: t) (iV y :: st) M Q := by
  refine wp_istore hd ?_ rfl h
  simp [zFree, hf]
theorem wp_ast4 {x0 x1 x2 x3 x4 : zV} {t : List zV} {y : Nat} (hd : decode m.2.2.1 pc = .ok (.astore 4, 2)) (hf : (zCat x3 == 1) = true) (h : wp L d m (pc + 2) (x0 :: x1 :: x2 :: x3 :: rV y :: t) st M Q) : wp L d m pc (x0 :: x1 :: x2 :: x3 :: x4 :: t) (rV y :: st) M Q := by
  refine wp_astore hd ?_ rfl h
  simp [zFree, hf]
theorem wp_iinc4 {x0 x1 x2 x3 : zV} {t : List zV} {a n : Int} (hd : decode m.2.2.1 pc = .ok (.iinc 4 n, 3)) (hf : (zCat x3 == 1) = true) (h1 : -2147483648 ≤ a + n) (h2 : a + n ≤ 2147483647) (h : wp L d m (pc + 3) (x0 :: x1 :: x2 :: x3 :: iV (a + n) :: t) st M Q) : wp L d m pc (x0 :: x1 :: x2 :: x3 :: iV a :: t) st M Q := by
  refine wp_iinc hd rfl ?_ h1 h2 rfl h
  simp [zFree, hf]
theorem wp_ist5 {x0 x1 x2 x3 x4 x5 : zV} {t : List zV} {y : Int} (hd : decode m.2.2.1 pc = .ok (.istore 5, 2)) (hf : (zCat x4 == 1) = true) (h : wp L d m (pc + 2) (x0 :: x1 :: x2 :: x3 :: x4 :: iV y :: t) st M Q) : wp L d m pc (x0 :: x1 :: x2 :: x3 :: x4 :: x5 :: t) (iV y :: st) M Q := by
  refine wp_istore hd ?_ rfl h
  simp [zFree, hf]
theorem wp_ast5 {x0 x1 x2 x3 x4 x5 : zV} {t : List zV} {y : Nat} (hd : decode m.2.2.1 pc = .ok (.astore 5, 2)) (hf : (zCat x4 == 1) = true) (h : wp L d m (pc + 2) (x0 :: x1 :: x2 :: x3 :: x4 :: rV y :: t) st M Q) : wp L d m pc (x0 :: x1 :: x2 :: x3 :: x4 :: x5 :: t) (rV y :: st) M Q := by
  refine wp_astore hd ?_ rfl h
  simp [zFree, hf]
theorem wp_iinc5 {x0 x1 x2 x3 x4 : zV} {t : List zV} {a n : Int} (hd : decode m.2.2.1 pc = .ok (.iinc 5 n, 3)) (hf : (zCat x4 == 1) = true) (h1 : -2147483648 ≤ a + n) (h2 : a + n ≤ 2147483647) (h : wp L d m (pc + 3) (x0 :: x1 :: x2 :: x3 :: x4 :: iV (a + n) :: t) st M Q) : wp L d m pc (x0 :: x1 :: x2 :: x3 :: x4 :: iV a :: t) st M Q := by
  refine wp_iinc hd rfl ?_ h1 h2 rfl h
  simp [zFree, hf]
theorem wp_ist6 {x0 x1 x2 x3 x4 x5 x6 : zV} {t : List zV} {y : Int} (hd : decode m.2.2.1 pc = .ok (.istore 6, 2)) (hf : (zCat x5 == 1) = true) (h : wp L d m (pc + 2) (x0 :: x1 :: x2 :: x3 :: x4 :: x5 :: iV y :: t) st M Q) : wp L d m pc (x0 :: x1 :: x2 :: x3 :: x4 :: x5 :: x6 :: t) (iV y :: st) M Q := by
  refine wp_istore hd ?_ rfl h
  simp [zFree, hf]
theorem wp_ast6 {x0 x1 x2 x3 x4 x5 x6 : zV} {t : List zV} {y : Nat} (hd : decode m.2.2.1 pc = .ok (.astore 6, 2)) (hf : (zCat x5 == 1) = true) (h : wp L d m (pc + 2) (x0 :: x1 :: x2 :: x3 :: x4 :: x5 :: rV y :: t) st M Q) : wp L d m pc (x0 :: x1 :: x2 :: x3 :: x4 :: x5 :: x6 :: t) (rV y :: st) M Q := by
  refine wp_astore hd ?_ rfl h
  simp [zFree, hf]
theorem wp_iinc6 {x0 x1 x2 x3 x4 x5 : zV} {t : List zV} {a n : Int} (hd : decode m.2.2.1 pc = .ok (.iinc 6 n, 3)) (hf : (zCat x5 == 1) = true) (h1 : -2147483648 ≤ a + n) (h2 : a + n ≤ 2147483647) (h : wp L d m (pc + 3) (x0 :: x1 :: x2 :: x3 :: x4 :: x5 :: iV (a + n) :: t) st M Q) : wp L d m pc (x0 :: x1 :: x2 :: x3 :: x4 :: x5 :: iV a :: t) st M Q := by
  refine wp_iinc hd rfl ?_ h1 h2 rfl h
  simp [zFree, hf]
theorem wp_ist7 {x0 x1 x2 x3 x4 x5 x6 x7 : zV} {t : List zV} {y : Int} (hd : decode m.2.2.1 pc = .ok (.istore 7, 2)) (hf : (zCat x6 == 1) = true) (h : wp L d m (pc + 2) (x0 :: x1 :: x2 :: x3 :: x4 :: x5 :: x6 :: iV y :: t) st M Q) : wp L d m pc (x0 :: x1 :: x2 :: x3 :: x4 :: x5 :: x6 :: x7 :: t) (iV y :: st) M Q := by
  refine wp_istore hd ?_ rfl h
  simp [zFree, hf]
theorem wp_ast7 {x0 x1 x2 x3 x4 x5 x6 x7 : zV} {t : List zV} {y : Nat} (hd : decode m.2.2.1 pc = .ok (.astore 7, 2)) (hf : (zCat x6 == 1) = true) (h : wp L d m (pc + 2) (x0 :: x1 :: x2 :: x3 :: x4 :: x5 :: x6 :: rV y :: t) st M Q) : wp L d m pc (x0 :: x1 :: x2 :: x3 :: x4 :: x5 :: x6 :: x7 :: t) (rV y :: st) M Q := by
  refine wp_astore hd ?_ rfl h
  simp [zFree, hf]
theorem wp_iinc7 {x0 x1 x2 x3 x4 x5 x6 : zV} {t : List zV} {a n : Int} (hd : decode m.2.2.1 pc = .ok (.iinc 7 n, 3)) (hf : (zCat x6 == 1) = true) (h1 : -2147483648 ≤ a + n) (h2 : a + n ≤ 2147483647) (h : wp L d m (pc + 3) (x0 :: x1 :: x2 :: x3 :: x4 :: x5 :: x6 :: iV (a + n) :: t) st M Q) : wp L d m pc (x0 :: x1 :: x2 :: x3 :: x4 :: x5 :: x6 :: iV a :: t) st M Q := by
  refine wp_iinc hd rfl ?_ h1 h2 rfl h
  simp [zFree, hf]
theorem wp_ist8 {x0 x1 x2 x3 x4 x5 x6 x7 x8 : zV} {t : List zV} {y : Int} (hd : decode m.2.2.1 pc = .ok (.istore 8, 2)) (hf : (zCat x7 == 1) = true) (h : wp L d m (pc + 2) (x0 :: x1 :: x2 :: x3 :: x4 :: x5 :: x6 :: x7 :: iV y :: t) st M Q) : wp L d m pc (x0 :: x1 :: x2 :: x3 :: x4 :: x5 :: x6 :: x7 :: x8 :: t) (iV y :: st) M Q := by
  refine wp_istore hd ?_ rfl h
  simp [zFree, hf]
theorem wp_ast8 {x0 x1 x2 x3 x4 x5 x6 x7 x8 : zV} {t : List zV} {y : Nat} (hd : decode m.2.2.1 pc = .ok (.astore 8, 2)) (hf : (zCat x7 == 1) = true) (h : wp L d m (pc + 2) (x0 :: x1 :: x2 :: x3 :: x4 :: x5 :: x6 :: x7 :: rV y :: t) st M Q) : wp L d m pc (x0 :: x1 :: x2 :: x3 :: x4 :: x5 :: x6 :: x7 :: x8 :: t) (rV y :: st) M Q := by
  refine wp_astore hd ?_ rfl h
  simp [zFree, hf]
theorem wp_iinc8 {x0 x1 x2 x3 x4 x5 x6 x7 : zV} {t : List zV} {a n : Int} (hd : decode m.2.2.1 pc = .ok (.iinc 8 n, 3)) (hf : (zCat x7 == 1) = true) (h1 : -2147483648 ≤ a + n) (h2 : a + n ≤ 2147483647) (h : wp L d m (pc + 3) (x0 :: x1 :: x2 :: x3 :: x4 :: x5 :: x6 :: x7 :: iV (a + n) :: t) st M Q) : wp L d m pc (x0 :: x1 :: x2 :: x3 :: x4 :: x5 :: x6 :: x7 :: iV a :: t) st M Q := by
  refine wp_iinc hd rfl ?_ h1 h2 rfl h
  simp [zFree, hf]
theorem wp_ist9 {x0 x1 x2 x3 x4 x5 x6 x7 x8 x9 : zV} {t : List zV} {y : Int} (hd : decode m.2.2.1 pc = .ok (.istore 9, 2)) (hf : (zCat x8 == 1) = true) (h : wp L d m (pc + 2) (x0 :: x1 :: x2 :: x3 :: x4 :: x5 :: x6 :: x7 :: x8 :: iV y :: t) st M Q) : wp L d m pc (x0 :: x1 :: x2 :: x3 :: x4 :: x5 :: x6 :: x7 :: x8 :: x9 :: t) (iV y :: st) M Q := by
  refine wp_istore hd ?_ rfl h
  simp [zFree, hf]
theorem wp_ast9 {x0 x1 x2 x3 x4 x5 x6 x7 x8 x9 : zV} {t : List zV} {y : Nat} (hd : decode m.2.2.1 pc = .ok (.astore 9, 2)) (hf : (zCat x8 == 1) = true) (h : wp L d m (pc + 2) (x0 :: x1 :: x2 :: x3 :: x4 :: x5 :: x6 :: x7 :: x8 :: rV y :: t) st M Q) : wp L d m pc (x0 :: x1 :: x2 :: x3 :: x4 :: x5 :: x6 :: x7 :: x8 :: x9 :: t) (rV y :: st) M Q := by
  refine wp_astore hd ?_ rfl h
  simp [zFree, hf]
theorem wp_iinc9 {x0 x1 x2 x3 x4 x5 x6 x7 x8 : zV} {t : List zV} {a n : Int} (hd : decode m.2.2.1 pc = .ok (.iinc 9 n, 3)) (hf : (zCat x8 == 1) = true) (h1 : -2147483648 ≤ a + n) (h2 : a + n ≤ 2147483647) (h : wp L d m (pc + 3) (x0 :: x1 :: x2 :: x3 :: x4 :: x5 :: x6 :: x7 :: x8 :: iV (a + n) :: t) st M Q) : wp L d m pc (x0 :: x1 :: x2 :: x3 :: x4 :: x5 :: x6 :: x7 :: x8 :: iV a :: t) st M Q := by
  refine wp_iinc hd rfl ?_ h1 h2 rfl h
  simp [zFree, hf]
theorem wp_ist10 {x0 x1 x2 x3 x4 x5 x6 x7 x8 x9 x10 : zV} {t : List zV} {y : Int} (hd : decode m.2.2.1 pc = .ok (.istore 10, 2)) (hf : (zCat x9 == 1) = true) (h : wp L d m (pc + 2) (x0 :: x1 :: x2 :: x3 :: x4 :: x5 :: x6 :: x7 :: x8 :: x9 :: iV y :: t) st M Q) : wp L d m pc (x0 :: x1 :: x2 :: x3 :: x4 :: x5 :: x6 :: x7 :: x8 :: x9 :: x10 :: t) (iV y :: st) M Q := by
  refine wp_istore hd ?_ rfl h
  simp [zFree, hf]
theorem wp_ast10 {x0 x1 x2 x3 x4 x5 x6 x7 x8 x9 x10 : zV} {t : List zV} {y : Nat} (hd : decode m.2.2.1 pc = .ok (.astore 10, 2)) (hf : (zCat x9 == 1) = true) (h : wp L d m (pc + 2) (x0 :: x1 :: x2 :: x3 :: x4 :: x5 :: x6 :: x7 :: x8 :: x9 :: rV y :: t) st M Q) : wp L d m pc (x0 :: x1 :: x2 :: x3 :: x4 :: x5 :: x6 :: x7 :: x8 :: x9 :: x10 :: t) (rV y :: st) M Q := by
  refine wp_astore hd ?_ rfl h
  simp [zFree, hf]
theorem wp_iinc10 {x0 x1 x2 x3 x4 x5 x6 x7 x8 x9 : zV} {t : List zV} {a n : Int} (hd : decode m.2.2.1 pc = .ok (.iinc 10 n, 3)) (hf : (zCat x9 == 1) = true) (h1 : -2147483648 ≤ a + n) (h2 : a + n ≤ 2147483647) (h : wp L d m (pc + 3) (x0 :: x1 :: x2 :: x3 :: x4 :: x5 :: x6 :: x7 :: x8 :: x9 :: iV (a + n) :: t) st M Q) : wp L d m pc (x0 :: x1 :: x2 :: x3 :: x4 :: x5 :: x6 :: x7 :: x8 :: x9 :: iV a :: t) st M Q := by
  refine wp_iinc hd rfl ?_ h1 h2 rfl h
  simp [zFree, hf]
theorem wp_ist11 {x0 x1 x2 x3 x4 x5 x6 x7 x8 x9 x10 x11 : zV} {t : List zV} {y : Int} (hd : decode m.2.2.1 pc = .ok (.istore 11, 2)) (hf : (zCat x10 == 1) = true) (h : wp L d m (pc + 2) (x0 :: x1 :: x2 :: x3 :: x4 :: x5 :: x6 :: x7 :: x8 :: x9 :: x10 :: iV y :: t) st M Q) : wp L d m pc (x0 :: x1 :: x2 :: x3 :: x4 :: x5 :: x6 :: x7 :: x8 :: x9 :: x10 :: x11 :: t) (iV y :: st) M Q := by
  refine wp_istore hd ?_ rfl h
  simp [zFree, hf]
theorem wp_ast11 {x0 x1 x2 x3 x4 x5 x6 x7 x8 x9 x10 x11 : zV} {t : List zV} {y : Nat} (hd : decode m.2.2.1 pc = .ok (.astore 11, 2)) (hf : (zCat x10 == 1) = true) (h : wp L d m (pc + 2) (x0 :: x1 :: x2 :: x3 :: x4 :: x5 :: x6 :: x7 :: x8 :: x9 :: x10 :: rV y :: t) st M Q) : wp L d m pc (x0 :: x1 :: x2 :: x3 :: x4 :: x5 :: x6 :: x7 :: x8 :: x9 :: x10 :: x11 :: t) (rV y :: st) M Q := by
  refine wp_astore hd ?_ rfl h
  simp [zFree, hf]
theorem wp_iinc11 {x0 x1 x2 x3 x4 x5 x6 x7 x8 x9 x10 : zV} {t : List zV} {a n : Int} (hd : decode m.2.2.1 pc = .ok (.iinc 11 n, 3)) (hf : (zCat x10 == 1) = true) (h1 : -2147483648 ≤ a + n) (h2 : a + n ≤ 2147483647) (h : wp L d m (pc + 3) (x0 :: x1 :: x2 :: x3 :: x4 :: x5 :: x6 :: x7 :: x8 :: x9 :: x10 :: iV (a + n) :: t) st M Q) : wp L d m pc (x0 :: x1 :: x2 :: x3 :: x4 :: x5 :: x6 :: x7 :: x8 :: x9 :: x10 :: iV a :: t) st M Q := by
  refine wp_iinc hd rfl ?_ h1 h2 rfl h
  simp [zFree, hf]
theorem wp_ist12 {x0 x1 x2 x3 x4 x5 x6 x7 x8 x9 x10 x11 x12 : zV} {t : List zV} {y : Int} (hd : decode m.2.2.1 pc = .ok (.istore 12, 2)) (hf : (zCat x11 == 1) = true) (h : wp L d m (pc + 2) (x0 :: x1 :: x2 :: x3 :: x4 :: x5 :: x6 :: x7 :: x8 :: x9 :: x10 :: x11 :: iV y :: t) st M Q) : wp L d m pc (x0 :: x1 :: x2 :: x3 :: x4 :: x5 :: x6 :: x7 :: x8 :: x9 :: x10 :: x11 :: x12 :: t) (iV y :: st) M Q := by
  refine wp_istore hd ?_ rfl h
  simp [zFree, hf]
theorem wp_ast12 {x0 x1 x2 x3 x4 x5 x6 x7 x8 x9 x10 x11 x12 : zV} {t : List zV} {y : Nat} (hd : decode m.2.2.1 pc = .ok (.astore 12, 2)) (hf : (zCat x11 == 1) = true) (h : wp L d m (pc + 2) (x0 :: x1 :: x2 :: x3 :: x4 :: x5 :: x6 :: x7 :: x8 :: x9 :: x10 :: x11 :: rV y :: t) st M Q) : wp L d m pc (x0 :: x1 :: x2 :: x3 :: x4 :: x5 :: x6 :: x7 :: x8 :: x9 :: x10 :: x11 :: x12 :: t) (rV y :: st) M Q := by
  refine wp_astore hd ?_ rfl h
  simp [zFree, hf]
theorem wp_iinc12 {x0 x1 x2 x3 x4 x5 x6 x7 x8 x9 x10 x11 : zV} {t : List zV} {a n : Int} (hd : decode m.2.2.1 pc = .ok (.iinc 12 n, 3)) (hf : (zCat x11 == 1) = true) (h1 : -2147483648 ≤ a + n) (h2 : a + n ≤ 2147483647) (h : wp L d m (pc + 3) (x0 :: x1 :: x2 :: x3 :: x4 :: x5 :: x6 :: x7 :: x8 :: x9 :: x10 :: x11 :: iV (a + n) :: t) st M Q) : wp L d m pc (x0 :: x1 :: x2 :: x3 :: x4 :: x5 :: x6 :: x7 :: x8 :: x9 :: x10 :: x11 :: iV a :: t) st M Q := by
  refine wp_iinc hd rfl ?_ h1 h2 rfl h
  simp [zFree, hf]
theorem wp_lst0 {x0 x1 : zV} {t : List zV} {y : Int64} (hd : decode m.2.2.1 pc = .ok (.lstore_n 0, 1)) (h : wp L d m (pc + 1) (lV y :: uV :: t) st M Q) : wp L d m pc (x0 :: x1 :: t) (lV y :: st) M Q := by
  refine wp_lstore_n hd ?_ rfl h
  simp [zFree]
theorem wp_lst1 {x0 x1 x2 : zV} {t : List zV} {y : Int64} (hd : decode m.2.2.1 pc = .ok (.lstore_n 1, 1)) (hf : (zCat x0 == 1) = true) (h : wp L d m (pc + 1) (x0 :: lV y :: uV :: t) st M Q) : wp L d m pc (x0 :: x1 :: x2 :: t) (lV y :: st) M Q := by
  refine wp_lstore_n hd ?_ rfl h
  simp [zFree, hf]
theorem wp_lst2 {x0 x1 x2 x3 : zV} {t : List zV} {y : Int64} (hd : decode m.2.2.1 pc = .ok (.lstore_n 2, 1)) (hf : (zCat x1 == 1) = true) (h : wp L d m (pc + 1) (x0 :: x1 :: lV y :: uV :: t) st M Q) : wp L d m pc (x0 :: x1 :: x2 :: x3 :: t) (lV y :: st) M Q := by
  refine wp_lstore_n hd ?_ rfl h
  simp [zFree, hf]
theorem wp_lst3 {x0 x1 x2 x3 x4 : zV} {t : List zV} {y : Int64} (hd : decode m.2.2.1 pc = .ok (.lstore_n 3, 1)) (hf : (zCat x2 == 1) = true) (h : wp L d m (pc + 1) (x0 :: x1 :: x2 :: lV y :: uV :: t) st M Q) : wp L d m pc (x0 :: x1 :: x2 :: x3 :: x4 :: t) (lV y :: st) M Q := by
  refine wp_lstore_n hd ?_ rfl h
  simp [zFree, hf]
  show (3 : Nat) < _
  omega
theorem wp_lst4 {x0 x1 x2 x3 x4 x5 : zV} {t : List zV} {y : Int64} (hd : decode m.2.2.1 pc = .ok (.lstore 4, 2)) (hf : (zCat x3 == 1) = true) (h : wp L d m (pc + 2) (x0 :: x1 :: x2 :: x3 :: lV y :: uV :: t) st M Q) : wp L d m pc (x0 :: x1 :: x2 :: x3 :: x4 :: x5 :: t) (lV y :: st) M Q := by
  refine wp_lstore hd ?_ rfl h
  simp [zFree, hf]
theorem wp_lst5 {x0 x1 x2 x3 x4 x5 x6 : zV} {t : List zV} {y : Int64} (hd : decode m.2.2.1 pc = .ok (.lstore 5, 2)) (hf : (zCat x4 == 1) = true) (h : wp L d m (pc + 2) (x0 :: x1 :: x2 :: x3 :: x4 :: lV y :: uV :: t) st M Q) : wp L d m pc (x0 :: x1 :: x2 :: x3 :: x4 :: x5 :: x6 :: t) (lV y :: st) M Q := by
  refine wp_lstore hd ?_ rfl h
  simp [zFree, hf]
theorem wp_lst6 {x0 x1 x2 x3 x4 x5 x6 x7 : zV} {t : List zV} {y : Int64} (hd : decode m.2.2.1 pc = .ok (.lstore 6, 2)) (hf : (zCat x5 == 1) = true) (h : wp L d m (pc + 2) (x0 :: x1 :: x2 :: x3 :: x4 :: x5 :: lV y :: uV :: t) st M Q) : wp L d m pc (x0 :: x1 :: x2 :: x3 :: x4 :: x5 :: x6 :: x7 :: t) (lV y :: st) M Q := by
  refine wp_lstore hd ?_ rfl h
  simp [zFree, hf]
theorem wp_lst7 {x0 x1 x2 x3 x4 x5 x6 x7 x8 : zV} {t : List zV} {y : Int64} (hd : decode m.2.2.1 pc = .ok (.lstore 7, 2)) (hf : (zCat x6 == 1) = true) (h : wp L d m (pc + 2) (x0 :: x1 :: x2 :: x3 :: x4 :: x5 :: x6 :: lV y :: uV :: t) st M Q) : wp L d m pc (x0 :: x1 :: x2 :: x3 :: x4 :: x5 :: x6 :: x7 :: x8 :: t) (lV y :: st) M Q := by
  refine wp_lstore hd ?_ rfl h
  simp [zFree, hf]
theorem wp_lst8 {x0 x1 x2 x3 x4 x5 x6 x7 x8 x9 : zV} {t : List zV} {y : Int64} (hd : decode m.2.2.1 pc = .ok (.lstore 8, 2)) (hf : (zCat x7 == 1) = true) (h : wp L d m (pc + 2) (x0 :: x1 :: x2 :: x3 :: x4 :: x5 :: x6 :: x7 :: lV y :: uV :: t) st M Q) : wp L d m pc (x0 :: x1 :: x2 :: x3 :: x4 :: x5 :: x6 :: x7 :: x8 :: x9 :: t) (lV y :: st) M Q := by
  refine wp_lstore hd ?_ rfl h
  simp [zFree, hf]
theorem wp_lst9 {x0 x1 x2 x3 x4 x5 x6 x7 x8 x9 x10 : zV} {t : List zV} {y : Int64} (hd : decode m.2.2.1 pc = .ok (.lstore 9, 2)) (hf : (zCat x8 == 1) = true) (h : wp L d m (pc + 2) (x0 :: x1 :: x2 :: x3 :: x4 :: x5 :: x6 :: x7 :: x8 :: lV y :: uV :: t) st M Q) : wp L d m pc (x0 :: x1 :: x2 :: x3 :: x4 :: x5 :: x6 :: x7 :: x8 :: x9 :: x10 :: t) (lV y :: st) M Q := by
  refine wp_lstore hd ?_ rfl h
  simp [zFree, hf]
theorem wp_lst10 {x0 x1 x2 x3 x4 x5 x6 x7 x8 x9 x10 x11 : zV} {t : List zV} {y : Int64} (hd : decode m.2.2.1 pc = .ok (.lstore 10, 2)) (hf : (zCat x9 == 1) = true) (h : wp L d m (pc + 2) (x0 :: x1 :: x2 :: x3 :: x4 :: x5 :: x6 :: x7 :: x8 :: x9 :: lV y :: uV :: t) st M Q) : wp L d m pc (x0 :: x1 :: x2 :: x3 :: x4 :: x5 :: x6 :: x7 :: x8 :: x9 :: x10 :: x11 :: t) (lV y :: st) M Q := by
  refine wp_lstore hd ?_ rfl h
  simp [zFree, hf]
theorem wp_lst11 {x0 x1 x2 x3 x4 x5 x6 x7 x8 x9 x10 x11 x12 : zV} {t : List zV} {y : Int64} (hd : decode m.2.2.1 pc = .ok (.lstore 11, 2)) (hf : (zCat x10 == 1) = true) (h : wp L d m (pc + 2) (x0 :: x1 :: x2 :: x3 :: x4 :: x5 :: x6 :: x7 :: x8 :: x9 :: x10 :: lV y :: uV :: t) st M Q) : wp L d m pc (x0 :: x1 :: x2 :: x3 :: x4 :: x5 :: x6 :: x7 :: x8 :: x9 :: x10 :: x11 :: x12 :: t) (lV y :: st) M Q := by
  refine wp_lstore hd ?_ rfl h
  simp [zFree, hf]
variable {ls : List zV}
def Cf (L d : Nat) (m : zD) (as : List zV) (M : zM) (v : zV) (M1 : zM) : Prop := wpc L d m as M (fun r M' => r = some v ∧ M' = M1)
def Ci (L d : Nat) (m : zD) (as : List zV) (M : zM) (P : Int → zM → Prop) : Prop := wpc L d m as M (fun r M' => ∃ x, r = some (iV x) ∧ P x M')
def Cv (L d : Nat) (m : zD) (as : List zV) (M : zM) (P : zM → Prop) : Prop := wpc L d m as M (fun r M' => r = none ∧ P M')
theorem wp_callV0f {k a sz d' : Nat} {m' : zD} {rest : List zV} {v : zV} {M1 : zM} (hd : decode m.2.2.1 pc = .ok (.invokevirtual k, 3)) (hf : zCall m.1 k = some (0, 0, m')) (hcs : decide (zCs rest ≤ 8) = true) (hk : zkd L a = some (m'.1, sz)) (hsl : decide ((zSl [rV a]).length ≤ m'.2.2.2.1) = true) (hle : decide (d' + 1 ≤ d) = true) (hc : Cf L d' m' [rV a] M v M1) (h : wp L d m (pc + 3) ls (v :: rest) M1 Q) : wp L d m pc ls (rV a :: rest) M Q :=
  wp_callV (as := []) hd hf ⟨rfl, rfl⟩ hcs hk hsl hle hc (fun r M' hp => by obtain ⟨rfl, rfl⟩ := hp; exact h)
theorem wp_callV0i {k a sz d' : Nat} {m' : zD} {rest : List zV} {P : Int → zM → Prop} (hd : decode m.2.2.1 pc = .ok (.invokevirtual k, 3)) (hf : zCall m.1 k = some (0, 0, m')) (hcs : decide (zCs rest ≤ 8) = true) (hk : zkd L a = some (m'.1, sz)) (hsl : decide ((zSl [rV a]).length ≤ m'.2.2.2.1) = true) (hle : decide (d' + 1 ≤ d) = true) (hc : Ci L d' m' [rV a] M P) (h : ∀ x M', P x M' → wp L d m (pc + 3) ls (iV x :: rest) M' Q) : wp L d m pc ls (rV a :: rest) M Q :=
  wp_callV (as := []) hd hf ⟨rfl, rfl⟩ hcs hk hsl hle hc (fun r M' hp => by obtain ⟨x, rfl, hp⟩ := hp; exact h x M' hp)
theorem wp_callV0v {k a sz d' : Nat} {m' : zD} {rest : List zV} {P : zM → Prop} (hd : decode m.2.2.1 pc = .ok (.invokevirtual k, 3)) (hf : zCall m.1 k = some (0, 0, m')) (hcs : decide (zCs rest ≤ 8) = true) (hk : zkd L a = some (m'.1, sz)) (hsl : decide ((zSl [rV a]).length ≤ m'.2.2.2.1) = true) (hle : decide (d' + 1 ≤ d) = true) (hc : Cv L d' m' [rV a] M P) (h : ∀ M', P M' → wp L d m (pc + 3) ls rest M' Q) : wp L d m pc ls (rV a :: rest) M Q :=
  wp_callV (as := []) hd hf ⟨rfl, rfl⟩ hcs hk hsl hle hc (fun r M' hp => by obtain ⟨rfl, hp⟩ := hp; exact h M' hp)
theorem wp_callV1f {k a sz d' : Nat} {m' : zD} {rest : List zV} {y1 : zV} {v : zV} {M1 : zM} (hd : decode m.2.2.1 pc = .ok (.invokevirtual k, 3)) (hf : zCall m.1 k = some (0, 1, m')) (hcs : decide (zCs rest ≤ 8) = true) (hk : zkd L a = some (m'.1, sz)) (hsl : decide ((zSl [rV a, y1]).length ≤ m'.2.2.2.1) = true) (hle : decide (d' + 1 ≤ d) = true) (hc : Cf L d' m' [rV a, y1] M v M1) (h : wp L d m (pc + 3) ls (v :: rest) M1 Q) : wp L d m pc ls (y1 :: rV a :: rest) M Q :=
  wp_callV (as := [y1]) hd hf ⟨rfl, rfl⟩ hcs hk hsl hle hc (fun r M' hp => by obtain ⟨rfl, rfl⟩ := hp; exact h)
theorem wp_callV1i {k a sz d' : Nat} {m' : zD} {rest : List zV} {y1 : zV} {P : Int → zM → Prop} (hd : decode m.2.2.1 pc = .ok (.invokevirtual k, 3)) (hf : zCall m.1 k = some (0, 1, m')) (hcs : decide (zCs rest ≤ 8) = true) (hk : zkd L a = some (m'.1, sz)) (hsl : decide ((zSl [rV a, y1]).length ≤ m'.2.2.2.1) = true) (hle : decide (d' + 1 ≤ d) = true) (hc : Ci L d' m' [rV a, y1] M P) (h : ∀ x M', P x M' → wp L d m (pc + 3) ls (iV x :: rest) M' Q) : wp L d m pc ls (y1 :: rV a :: rest) M Q :=
  wp_callV (as := [y1]) hd hf ⟨rfl, rfl⟩ hcs hk hsl hle hc (fun r M' hp => by obtain ⟨x, rfl, hp⟩ := hp; exact h x M' hp)
theorem wp_callV1v {k a sz d' : Nat} {m' : zD} {rest : List zV} {y1 : zV} {P : zM → Prop} (hd : decode m.2.2.1 pc = .ok (.invokevirtual k, 3)) (hf : zCall m.1 k = some (0, 1, m')) (hcs : decide (zCs rest ≤ 8) = true) (hk : zkd L a = some (m'.1, sz)) (hsl : decide ((zSl [rV a, y1]).length ≤ m'.2.2.2.1) = true) (hle : decide (d' + 1 ≤ d) = true) (hc : Cv L d' m' [rV a, y1] M P) (h : ∀ M', P M' → wp L d m (pc + 3) ls rest M' Q) : wp L d m pc ls (y1 :: rV a :: rest) M Q :=
  wp_callV (as := [y1]) hd hf ⟨rfl, rfl⟩ hcs hk hsl hle hc (fun r M' hp => by obtain ⟨rfl, hp⟩ := hp; exact h M' hp)
theorem wp_callS1f {k d' : Nat} {m' : zD} {rest : List zV} {y1 : zV} {v : zV} {M1 : zM} (hd : decode m.2.2.1 pc = .ok (.invokestatic k, 3)) (hm : zMth m.1 k = none) (hf : zCall m.1 k = some (1, 1, m')) (hcs : decide (zCs rest ≤ 8) = true) (hsl : decide ((zSl [y1]).length ≤ m'.2.2.2.1) = true) (hle : decide (d' + 1 ≤ d) = true) (hc : Cf L d' m' [y1] M v M1) (h : wp L d m (pc + 3) ls (v :: rest) M1 Q) : wp L d m pc ls (y1 :: rest) M Q :=
  wp_callS (as := [y1]) (rest := rest) hd hm hf ⟨rfl, rfl, decide_eq_true (by simp)⟩ hcs hsl hle hc (fun r M' hp => by obtain ⟨rfl, rfl⟩ := hp; exact h)
theorem wp_callS1i {k d' : Nat} {m' : zD} {rest : List zV} {y1 : zV} {P : Int → zM → Prop} (hd : decode m.2.2.1 pc = .ok (.invokestatic k, 3)) (hm : zMth m.1 k = none) (hf : zCall m.1 k = some (1, 1, m')) (hcs : decide (zCs rest ≤ 8) = true) (hsl : decide ((zSl [y1]).length ≤ m'.2.2.2.1) = true) (hle : decide (d' + 1 ≤ d) = true) (hc : Ci L d' m' [y1] M P) (h : ∀ x M', P x M' → wp L d m (pc + 3) ls (iV x :: rest) M' Q) : wp L d m pc ls (y1 :: rest) M Q :=
  wp_callS (as := [y1]) (rest := rest) hd hm hf ⟨rfl, rfl, decide_eq_true (by simp)⟩ hcs hsl hle hc (fun r M' hp => by obtain ⟨x, rfl, hp⟩ := hp; exact h x M' hp)
theorem wp_callS1v {k d' : Nat} {m' : zD} {rest : List zV} {y1 : zV} {P : zM → Prop} (hd : decode m.2.2.1 pc = .ok (.invokestatic k, 3)) (hm : zMth m.1 k = none) (hf : zCall m.1 k = some (1, 1, m')) (hcs : decide (zCs rest ≤ 8) = true) (hsl : decide ((zSl [y1]).length ≤ m'.2.2.2.1) = true) (hle : decide (d' + 1 ≤ d) = true) (hc : Cv L d' m' [y1] M P) (h : ∀ M', P M' → wp L d m (pc + 3) ls rest M' Q) : wp L d m pc ls (y1 :: rest) M Q :=
  wp_callS (as := [y1]) (rest := rest) hd hm hf ⟨rfl, rfl, decide_eq_true (by simp)⟩ hcs hsl hle hc (fun r M' hp => by obtain ⟨rfl, hp⟩ := hp; exact h M' hp)
theorem wp_callV2f {k a sz d' : Nat} {m' : zD} {rest : List zV} {y1 y2 : zV} {v : zV} {M1 : zM} (hd : decode m.2.2.1 pc = .ok (.invokevirtual k, 3)) (hf : zCall m.1 k = some (0, 2, m')) (hcs : decide (zCs rest ≤ 8) = true) (hk : zkd L a = some (m'.1, sz)) (hsl : decide ((zSl [rV a, y1, y2]).length ≤ m'.2.2.2.1) = true) (hle : decide (d' + 1 ≤ d) = true) (hc : Cf L d' m' [rV a, y1, y2] M v M1) (h : wp L d m (pc + 3) ls (v :: rest) M1 Q) : wp L d m pc ls (y2 :: y1 :: rV a :: rest) M Q :=
  wp_callV (as := [y2, y1]) hd hf ⟨rfl, rfl⟩ hcs hk hsl hle hc (fun r M' hp => by obtain ⟨rfl, rfl⟩ := hp; exact h)
theorem wp_callV2i {k a sz d' : Nat} {m' : zD} {rest : List zV} {y1 y2 : zV} {P : Int → zM → Prop} (hd : decode m.2.2.1 pc = .ok (.invokevirtual k, 3)) (hf : zCall m.1 k = some (0, 2, m')) (hcs : decide (zCs rest ≤ 8) = true) (hk : zkd L a = some (m'.1, sz)) (hsl : decide ((zSl [rV a, y1, y2]).length ≤ m'.2.2.2.1) = true) (hle : decide (d' + 1 ≤ d) = true) (hc : Ci L d' m' [rV a, y1, y2] M P) (h : ∀ x M', P x M' → wp L d m (pc + 3) ls (iV x :: rest) M' Q) : wp L d m pc ls (y2 :: y1 :: rV a :: rest) M Q :=
  wp_callV (as := [y2, y1]) hd hf ⟨rfl, rfl⟩ hcs hk hsl hle hc (fun r M' hp => by obtain ⟨x, rfl, hp⟩ := hp; exact h x M' hp)
theorem wp_callV2v {k a sz d' : Nat} {m' : zD} {rest : List zV} {y1 y2 : zV} {P : zM → Prop} (hd : decode m.2.2.1 pc = .ok (.invokevirtual k, 3)) (hf : zCall m.1 k = some (0, 2, m')) (hcs : decide (zCs rest ≤ 8) = true) (hk : zkd L a = some (m'.1, sz)) (hsl : decide ((zSl [rV a, y1, y2]).length ≤ m'.2.2.2.1) = true) (hle : decide (d' + 1 ≤ d) = true) (hc : Cv L d' m' [rV a, y1, y2] M P) (h : ∀ M', P M' → wp L d m (pc + 3) ls rest M' Q) : wp L d m pc ls (y2 :: y1 :: rV a :: rest) M Q :=
  wp_callV (as := [y2, y1]) hd hf ⟨rfl, rfl⟩ hcs hk hsl hle hc (fun r M' hp => by obtain ⟨rfl, hp⟩ := hp; exact h M' hp)
theorem wp_callS2f {k d' : Nat} {m' : zD} {rest : List zV} {y1 y2 : zV} {v : zV} {M1 : zM} (hd : decode m.2.2.1 pc = .ok (.invokestatic k, 3)) (hm : zMth m.1 k = none) (hf : zCall m.1 k = some (1, 2, m')) (hcs : decide (zCs rest ≤ 8) = true) (hsl : decide ((zSl [y1, y2]).length ≤ m'.2.2.2.1) = true) (hle : decide (d' + 1 ≤ d) = true) (hc : Cf L d' m' [y1, y2] M v M1) (h : wp L d m (pc + 3) ls (v :: rest) M1 Q) : wp L d m pc ls (y2 :: y1 :: rest) M Q :=
  wp_callS (as := [y2, y1]) (rest := rest) hd hm hf ⟨rfl, rfl, decide_eq_true (by simp)⟩ hcs hsl hle hc (fun r M' hp => by obtain ⟨rfl, rfl⟩ := hp; exact h)
theorem wp_callS2i {k d' : Nat} {m' : zD} {rest : List zV} {y1 y2 : zV} {P : Int → zM → Prop} (hd : decode m.2.2.1 pc = .ok (.invokestatic k, 3)) (hm : zMth m.1 k = none) (hf : zCall m.1 k = some (1, 2, m')) (hcs : decide (zCs rest ≤ 8) = true) (hsl : decide ((zSl [y1, y2]).length ≤ m'.2.2.2.1) = true) (hle : decide (d' + 1 ≤ d) = true) (hc : Ci L d' m' [y1, y2] M P) (h : ∀ x M', P x M' → wp L d m (pc + 3) ls (iV x :: rest) M' Q) : wp L d m pc ls (y2 :: y1 :: rest) M Q :=
  wp_callS (as := [y2, y1]) (rest := rest) hd hm hf ⟨rfl, rfl, decide_eq_true (by simp)⟩ hcs hsl hle hc (fun r M' hp => by obtain ⟨x, rfl, hp⟩ := hp; exact h x M' hp)
theorem wp_callS2v {k d' : Nat} {m' : zD} {rest : List zV} {y1 y2 : zV} {P : zM → Prop} (hd : decode m.2.2.1 pc = .ok (.invokestatic k, 3)) (hm : zMth m.1 k = none) (hf : zCall m.1 k = some (1, 2, m')) (hcs : decide (zCs rest ≤ 8) = true) (hsl : decide ((zSl [y1, y2]).length ≤ m'.2.2.2.1) = true) (hle : decide (d' + 1 ≤ d) = true) (hc : Cv L d' m' [y1, y2] M P) (h : ∀ M', P M' → wp L d m (pc + 3) ls rest M' Q) : wp L d m pc ls (y2 :: y1 :: rest) M Q :=
  wp_callS (as := [y2, y1]) (rest := rest) hd hm hf ⟨rfl, rfl, decide_eq_true (by simp)⟩ hcs hsl hle hc (fun r M' hp => by obtain ⟨rfl, hp⟩ := hp; exact h M' hp)
theorem wp_callV3f {k a sz d' : Nat} {m' : zD} {rest : List zV} {y1 y2 y3 : zV} {v : zV} {M1 : zM} (hd : decode m.2.2.1 pc = .ok (.invokevirtual k, 3)) (hf : zCall m.1 k = some (0, 3, m')) (hcs : decide (zCs rest ≤ 8) = true) (hk : zkd L a = some (m'.1, sz)) (hsl : decide ((zSl [rV a, y1, y2, y3]).length ≤ m'.2.2.2.1) = true) (hle : decide (d' + 1 ≤ d) = true) (hc : Cf L d' m' [rV a, y1, y2, y3] M v M1) (h : wp L d m (pc + 3) ls (v :: rest) M1 Q) : wp L d m pc ls (y3 :: y2 :: y1 :: rV a :: rest) M Q :=
  wp_callV (as := [y3, y2, y1]) hd hf ⟨rfl, rfl⟩ hcs hk hsl hle hc (fun r M' hp => by obtain ⟨rfl, rfl⟩ := hp; exact h)
theorem wp_callV3i {k a sz d' : Nat} {m' : zD} {rest : List zV} {y1 y2 y3 : zV} {P : Int → zM → Prop} (hd : decode m.2.2.1 pc = .ok (.invokevirtual k, 3)) (hf : zCall m.1 k = some (0, 3, m')) (hcs : decide (zCs rest ≤ 8) = true) (hk : zkd L a = some (m'.1, sz)) (hsl : decide ((zSl [rV a, y1, y2, y3]).length ≤ m'.2.2.2.1) = true) (hle : decide (d' + 1 ≤ d) = true) (hc : Ci L d' m' [rV a, y1, y2, y3] M P) (h : ∀ x M', P x M' → wp L d m (pc + 3) ls (iV x :: rest) M' Q) : wp L d m pc ls (y3 :: y2 :: y1 :: rV a :: rest) M Q :=
  wp_callV (as := [y3, y2, y1]) hd hf ⟨rfl, rfl⟩ hcs hk hsl hle hc (fun r M' hp => by obtain ⟨x, rfl, hp⟩ := hp; exact h x M' hp)
theorem wp_callV3v {k a sz d' : Nat} {m' : zD} {rest : List zV} {y1 y2 y3 : zV} {P : zM → Prop} (hd : decode m.2.2.1 pc = .ok (.invokevirtual k, 3)) (hf : zCall m.1 k = some (0, 3, m')) (hcs : decide (zCs rest ≤ 8) = true) (hk : zkd L a = some (m'.1, sz)) (hsl : decide ((zSl [rV a, y1, y2, y3]).length ≤ m'.2.2.2.1) = true) (hle : decide (d' + 1 ≤ d) = true) (hc : Cv L d' m' [rV a, y1, y2, y3] M P) (h : ∀ M', P M' → wp L d m (pc + 3) ls rest M' Q) : wp L d m pc ls (y3 :: y2 :: y1 :: rV a :: rest) M Q :=
  wp_callV (as := [y3, y2, y1]) hd hf ⟨rfl, rfl⟩ hcs hk hsl hle hc (fun r M' hp => by obtain ⟨rfl, hp⟩ := hp; exact h M' hp)
theorem wp_callS3f {k d' : Nat} {m' : zD} {rest : List zV} {y1 y2 y3 : zV} {v : zV} {M1 : zM} (hd : decode m.2.2.1 pc = .ok (.invokestatic k, 3)) (hm : zMth m.1 k = none) (hf : zCall m.1 k = some (1, 3, m')) (hcs : decide (zCs rest ≤ 8) = true) (hsl : decide ((zSl [y1, y2, y3]).length ≤ m'.2.2.2.1) = true) (hle : decide (d' + 1 ≤ d) = true) (hc : Cf L d' m' [y1, y2, y3] M v M1) (h : wp L d m (pc + 3) ls (v :: rest) M1 Q) : wp L d m pc ls (y3 :: y2 :: y1 :: rest) M Q :=
  wp_callS (as := [y3, y2, y1]) (rest := rest) hd hm hf ⟨rfl, rfl, decide_eq_true (by simp)⟩ hcs hsl hle hc (fun r M' hp => by obtain ⟨rfl, rfl⟩ := hp; exact h)
theorem wp_callS3i {k d' : Nat} {m' : zD} {rest : List zV} {y1 y2 y3 : zV} {P : Int → zM → Prop} (hd : decode m.2.2.1 pc = .ok (.invokestatic k, 3)) (hm : zMth m.1 k = none) (hf : zCall m.1 k = some (1, 3, m')) (hcs : decide (zCs rest ≤ 8) = true) (hsl : decide ((zSl [y1, y2, y3]).length ≤ m'.2.2.2.1) = true) (hle : decide (d' + 1 ≤ d) = true) (hc : Ci L d' m' [y1, y2, y3] M P) (h : ∀ x M', P x M' → wp L d m (pc + 3) ls (iV x :: rest) M' Q) : wp L d m pc ls (y3 :: y2 :: y1 :: rest) M Q :=
  wp_callS (as := [y3, y2, y1]) (rest := rest) hd hm hf ⟨rfl, rfl, decide_eq_true (by simp)⟩ hcs hsl hle hc (fun r M' hp => by obtain ⟨x, rfl, hp⟩ := hp; exact h x M' hp)
theorem wp_callS3v {k d' : Nat} {m' : zD} {rest : List zV} {y1 y2 y3 : zV} {P : zM → Prop} (hd : decode m.2.2.1 pc = .ok (.invokestatic k, 3)) (hm : zMth m.1 k = none) (hf : zCall m.1 k = some (1, 3, m')) (hcs : decide (zCs rest ≤ 8) = true) (hsl : decide ((zSl [y1, y2, y3]).length ≤ m'.2.2.2.1) = true) (hle : decide (d' + 1 ≤ d) = true) (hc : Cv L d' m' [y1, y2, y3] M P) (h : ∀ M', P M' → wp L d m (pc + 3) ls rest M' Q) : wp L d m pc ls (y3 :: y2 :: y1 :: rest) M Q :=
  wp_callS (as := [y3, y2, y1]) (rest := rest) hd hm hf ⟨rfl, rfl, decide_eq_true (by simp)⟩ hcs hsl hle hc (fun r M' hp => by obtain ⟨rfl, hp⟩ := hp; exact h M' hp)
theorem wp_callV4f {k a sz d' : Nat} {m' : zD} {rest : List zV} {y1 y2 y3 y4 : zV} {v : zV} {M1 : zM} (hd : decode m.2.2.1 pc = .ok (.invokevirtual k, 3)) (hf : zCall m.1 k = some (0, 4, m')) (hcs : decide (zCs rest ≤ 8) = true) (hk : zkd L a = some (m'.1, sz)) (hsl : decide ((zSl [rV a, y1, y2, y3, y4]).length ≤ m'.2.2.2.1) = true) (hle : decide (d' + 1 ≤ d) = true) (hc : Cf L d' m' [rV a, y1, y2, y3, y4] M v M1) (h : wp L d m (pc + 3) ls (v :: rest) M1 Q) : wp L d m pc ls (y4 :: y3 :: y2 :: y1 :: rV a :: rest) M Q :=
  wp_callV (as := [y4, y3, y2, y1]) hd hf ⟨rfl, rfl⟩ hcs hk hsl hle hc (fun r M' hp => by obtain ⟨rfl, rfl⟩ := hp; exact h)
theorem wp_callV4i {k a sz d' : Nat} {m' : zD} {rest : List zV} {y1 y2 y3 y4 : zV} {P : Int → zM → Prop} (hd : decode m.2.2.1 pc = .ok (.invokevirtual k, 3)) (hf : zCall m.1 k = some (0, 4, m')) (hcs : decide (zCs rest ≤ 8) = true) (hk : zkd L a = some (m'.1, sz)) (hsl : decide ((zSl [rV a, y1, y2, y3, y4]).length ≤ m'.2.2.2.1) = true) (hle : decide (d' + 1 ≤ d) = true) (hc : Ci L d' m' [rV a, y1, y2, y3, y4] M P) (h : ∀ x M', P x M' → wp L d m (pc + 3) ls (iV x :: rest) M' Q) : wp L d m pc ls (y4 :: y3 :: y2 :: y1 :: rV a :: rest) M Q :=
  wp_callV (as := [y4, y3, y2, y1]) hd hf ⟨rfl, rfl⟩ hcs hk hsl hle hc (fun r M' hp => by obtain ⟨x, rfl, hp⟩ := hp; exact h x M' hp)
theorem wp_callV4v {k a sz d' : Nat} {m' : zD} {rest : List zV} {y1 y2 y3 y4 : zV} {P : zM → Prop} (hd : decode m.2.2.1 pc = .ok (.invokevirtual k, 3)) (hf : zCall m.1 k = some (0, 4, m')) (hcs : decide (zCs rest ≤ 8) = true) (hk : zkd L a = some (m'.1, sz)) (hsl : decide ((zSl [rV a, y1, y2, y3, y4]).length ≤ m'.2.2.2.1) = true) (hle : decide (d' + 1 ≤ d) = true) (hc : Cv L d' m' [rV a, y1, y2, y3, y4] M P) (h : ∀ M', P M' → wp L d m (pc + 3) ls rest M' Q) : wp L d m pc ls (y4 :: y3 :: y2 :: y1 :: rV a :: rest) M Q :=
  wp_callV (as := [y4, y3, y2, y1]) hd hf ⟨rfl, rfl⟩ hcs hk hsl hle hc (fun r M' hp => by obtain ⟨rfl, hp⟩ := hp; exact h M' hp)
theorem wp_callS4f {k d' : Nat} {m' : zD} {rest : List zV} {y1 y2 y3 y4 : zV} {v : zV} {M1 : zM} (hd : decode m.2.2.1 pc = .ok (.invokestatic k, 3)) (hm : zMth m.1 k = none) (hf : zCall m.1 k = some (1, 4, m')) (hcs : decide (zCs rest ≤ 8) = true) (hsl : decide ((zSl [y1, y2, y3, y4]).length ≤ m'.2.2.2.1) = true) (hle : decide (d' + 1 ≤ d) = true) (hc : Cf L d' m' [y1, y2, y3, y4] M v M1) (h : wp L d m (pc + 3) ls (v :: rest) M1 Q) : wp L d m pc ls (y4 :: y3 :: y2 :: y1 :: rest) M Q :=
  wp_callS (as := [y4, y3, y2, y1]) (rest := rest) hd hm hf ⟨rfl, rfl, decide_eq_true (by simp)⟩ hcs hsl hle hc (fun r M' hp => by obtain ⟨rfl, rfl⟩ := hp; exact h)
theorem wp_callS4i {k d' : Nat} {m' : zD} {rest : List zV} {y1 y2 y3 y4 : zV} {P : Int → zM → Prop} (hd : decode m.2.2.1 pc = .ok (.invokestatic k, 3)) (hm : zMth m.1 k = none) (hf : zCall m.1 k = some (1, 4, m')) (hcs : decide (zCs rest ≤ 8) = true) (hsl : decide ((zSl [y1, y2, y3, y4]).length ≤ m'.2.2.2.1) = true) (hle : decide (d' + 1 ≤ d) = true) (hc : Ci L d' m' [y1, y2, y3, y4] M P) (h : ∀ x M', P x M' → wp L d m (pc + 3) ls (iV x :: rest) M' Q) : wp L d m pc ls (y4 :: y3 :: y2 :: y1 :: rest) M Q :=
  wp_callS (as := [y4, y3, y2, y1]) (rest := rest) hd hm hf ⟨rfl, rfl, decide_eq_true (by simp)⟩ hcs hsl hle hc (fun r M' hp => by obtain ⟨x, rfl, hp⟩ := hp; exact h x M' hp)
theorem wp_callS4v {k d' : Nat} {m' : zD} {rest : List zV} {y1 y2 y3 y4 : zV} {P : zM → Prop} (hd : decode m.2.2.1 pc = .ok (.invokestatic k, 3)) (hm : zMth m.1 k = none) (hf : zCall m.1 k = some (1, 4, m')) (hcs : decide (zCs rest ≤ 8) = true) (hsl : decide ((zSl [y1, y2, y3, y4]).length ≤ m'.2.2.2.1) = true) (hle : decide (d' + 1 ≤ d) = true) (hc : Cv L d' m' [y1, y2, y3, y4] M P) (h : ∀ M', P M' → wp L d m (pc + 3) ls rest M' Q) : wp L d m pc ls (y4 :: y3 :: y2 :: y1 :: rest) M Q :=
  wp_callS (as := [y4, y3, y2, y1]) (rest := rest) hd hm hf ⟨rfl, rfl, decide_eq_true (by simp)⟩ hcs hsl hle hc (fun r M' hp => by obtain ⟨rfl, hp⟩ := hp; exact h M' hp)
end ZWR
theorem zk_0 (L : Nat) : zkd L 0 = some (20, 26) := rfl
theorem zk_1 (L : Nat) : zkd L 1 = some (20, 7) := rfl
theorem zk_2 (L : Nat) : zkd L 2 = some (20, 7) := rfl
theorem zk_4 (L : Nat) : zkd L 4 = some (9, 9) := rfl
theorem zk_5 (L : Nat) : zkd L 5 = some (8, 2) := rfl
theorem zk_6 (L : Nat) : zkd L 6 = some (20, 24) := rfl
theorem zk_7 (L : Nat) : zkd L 7 = some (3, 6) := rfl
theorem zk_8 (L : Nat) : zkd L 8 = some (22, 6) := rfl
theorem zk_9 (L : Nat) : zkd L 9 = some (23, 36) := rfl
theorem zk_10 (L : Nat) : zkd L 10 = some (0, 1) := rfl
theorem zk_11 (L : Nat) : zkd L 11 = some (20, 676) := rfl
theorem zk_12 (L : Nat) : zkd L 12 = some (8, 2) := rfl
theorem zk_13 (L : Nat) : zkd L 13 = some (20, 24) := rfl
theorem zk_14 (L : Nat) : zkd L 14 = some (8, 2) := rfl
theorem zk_15 (L : Nat) : zkd L 15 = some (20, 24) := rfl
theorem zk_16 (L : Nat) : zkd L 16 = some (8, 2) := rfl
theorem zk_17 (L : Nat) : zkd L 17 = some (20, 24) := rfl
theorem zk_18 (L : Nat) : zkd L 18 = some (8, 2) := rfl
theorem zk_19 (L : Nat) : zkd L 19 = some (20, 24) := rfl
theorem zk_20 (L : Nat) : zkd L 20 = some (8, 2) := rfl
theorem zk_21 (L : Nat) : zkd L 21 = some (20, 24) := rfl
theorem zk_22 (L : Nat) : zkd L 22 = some (8, 2) := rfl
theorem zk_23 (L : Nat) : zkd L 23 = some (20, 24) := rfl
theorem zk_24 (L : Nat) : zkd L 24 = some (1, 4) := rfl
theorem zk_25 (L : Nat) : zkd L 25 = some (20, 48) := rfl
theorem zk_26 (L : Nat) : zkd L 26 = some (20, 7) := rfl
theorem zk_27 (L : Nat) : zkd L 27 = some (1, 4) := rfl
theorem zk_28 (L : Nat) : zkd L 28 = some (20, 48) := rfl
theorem zk_29 (L : Nat) : zkd L 29 = some (20, 7) := rfl
theorem zk_30 (L : Nat) : zkd L 30 = some (1, 4) := rfl
theorem zk_31 (L : Nat) : zkd L 31 = some (20, 48) := rfl
theorem zk_32 (L : Nat) : zkd L 32 = some (20, 7) := rfl
theorem zk_33 (L : Nat) : zkd L 33 = some (1, 4) := rfl
theorem zk_34 (L : Nat) : zkd L 34 = some (20, 48) := rfl
theorem zk_35 (L : Nat) : zkd L 35 = some (20, 7) := rfl
theorem zk_36 (L : Nat) : zkd L 36 = some (1, 4) := rfl
theorem zk_37 (L : Nat) : zkd L 37 = some (20, 48) := rfl
theorem zk_38 (L : Nat) : zkd L 38 = some (20, 7) := rfl
theorem zk_39 (L : Nat) : zkd L 39 = some (1, 4) := rfl
theorem zk_40 (L : Nat) : zkd L 40 = some (20, 48) := rfl
theorem zk_41 (L : Nat) : zkd L 41 = some (20, 7) := rfl
theorem zk_42 (L : Nat) : zkd L 42 = some (1, 4) := rfl
theorem zk_43 (L : Nat) : zkd L 43 = some (20, 48) := rfl
theorem zk_44 (L : Nat) : zkd L 44 = some (20, 7) := rfl
theorem zk_45 (L : Nat) : zkd L 45 = some (1, 4) := rfl
theorem zk_46 (L : Nat) : zkd L 46 = some (20, 48) := rfl
theorem zk_47 (L : Nat) : zkd L 47 = some (20, 7) := rfl
theorem zk_48 (L : Nat) : zkd L 48 = some (1, 4) := rfl
theorem zk_49 (L : Nat) : zkd L 49 = some (20, 48) := rfl
theorem zk_50 (L : Nat) : zkd L 50 = some (20, 7) := rfl
theorem zk_51 (L : Nat) : zkd L 51 = some (1, 4) := rfl
theorem zk_52 (L : Nat) : zkd L 52 = some (20, 48) := rfl
theorem zk_53 (L : Nat) : zkd L 53 = some (20, 7) := rfl
theorem zk_54 (L : Nat) : zkd L 54 = some (1, 4) := rfl
theorem zk_55 (L : Nat) : zkd L 55 = some (20, 48) := rfl
theorem zk_56 (L : Nat) : zkd L 56 = some (20, 7) := rfl
theorem zk_57 (L : Nat) : zkd L 57 = some (1, 4) := rfl
theorem zk_58 (L : Nat) : zkd L 58 = some (20, 48) := rfl
theorem zk_59 (L : Nat) : zkd L 59 = some (20, 7) := rfl
theorem zk_60 (L : Nat) : zkd L 60 = some (1, 4) := rfl
theorem zk_61 (L : Nat) : zkd L 61 = some (20, 48) := rfl
theorem zk_62 (L : Nat) : zkd L 62 = some (20, 7) := rfl
theorem zk_63 (L : Nat) : zkd L 63 = some (1, 4) := rfl
theorem zk_64 (L : Nat) : zkd L 64 = some (20, 48) := rfl
theorem zk_65 (L : Nat) : zkd L 65 = some (20, 7) := rfl
theorem zk_66 (L : Nat) : zkd L 66 = some (1, 4) := rfl
theorem zk_67 (L : Nat) : zkd L 67 = some (20, 48) := rfl
theorem zk_68 (L : Nat) : zkd L 68 = some (20, 7) := rfl
theorem zk_69 (L : Nat) : zkd L 69 = some (1, 4) := rfl
theorem zk_70 (L : Nat) : zkd L 70 = some (20, 48) := rfl
theorem zk_71 (L : Nat) : zkd L 71 = some (20, 7) := rfl
theorem zk_72 (L : Nat) : zkd L 72 = some (1, 4) := rfl
theorem zk_73 (L : Nat) : zkd L 73 = some (20, 48) := rfl
theorem zk_74 (L : Nat) : zkd L 74 = some (20, 7) := rfl
theorem zk_75 (L : Nat) : zkd L 75 = some (1, 4) := rfl
theorem zk_76 (L : Nat) : zkd L 76 = some (20, 48) := rfl
theorem zk_77 (L : Nat) : zkd L 77 = some (20, 7) := rfl
theorem zk_78 (L : Nat) : zkd L 78 = some (1, 4) := rfl
theorem zk_79 (L : Nat) : zkd L 79 = some (20, 48) := rfl
theorem zk_80 (L : Nat) : zkd L 80 = some (20, 7) := rfl
theorem zk_81 (L : Nat) : zkd L 81 = some (1, 4) := rfl
theorem zk_82 (L : Nat) : zkd L 82 = some (20, 48) := rfl
theorem zk_83 (L : Nat) : zkd L 83 = some (20, 7) := rfl
theorem zk_84 (L : Nat) : zkd L 84 = some (1, 4) := rfl
theorem zk_85 (L : Nat) : zkd L 85 = some (20, 48) := rfl
theorem zk_86 (L : Nat) : zkd L 86 = some (20, 7) := rfl
theorem zk_87 (L : Nat) : zkd L 87 = some (1, 4) := rfl
theorem zk_88 (L : Nat) : zkd L 88 = some (20, 48) := rfl
theorem zk_89 (L : Nat) : zkd L 89 = some (20, 7) := rfl
theorem zk_90 (L : Nat) : zkd L 90 = some (1, 4) := rfl
theorem zk_91 (L : Nat) : zkd L 91 = some (20, 48) := rfl
theorem zk_92 (L : Nat) : zkd L 92 = some (20, 7) := rfl
theorem zk_93 (L : Nat) : zkd L 93 = some (1, 4) := rfl
theorem zk_94 (L : Nat) : zkd L 94 = some (20, 48) := rfl
theorem zk_95 (L : Nat) : zkd L 95 = some (20, 7) := rfl
theorem zk_96 (L : Nat) : zkd L 96 = some (1, 4) := rfl
theorem zk_97 (L : Nat) : zkd L 97 = some (20, 48) := rfl
theorem zk_98 (L : Nat) : zkd L 98 = some (20, 7) := rfl
theorem zk_99 (L : Nat) : zkd L 99 = some (1, 4) := rfl
theorem zk_100 (L : Nat) : zkd L 100 = some (20, 48) := rfl
theorem zk_101 (L : Nat) : zkd L 101 = some (20, 7) := rfl
theorem zk_102 (L : Nat) : zkd L 102 = some (1, 4) := rfl
theorem zk_103 (L : Nat) : zkd L 103 = some (20, 48) := rfl
theorem zk_104 (L : Nat) : zkd L 104 = some (20, 7) := rfl
theorem zk_105 (L : Nat) : zkd L 105 = some (1, 4) := rfl
theorem zk_106 (L : Nat) : zkd L 106 = some (20, 48) := rfl
theorem zk_107 (L : Nat) : zkd L 107 = some (20, 7) := rfl
theorem zk_108 (L : Nat) : zkd L 108 = some (1, 4) := rfl
theorem zk_109 (L : Nat) : zkd L 109 = some (20, 48) := rfl
theorem zk_110 (L : Nat) : zkd L 110 = some (20, 7) := rfl
theorem zk_111 (L : Nat) : zkd L 111 = some (1, 4) := rfl
theorem zk_112 (L : Nat) : zkd L 112 = some (20, 48) := rfl
theorem zk_113 (L : Nat) : zkd L 113 = some (20, 7) := rfl
theorem zk_114 (L : Nat) : zkd L 114 = some (1, 4) := rfl
theorem zk_115 (L : Nat) : zkd L 115 = some (20, 48) := rfl
theorem zk_116 (L : Nat) : zkd L 116 = some (20, 7) := rfl
theorem zk_117 (L : Nat) : zkd L 117 = some (1, 4) := rfl
theorem zk_118 (L : Nat) : zkd L 118 = some (20, 48) := rfl
theorem zk_119 (L : Nat) : zkd L 119 = some (20, 7) := rfl
theorem zk_120 (L : Nat) : zkd L 120 = some (1, 4) := rfl
theorem zk_121 (L : Nat) : zkd L 121 = some (20, 48) := rfl
theorem zk_122 (L : Nat) : zkd L 122 = some (20, 7) := rfl
theorem zk_123 (L : Nat) : zkd L 123 = some (1, 4) := rfl
theorem zk_124 (L : Nat) : zkd L 124 = some (20, 48) := rfl
theorem zk_125 (L : Nat) : zkd L 125 = some (20, 7) := rfl
theorem zk_126 (L : Nat) : zkd L 126 = some (1, 4) := rfl
theorem zk_127 (L : Nat) : zkd L 127 = some (20, 48) := rfl
theorem zk_128 (L : Nat) : zkd L 128 = some (20, 7) := rfl
theorem zk_129 (L : Nat) : zkd L 129 = some (1, 4) := rfl
theorem zk_130 (L : Nat) : zkd L 130 = some (20, 48) := rfl
theorem zk_131 (L : Nat) : zkd L 131 = some (20, 7) := rfl
theorem zk_132 (L : Nat) : zkd L 132 = some (7, 12) := rfl
theorem zk_133 (L : Nat) : zkd L 133 = some (24, 6) := rfl
theorem zk_134 (L : Nat) : zkd L 134 = some (20, 24) := rfl
theorem zk_135 (L : Nat) : zkd L 135 = some (20, 24) := rfl
theorem zk_136 (L : Nat) : zkd L 136 = some (20, 24) := rfl
theorem zk_137 (L : Nat) : zkd L 137 = some (20, 24) := rfl
theorem zk_138 (L : Nat) : zkd L 138 = some (20, 24) := rfl
theorem zk_139 (L : Nat) : zkd L 139 = some (20, 24) := rfl
theorem zk_140 (L : Nat) : zkd L 140 = some (20, 6) := rfl
theorem zk_141 (L : Nat) : zkd L 141 = some (20, 6) := rfl
theorem zk_142 (L : Nat) : zkd L 142 = some (20, 6) := rfl
theorem zk_143 (L : Nat) : zkd L 143 = some (20, 6) := rfl
theorem zk_144 (L : Nat) : zkd L 144 = some (20, 6) := rfl
theorem zk_145 (L : Nat) : zkd L 145 = some (20, 6) := rfl
theorem zk_146 (L : Nat) : zkd L 146 = some (20, 6) := rfl
theorem zk_147 (L : Nat) : zkd L 147 = some (6, 3) := rfl
theorem zk_148 (L : Nat) : zkd L 148 = some (24, 12) := rfl
theorem zk_149 (L : Nat) : zkd L 149 = some (20, 4) := rfl
theorem zk_150 (L : Nat) : zkd L 150 = some (20, 4) := rfl
theorem zk_151 (L : Nat) : zkd L 151 = some (20, 4) := rfl
theorem zk_152 (L : Nat) : zkd L 152 = some (20, 4) := rfl
theorem zk_153 (L : Nat) : zkd L 153 = some (20, 4) := rfl
theorem zk_154 (L : Nat) : zkd L 154 = some (20, 4) := rfl
theorem zk_155 (L : Nat) : zkd L 155 = some (20, 4) := rfl
theorem zk_156 (L : Nat) : zkd L 156 = some (20, 4) := rfl
theorem zk_157 (L : Nat) : zkd L 157 = some (20, 4) := rfl
theorem zk_158 (L : Nat) : zkd L 158 = some (20, 4) := rfl
theorem zk_159 (L : Nat) : zkd L 159 = some (20, 4) := rfl
theorem zk_160 (L : Nat) : zkd L 160 = some (20, 4) := rfl
theorem zk_161 (L : Nat) : zkd L 161 = some (2, 8) := rfl
theorem zk_162 (L : Nat) : zkd L 162 = some (20, 6) := rfl
theorem zk_163 (L : Nat) : zkd L 163 = some (20, 6) := rfl
theorem zk_164 (L : Nat) : zkd L 164 = some (20, 6) := rfl
theorem zk_165 (L : Nat) : zkd L 165 = some (20, 64) := rfl
theorem zk_166 (L : Nat) : zkd L 166 = some (20, 6) := rfl
theorem zk_167 (L : Nat) : zkd L 167 = some (4, 7) := rfl
theorem zk_168 (L : Nat) : zkd L 168 = some (20, 66) := rfl
theorem zk_169 (L : Nat) : zkd L 169 = some (20, 66) := rfl
theorem zk_170 (L : Nat) : zkd L 170 = some (20, 66) := rfl
theorem zk_171 (L : Nat) : zkd L 171 = some (20, 6) := rfl
theorem zk_172 (L : Nat) : zkd L 172 = some (5, 3) := rfl
theorem zk_173 (L : Nat) : zkd L 173 = some (20, 6) := rfl
theorem zk_174 (L : Nat) : zkd L 174 = some (10, 32) := rfl
theorem zk_175 (L : Nat) : zkd L 175 = some (20, 24) := rfl
theorem zk_176 (L : Nat) : zkd L 176 = some (20, 6) := rfl
theorem zk_177 (L : Nat) : zkd L 177 = some (20, 144) := rfl
theorem zk_178 (L : Nat) : zkd L 178 = some (20, 12) := rfl
theorem zk_179 (L : Nat) : zkd L 179 = some (20, 12) := rfl
theorem zk_180 (L : Nat) : zkd L 180 = some (20, 12) := rfl
theorem zk_181 (L : Nat) : zkd L 181 = some (20, 12) := rfl
theorem zk_182 (L : Nat) : zkd L 182 = some (20, 625) := rfl
theorem zk_183 (L : Nat) : zkd L 183 = some (20, 48) := rfl
theorem zk_184 (L : Nat) : zkd L 184 = some (20, 144) := rfl
theorem zk_185 (L : Nat) : zkd L 185 = some (21, 6) := rfl
theorem zk_186 (L : Nat) : zkd L 186 = some (20, 6) := rfl
theorem zk_187 (L : Nat) : zkd L 187 = some (20, 6) := rfl
theorem zk_188 (L : Nat) : zkd L 188 = some (20, 6) := rfl
theorem zk_189 (L : Nat) : zkd L 189 = some (20, 6) := rfl
theorem zk_190 (L : Nat) : zkd L 190 = some (20, 6) := rfl
theorem zk_191 (L : Nat) : zkd L 191 = some (20, 64) := rfl
theorem zk_192 (L : Nat) : zkd L 192 = some (20, 6) := rfl
theorem zk_193 (L : Nat) : zkd L 193 = some (20, 6) := rfl
theorem zx_4_0 : zK0 4 0 = ((5 : Nat) : Int) := rfl
theorem zx_4_1 : zK0 4 1 = ((7 : Nat) : Int) := rfl
theorem zx_4_2 : zK0 4 2 = ((132 : Nat) : Int) := rfl
theorem zx_4_3 : zK0 4 3 = ((147 : Nat) : Int) := rfl
theorem zx_4_4 : zK0 4 4 = ((161 : Nat) : Int) := rfl
theorem zx_4_5 : zK0 4 5 = ((167 : Nat) : Int) := rfl
theorem zx_4_6 : zK0 4 6 = ((172 : Nat) : Int) := rfl
theorem zx_5_0 : zK0 5 0 = ((6 : Nat) : Int) := rfl
theorem zx_7_0 : zK0 7 0 = ((8 : Nat) : Int) := rfl
theorem zx_7_1 : zK0 7 1 = ((9 : Nat) : Int) := rfl
theorem zx_7_2 : zK0 7 2 = ((10 : Nat) : Int) := rfl
theorem zx_8_0 : zK0 8 0 = ((12 : Nat) : Int) := rfl
theorem zx_8_1 : zK0 8 1 = ((14 : Nat) : Int) := rfl
theorem zx_8_2 : zK0 8 2 = ((16 : Nat) : Int) := rfl
theorem zx_8_3 : zK0 8 3 = ((18 : Nat) : Int) := rfl
theorem zx_8_4 : zK0 8 4 = ((20 : Nat) : Int) := rfl
theorem zx_8_5 : zK0 8 5 = ((22 : Nat) : Int) := rfl
theorem zx_9_0 : zK0 9 0 = ((24 : Nat) : Int) := rfl
theorem zx_9_1 : zK0 9 1 = ((27 : Nat) : Int) := rfl
theorem zx_9_2 : zK0 9 2 = ((30 : Nat) : Int) := rfl
theorem zx_9_3 : zK0 9 3 = ((33 : Nat) : Int) := rfl
theorem zx_9_4 : zK0 9 4 = ((36 : Nat) : Int) := rfl
theorem zx_9_5 : zK0 9 5 = ((39 : Nat) : Int) := rfl
theorem zx_9_6 : zK0 9 6 = ((42 : Nat) : Int) := rfl
theorem zx_9_7 : zK0 9 7 = ((45 : Nat) : Int) := rfl
theorem zx_9_8 : zK0 9 8 = ((48 : Nat) : Int) := rfl
theorem zx_9_9 : zK0 9 9 = ((51 : Nat) : Int) := rfl
theorem zx_9_10 : zK0 9 10 = ((54 : Nat) : Int) := rfl
theorem zx_9_11 : zK0 9 11 = ((57 : Nat) : Int) := rfl
theorem zx_9_12 : zK0 9 12 = ((60 : Nat) : Int) := rfl
theorem zx_9_13 : zK0 9 13 = ((63 : Nat) : Int) := rfl
theorem zx_9_14 : zK0 9 14 = ((66 : Nat) : Int) := rfl
theorem zx_9_15 : zK0 9 15 = ((69 : Nat) : Int) := rfl
theorem zx_9_16 : zK0 9 16 = ((72 : Nat) : Int) := rfl
theorem zx_9_17 : zK0 9 17 = ((75 : Nat) : Int) := rfl
theorem zx_9_18 : zK0 9 18 = ((78 : Nat) : Int) := rfl
theorem zx_9_19 : zK0 9 19 = ((81 : Nat) : Int) := rfl
theorem zx_9_20 : zK0 9 20 = ((84 : Nat) : Int) := rfl
theorem zx_9_21 : zK0 9 21 = ((87 : Nat) : Int) := rfl
theorem zx_9_22 : zK0 9 22 = ((90 : Nat) : Int) := rfl
theorem zx_9_23 : zK0 9 23 = ((93 : Nat) : Int) := rfl
theorem zx_9_24 : zK0 9 24 = ((96 : Nat) : Int) := rfl
theorem zx_9_25 : zK0 9 25 = ((99 : Nat) : Int) := rfl
theorem zx_9_26 : zK0 9 26 = ((102 : Nat) : Int) := rfl
theorem zx_9_27 : zK0 9 27 = ((105 : Nat) : Int) := rfl
theorem zx_9_28 : zK0 9 28 = ((108 : Nat) : Int) := rfl
theorem zx_9_29 : zK0 9 29 = ((111 : Nat) : Int) := rfl
theorem zx_9_30 : zK0 9 30 = ((114 : Nat) : Int) := rfl
theorem zx_9_31 : zK0 9 31 = ((117 : Nat) : Int) := rfl
theorem zx_9_32 : zK0 9 32 = ((120 : Nat) : Int) := rfl
theorem zx_9_33 : zK0 9 33 = ((123 : Nat) : Int) := rfl
theorem zx_9_34 : zK0 9 34 = ((126 : Nat) : Int) := rfl
theorem zx_9_35 : zK0 9 35 = ((129 : Nat) : Int) := rfl
theorem zx_10_0 : zK0 10 0 = ((11 : Nat) : Int) := rfl
theorem zx_12_0 : zK0 12 0 = ((13 : Nat) : Int) := rfl
theorem zx_14_0 : zK0 14 0 = ((15 : Nat) : Int) := rfl
theorem zx_16_0 : zK0 16 0 = ((17 : Nat) : Int) := rfl
theorem zx_18_0 : zK0 18 0 = ((19 : Nat) : Int) := rfl
theorem zx_20_0 : zK0 20 0 = ((21 : Nat) : Int) := rfl
theorem zx_22_0 : zK0 22 0 = ((23 : Nat) : Int) := rfl
theorem zx_24_0 : zK0 24 0 = ((25 : Nat) : Int) := rfl
theorem zx_24_1 : zK0 24 1 = ((26 : Nat) : Int) := rfl
theorem zx_27_0 : zK0 27 0 = ((28 : Nat) : Int) := rfl
theorem zx_27_1 : zK0 27 1 = ((29 : Nat) : Int) := rfl
theorem zx_30_0 : zK0 30 0 = ((31 : Nat) : Int) := rfl
theorem zx_30_1 : zK0 30 1 = ((32 : Nat) : Int) := rfl
theorem zx_33_0 : zK0 33 0 = ((34 : Nat) : Int) := rfl
theorem zx_33_1 : zK0 33 1 = ((35 : Nat) : Int) := rfl
theorem zx_36_0 : zK0 36 0 = ((37 : Nat) : Int) := rfl
theorem zx_36_1 : zK0 36 1 = ((38 : Nat) : Int) := rfl
theorem zx_39_0 : zK0 39 0 = ((40 : Nat) : Int) := rfl
theorem zx_39_1 : zK0 39 1 = ((41 : Nat) : Int) := rfl
theorem zx_42_0 : zK0 42 0 = ((43 : Nat) : Int) := rfl
theorem zx_42_1 : zK0 42 1 = ((44 : Nat) : Int) := rfl
theorem zx_45_0 : zK0 45 0 = ((46 : Nat) : Int) := rfl
theorem zx_45_1 : zK0 45 1 = ((47 : Nat) : Int) := rfl
theorem zx_48_0 : zK0 48 0 = ((49 : Nat) : Int) := rfl
theorem zx_48_1 : zK0 48 1 = ((50 : Nat) : Int) := rfl
theorem zx_51_0 : zK0 51 0 = ((52 : Nat) : Int) := rfl
theorem zx_51_1 : zK0 51 1 = ((53 : Nat) : Int) := rfl
theorem zx_54_0 : zK0 54 0 = ((55 : Nat) : Int) := rfl
theorem zx_54_1 : zK0 54 1 = ((56 : Nat) : Int) := rfl
theorem zx_57_0 : zK0 57 0 = ((58 : Nat) : Int) := rfl
theorem zx_57_1 : zK0 57 1 = ((59 : Nat) : Int) := rfl
theorem zx_60_0 : zK0 60 0 = ((61 : Nat) : Int) := rfl
theorem zx_60_1 : zK0 60 1 = ((62 : Nat) : Int) := rfl
theorem zx_63_0 : zK0 63 0 = ((64 : Nat) : Int) := rfl
theorem zx_63_1 : zK0 63 1 = ((65 : Nat) : Int) := rfl
theorem zx_66_0 : zK0 66 0 = ((67 : Nat) : Int) := rfl
theorem zx_66_1 : zK0 66 1 = ((68 : Nat) : Int) := rfl
theorem zx_69_0 : zK0 69 0 = ((70 : Nat) : Int) := rfl
theorem zx_69_1 : zK0 69 1 = ((71 : Nat) : Int) := rfl
theorem zx_72_0 : zK0 72 0 = ((73 : Nat) : Int) := rfl
theorem zx_72_1 : zK0 72 1 = ((74 : Nat) : Int) := rfl
theorem zx_75_0 : zK0 75 0 = ((76 : Nat) : Int) := rfl
theorem zx_75_1 : zK0 75 1 = ((77 : Nat) : Int) := rfl
theorem zx_78_0 : zK0 78 0 = ((79 : Nat) : Int) := rfl
theorem zx_78_1 : zK0 78 1 = ((80 : Nat) : Int) := rfl
theorem zx_81_0 : zK0 81 0 = ((82 : Nat) : Int) := rfl
theorem zx_81_1 : zK0 81 1 = ((83 : Nat) : Int) := rfl
theorem zx_84_0 : zK0 84 0 = ((85 : Nat) : Int) := rfl
theorem zx_84_1 : zK0 84 1 = ((86 : Nat) : Int) := rfl
theorem zx_87_0 : zK0 87 0 = ((88 : Nat) : Int) := rfl
theorem zx_87_1 : zK0 87 1 = ((89 : Nat) : Int) := rfl
theorem zx_90_0 : zK0 90 0 = ((91 : Nat) : Int) := rfl
theorem zx_90_1 : zK0 90 1 = ((92 : Nat) : Int) := rfl
theorem zx_93_0 : zK0 93 0 = ((94 : Nat) : Int) := rfl
theorem zx_93_1 : zK0 93 1 = ((95 : Nat) : Int) := rfl
theorem zx_96_0 : zK0 96 0 = ((97 : Nat) : Int) := rfl
theorem zx_96_1 : zK0 96 1 = ((98 : Nat) : Int) := rfl
theorem zx_99_0 : zK0 99 0 = ((100 : Nat) : Int) := rfl
theorem zx_99_1 : zK0 99 1 = ((101 : Nat) : Int) := rfl
theorem zx_102_0 : zK0 102 0 = ((103 : Nat) : Int) := rfl
theorem zx_102_1 : zK0 102 1 = ((104 : Nat) : Int) := rfl
theorem zx_105_0 : zK0 105 0 = ((106 : Nat) : Int) := rfl
theorem zx_105_1 : zK0 105 1 = ((107 : Nat) : Int) := rfl
theorem zx_108_0 : zK0 108 0 = ((109 : Nat) : Int) := rfl
theorem zx_108_1 : zK0 108 1 = ((110 : Nat) : Int) := rfl
theorem zx_111_0 : zK0 111 0 = ((112 : Nat) : Int) := rfl
theorem zx_111_1 : zK0 111 1 = ((113 : Nat) : Int) := rfl
theorem zx_114_0 : zK0 114 0 = ((115 : Nat) : Int) := rfl
theorem zx_114_1 : zK0 114 1 = ((116 : Nat) : Int) := rfl
theorem zx_117_0 : zK0 117 0 = ((118 : Nat) : Int) := rfl
theorem zx_117_1 : zK0 117 1 = ((119 : Nat) : Int) := rfl
theorem zx_120_0 : zK0 120 0 = ((121 : Nat) : Int) := rfl
theorem zx_120_1 : zK0 120 1 = ((122 : Nat) : Int) := rfl
theorem zx_123_0 : zK0 123 0 = ((124 : Nat) : Int) := rfl
theorem zx_123_1 : zK0 123 1 = ((125 : Nat) : Int) := rfl
theorem zx_126_0 : zK0 126 0 = ((127 : Nat) : Int) := rfl
theorem zx_126_1 : zK0 126 1 = ((128 : Nat) : Int) := rfl
theorem zx_129_0 : zK0 129 0 = ((130 : Nat) : Int) := rfl
theorem zx_129_1 : zK0 129 1 = ((131 : Nat) : Int) := rfl
theorem zx_132_0 : zK0 132 0 = ((133 : Nat) : Int) := rfl
theorem zx_132_1 : zK0 132 1 = ((140 : Nat) : Int) := rfl
theorem zx_132_2 : zK0 132 2 = ((141 : Nat) : Int) := rfl
theorem zx_132_3 : zK0 132 3 = ((142 : Nat) : Int) := rfl
theorem zx_132_4 : zK0 132 4 = ((143 : Nat) : Int) := rfl
theorem zx_132_5 : zK0 132 5 = ((144 : Nat) : Int) := rfl
theorem zx_132_6 : zK0 132 6 = ((145 : Nat) : Int) := rfl
theorem zx_132_7 : zK0 132 7 = ((146 : Nat) : Int) := rfl
theorem zx_133_0 : zK0 133 0 = ((134 : Nat) : Int) := rfl
theorem zx_133_1 : zK0 133 1 = ((135 : Nat) : Int) := rfl
theorem zx_133_2 : zK0 133 2 = ((136 : Nat) : Int) := rfl
theorem zx_133_3 : zK0 133 3 = ((137 : Nat) : Int) := rfl
theorem zx_133_4 : zK0 133 4 = ((138 : Nat) : Int) := rfl
theorem zx_133_5 : zK0 133 5 = ((139 : Nat) : Int) := rfl
theorem zx_147_0 : zK0 147 0 = ((148 : Nat) : Int) := rfl
theorem zx_148_0 : zK0 148 0 = ((149 : Nat) : Int) := rfl
theorem zx_148_1 : zK0 148 1 = ((150 : Nat) : Int) := rfl
theorem zx_148_2 : zK0 148 2 = ((151 : Nat) : Int) := rfl
theorem zx_148_3 : zK0 148 3 = ((152 : Nat) : Int) := rfl
theorem zx_148_4 : zK0 148 4 = ((153 : Nat) : Int) := rfl
theorem zx_148_5 : zK0 148 5 = ((154 : Nat) : Int) := rfl
theorem zx_148_6 : zK0 148 6 = ((155 : Nat) : Int) := rfl
theorem zx_148_7 : zK0 148 7 = ((156 : Nat) : Int) := rfl
theorem zx_148_8 : zK0 148 8 = ((157 : Nat) : Int) := rfl
theorem zx_148_9 : zK0 148 9 = ((158 : Nat) : Int) := rfl
theorem zx_148_10 : zK0 148 10 = ((159 : Nat) : Int) := rfl
theorem zx_148_11 : zK0 148 11 = ((160 : Nat) : Int) := rfl
theorem zx_161_0 : zK0 161 0 = ((162 : Nat) : Int) := rfl
theorem zx_161_1 : zK0 161 1 = ((163 : Nat) : Int) := rfl
theorem zx_161_2 : zK0 161 2 = ((164 : Nat) : Int) := rfl
theorem zx_161_3 : zK0 161 3 = ((165 : Nat) : Int) := rfl
theorem zx_161_4 : zK0 161 4 = ((166 : Nat) : Int) := rfl
theorem zx_167_0 : zK0 167 0 = ((168 : Nat) : Int) := rfl
theorem zx_167_1 : zK0 167 1 = ((169 : Nat) : Int) := rfl
theorem zx_167_2 : zK0 167 2 = ((170 : Nat) : Int) := rfl
theorem zx_167_3 : zK0 167 3 = ((171 : Nat) : Int) := rfl
theorem zx_172_0 : zK0 172 0 = ((173 : Nat) : Int) := rfl
theorem zx_174_1 : zK0 174 1 = ((175 : Nat) : Int) := rfl
theorem zx_174_3 : zK0 174 3 = ((176 : Nat) : Int) := rfl
theorem zx_174_4 : zK0 174 4 = ((177 : Nat) : Int) := rfl
theorem zx_174_8 : zK0 174 8 = ((178 : Nat) : Int) := rfl
theorem zx_174_9 : zK0 174 9 = ((179 : Nat) : Int) := rfl
theorem zx_174_10 : zK0 174 10 = ((180 : Nat) : Int) := rfl
theorem zx_174_11 : zK0 174 11 = ((181 : Nat) : Int) := rfl
theorem zx_174_13 : zK0 174 13 = ((182 : Nat) : Int) := rfl
theorem zx_174_15 : zK0 174 15 = ((183 : Nat) : Int) := rfl
theorem zx_174_18 : zK0 174 18 = ((184 : Nat) : Int) := rfl
theorem zx_174_19 : zK0 174 19 = ((185 : Nat) : Int) := rfl
theorem zx_174_21 : zK0 174 21 = ((186 : Nat) : Int) := rfl
theorem zx_174_22 : zK0 174 22 = ((187 : Nat) : Int) := rfl
theorem zx_174_23 : zK0 174 23 = ((188 : Nat) : Int) := rfl
theorem zx_174_24 : zK0 174 24 = ((189 : Nat) : Int) := rfl
theorem zx_174_26 : zK0 174 26 = ((190 : Nat) : Int) := rfl
theorem zx_174_27 : zK0 174 27 = ((191 : Nat) : Int) := rfl
theorem zx_174_29 : zK0 174 29 = ((192 : Nat) : Int) := rfl
theorem zx_174_30 : zK0 174 30 = ((193 : Nat) : Int) := rfl
