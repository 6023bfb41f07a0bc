/-! from the law's entry to its loop, and the claim out of one run of the small machine -/
section ZGo
variable {D : va_G} {cA : Nat → ClassId} {ad : Nat → Nat} {base : Nat}
theorem zGo_mono : ∀ (k n d : Nat) (m : zD) (pc : Nat) (ls st : List zV) (q : zS) (pc' : Nat) (ls' st' : List zV) (q' : zS), zGo k n d m pc ls st q = some (pc', ls', st', q') → ∃ t, q'.1 = q.1 ++ t := by
  intro k
  induction k with
  | zero => intro n d m pc ls st q pc' ls' st' q' h; cases h; exact ⟨[], (List.append_nil _).symm⟩
  | succ k ih =>
    intro n d m pc ls st q pc' ls' st' q' h
    simp only [zGo] at h
    split at h
    · split at h
      · next pc1 ls1 st1 q1 hx =>
        obtain ⟨t1, e1⟩ := zEx_mono hx
        obtain ⟨t2, e2⟩ := ih _ _ _ _ _ _ _ _ _ _ _ h
        exact ⟨t1 ++ t2, by rw [e2, e1, List.append_assoc]⟩
      · split at h
        · cases h
        · split at h
          · next r1 q1 hr =>
            obtain ⟨t1, e1⟩ := zRun_mono _ _ _ _ _ _ _ _ _ hr
            obtain ⟨t2, e2⟩ := ih _ _ _ _ _ _ _ _ _ _ _ h
            exact ⟨t1 ++ t2, by rw [e2, e1, List.append_assoc]⟩
          · cases h
      · cases h
      · cases h
    · cases h
theorem zGo_sim : ∀ (k n d : Nat) (m : zD) (pc : Nat) (ls st : List zV) (q : zS) (pc' : Nat) (ls' st' : List zV) (q' : zS), zGo k n d m pc ls st q = some (pc', ls', st', q') →
    ∀ {p : Program} {l : Launch} {e : Env} {R : Room} {s : State} {mid : MethodId} {args : Array Value} {below : List Frame} {meth : Method} {c : Code} {Q : State → Prop}, zFx p R s mid args meth c m d → zEnv D cA ad base s → ∀ (H : Heap) (locs : List Loc) (cells slots : Nat) (lsR : Array Slot), zIn D cA ad base s m ls st q H locs lsR →
    cells + (q'.1.length - q.1.length) ≤ R.cells → slots + (zSz q' - zSz q) ≤ R.slots →
    (∀ (H' : Heap) (locs' : List Loc) (lsR' : Array Slot), zIn D cA ad base s m ls' st' q' H' locs' lsR' → W p l e R s mid args below meth c H' locs' (cells + (q'.1.length - q.1.length)) (slots + (zSz q' - zSz q)) Q (F0 mid pc' lsR' (st'.map (zE ad)))) →
    W p l e R s mid args below meth c H locs cells slots Q (F0 mid pc lsR (st.map (zE ad))) := by
  intro k
  induction k with
  | zero =>
    intro n d m pc ls st q pc' ls' st' q' h p l e R s mid args below meth c Q F E H locs cells slots lsR I hc hs kk
    cases h
    have := kk H locs lsR I
    rw [Nat.sub_self, Nat.sub_self, Nat.add_zero, Nat.add_zero] at this
    exact this
  | succ k ih =>
    intro n d m pc ls st q pc' ls' st' q' h p l e R s mid args below meth c Q F E H locs cells slots lsR I hc hs kk
    have hg := z_grow (zGo_mono _ _ _ _ _ _ _ _ _ _ _ _ h)
    simp only [zGo] at h
    split at h
    · next i len hdg =>
      split at h
      · next pc1 ls1 st1 q1 hx =>
        have g1 := z_grow (zEx_mono hx)
        have g2 := z_grow (zGo_mono _ _ _ _ _ _ _ _ _ _ _ _ h)
        refine zS1 F E hdg hx I (by omega) (by omega) (by omega) (by omega) fun H1 locs1 lsR1 I1 => ?_
        refine ih _ _ _ _ _ _ _ _ _ _ _ h F E H1 locs1 _ _ lsR1 I1 (by omega) (by omega) fun H2 locs2 lsR2 k1 => ?_
        have := kk H2 locs2 lsR2 k1
        rw [show cells + (q1.1.length - q.1.length) + (q'.1.length - q1.1.length) = cells + (q'.1.length - q.1.length) by omega, show slots + (zSz q1 - zSz q) + (zSz q' - zSz q1) = slots + (zSz q' - zSz q) by omega]
        exact this
      · next m1 as rest hx =>
        split at h
        · cases h
        · next d1 =>
          split at h
          · next r1 q1 hr1 =>
            have g1 := z_grow (zRun_mono _ _ _ _ _ _ _ _ _ hr1)
            have g2 := z_grow (zGo_mono _ _ _ _ _ _ _ _ _ _ _ _ h)
            have hce : cells + (q1.1.length - q.1.length) + (q'.1.length - q1.1.length) = cells + (q'.1.length - q.1.length) := by omega
            have hse : slots + (zSz q1 - zSz q) + (zSz q' - zSz q1) = slots + (zSz q' - zSz q) := by omega
            refine zCallStep (zSim _) hr1 F E I hdg hx (by omega) (by omega) fun H1 locs1 I1 => ?_
            refine ih _ _ _ _ _ _ _ _ _ _ _ h F E H1 locs1 _ _ lsR I1 (by rw [hce]; exact hc) (by rw [hse]; exact hs) fun H2 locs2 lsR2 k1 => ?_
            have := kk H2 locs2 lsR2 k1
            rw [hce, hse]
            exact this
          · cases h
      · cases h
      · cases h
    · cases h
end ZGo
/-- what the numbers are behind the constructors -/
def zM1 : zM := match zGo 10 4000 12 zm_law 0 [rV 3, uV, uV, uV] [] zq0 with
  | some (_, _, _, q) => q.2.2
  | none => fun _ _ => 0
def zM0 (xs : Nat → Int32) : zM := fun a k => if a = 3 then (xs k).toInt else zM1 a k
theorem zP1_ex : ∃ q : zS, zGo 10 4000 12 zm_law 0 [rV 3, uV, uV, uV] [] zq0 = some (18, [rV 3, rV 4, rV 174, iV 0], [], q) ∧ q.1 = zsh (99, 0) ∧ zAg q = true ∧ q.2.2 = zM1 := by
  have h := zP1
  unfold zM1
  cases hz : zGo 10 4000 12 zm_law 0 [rV 3, uV, uV, uV] [] zq0 with
  | none => rw [hz] at h; cases h
  | some x =>
    obtain ⟨pc, ls, st, q⟩ := x
    rw [hz] at h
    simp only [zchk, Bool.and_eq_true, decide_eq_true_eq] at h
    obtain ⟨rfl, rfl, rfl, h4, h5⟩ := h
    exact ⟨q, rfl, h4, h5, rfl⟩
theorem zAg_at {q : zS} (h : zAg q = true) {a kd n k : Nat} (ha : (zsh (99, 0))[a]? = some (kd, n)) (hk : k < n) (hkd : kd < 11 ∨ 22 ≤ kd) : q.2.1 a k = zK0 a k ∧ (kd < 11 → q.2.2 a k = zMb a k ∧ q.2.2 a (k + 1000) = 0) := by
  have h194 : a < 194 := (List.getElem?_eq_some_iff.mp ha).1
  have h1 := List.all_eq_true.mp h a (List.mem_range.mpr h194)
  simp only [ha] at h1
  rw [if_pos hkd] at h1
  have h2 := List.all_eq_true.mp h1 k (List.mem_range.mpr hk)
  simp only [Bool.and_eq_true] at h2
  rw [if_pos hkd] at h2
  refine ⟨of_decide_eq_true h2.1, fun h11 => ?_⟩
  have h3 := h2.2
  rw [if_pos h11] at h3
  simp only [Bool.and_eq_true] at h3
  exact ⟨of_decide_eq_true h3.1, of_decide_eq_true h3.2⟩
theorem zM1_at {a kd n k : Nat} (ha : (zsh (99, 0))[a]? = some (kd, n)) (hk : k < n) (hkd : kd < 11) : zM1 a k = zMb a k ∧ zM1 a (k + 1000) = 0 := by
  obtain ⟨q, -, -, h5, h6⟩ := zP1_ex
  rw [← h6]
  exact (zAg_at h5 ha hk (Or.inl hkd)).2 hkd
theorem zsh_ne {c : Nat × Nat} {a : Nat} (h : a ≠ 3) : (zsh c)[a]? = (zsh (99, 0))[a]? := by
  match a, h with
  | 0, _ => rfl
  | 1, _ => rfl
  | 2, _ => rfl
  | 3, h => exact absurd rfl h
  | a + 4, _ => rfl
theorem zsh_obj : ∀ a, a < 194 → ∀ e, (zsh (99, 0))[a]? = some e → e.1 < 11 → e.2 = zNF e.1 := by
  have h : (List.range 194).all (fun a => match (zsh (99, 0))[a]? with
    | some e => if e.1 < 11 then decide (e.2 = zNF e.1) else true
    | none => true) = true := by decide +kernel
  intro a ha e he h11
  have h1 := List.all_eq_true.mp h a (List.mem_range.mpr ha)
  simp only [he] at h1
  rw [if_pos h11] at h1
  exact of_decide_eq_true h1
theorem arrV_congr {cI : ClassId} {N : Nat} {f g : Nat → Value} (h : ∀ j, j < N → f j = g j) : arrV cI N f = arrV cI N g := by
  unfold arrV
  congr 1
  apply Array.ext
  · simp
  · intro j h1 h2
    simp only [Array.getElem_ofFn]
    exact h j (by simpa using h1)
/-- the world at the loop's head, in words of the script -/
theorem zSwitch {D : va_G} {cA : Nat → ClassId} {ad : Nat → Nat} {base L : Nat} {xs : Nat → Int32} {s : State} {H : Heap} {q : zS} (h1 : q.1 = zsh (99, 0)) (h5 : zAg q = true) (h6 : q.2.2 = zM1) (hR : zRel D cA ad base q s H) (hX : zX (ad 3) L xs s H) : zRel D cA ad base (zsh (20, L), zK0, zM0 xs) s H := by
  obtain ⟨r1, r2, r3, r4, r5, r6⟩ := hR
  rw [h1] at r1 r2 r3 r4 r5
  refine ⟨r1, r2, fun a e ha he => ?_, fun a n ha he => ?_, fun a e ha he => ?_, fun a k => ?_⟩
  · have he' : (zsh (99, 0))[a]? = some e := by rw [← zsh_ne (show a ≠ 3 by omega)]; exact he
    have hc := r3 a e ha he'
    have h194 : a < 194 := (List.getElem?_eq_some_iff.mp he').1
    have hM : ∀ k, zM0 xs a k = q.2.2 a k := fun k => by
      unfold zM0
      rw [if_neg (show a ≠ 3 by omega), h6]
    refine ⟨fun h11 => (hc.1 h11).to (fun k hk => ?_), fun g1 g2 => ?_⟩
    · have hk' : k < e.2 := by rw [zsh_obj a h194 e he' h11]; exact hk
      have := (zAg_at (k := k) h5 (show (zsh (99, 0))[a]? = some (e.1, e.2) from he') hk' (Or.inl h11)).1
      simp only [zFv, hM, this]
    · rw [hc.2 g1 g2]
      congr 1
      refine arrV_congr (fun j hj => ?_)
      simp only [zAv, hM]
      by_cases h20 : e.1 = 20 ∨ e.1 = 21
      · rw [if_pos h20, if_pos h20]
      · rw [if_neg h20, if_neg h20, (zAg_at (k := j) h5 (show (zsh (99, 0))[a]? = some (e.1, e.2) from he') hj (Or.inr (by omega))).1]
  · by_cases h3 : a = 3
    · subst h3
      have e9 : L = n := by
        have : some ((20 : Nat), L) = some (20, n) := he
        simpa using this
      subst e9
      refine zX_kept hX rfl (fun j => ?_)
      show xs j = Int32.ofInt (if 3 = 3 then (xs j).toInt else zM1 3 j)
      rw [if_pos rfl, z_re]
    · have he' : (zsh (99, 0))[a]? = some (20, n) := by rw [← zsh_ne h3]; exact he
      refine zX_kept (r4 a n ha he') rfl (fun j => ?_)
      show Int32.ofInt (q.2.2 a j) = Int32.ofInt (if a = 3 then (xs j).toInt else zM1 a j)
      rw [if_neg h3, h6]
  · by_cases h3 : a = 3
    · subst h3
      have : some ((20 : Nat), L) = some e := he
      cases this
      exact Or.inl rfl
    · exact r5 a e ha (by rw [← zsh_ne h3]; exact he)
  · show zR (if a = 3 then (xs k).toInt else zM1 a k)
    split
    · exact zR_of _
    · rw [← h6]; exact r6 a k
theorem zInst {c : Nat} (h : c < 11) : Cond.instantiable (zCn c) (zNF c) ∈ zGW := by
  rcases (show c = 0 ∨ c = 1 ∨ c = 2 ∨ c = 3 ∨ c = 4 ∨ c = 5 ∨ c = 6 ∨ c = 7 ∨ c = 8 ∨ c = 9 ∨ c = 10 by omega) with rfl | rfl | rfl | rfl | rfl | rfl | rfl | rfl | rfl | rfl | rfl
  · exact (zNew_ok (c := 3) (i := 23) rfl).2.1
  · exact (zNew_ok (c := 3) (i := 17) rfl).2.1
  · exact (zNew_ok (c := 9) (i := 37) rfl).2.1
  · exact (zNew_ok (c := 9) (i := 16) rfl).2.1
  · exact (zNew_ok (c := 9) (i := 44) rfl).2.1
  · exact (zNew_ok (c := 9) (i := 51) rfl).2.1
  · exact (zNew_ok (c := 9) (i := 30) rfl).2.1
  · exact (zNew_ok (c := 9) (i := 23) rfl).2.1
  · exact (zNew_ok (c := 9) (i := 7) rfl).2.1
  · exact (zNew_ok (c := 11) (i := 7) rfl).2.1
  · exact (zNew_ok (c := 11) (i := 10) rfl).2.1
theorem zg_0 : ∀ j, j < 26 → (flatC (Jvm.Cond.and given_1 narrow_1))[7 + j]? = some (Cond.eq (.elem (.static "StopPress" "GROUP_OF_LETTER" "[I") (.int (Int32.ofNat j))) (.int (Int32.ofInt (zG0.getD j 0)))) := by decide +kernel
theorem zg_1 : ∀ j, j < 7 → (flatC (Jvm.Cond.and given_1 narrow_1))[36 + j]? = some (Cond.eq (.elem (.static "StopPress" "COST_OF_KIND" "[I") (.int (Int32.ofNat j))) (.int (Int32.ofInt (zG1.getD j 0)))) := by decide +kernel
theorem zg_2 : ∀ j, j < 7 → (flatC (Jvm.Cond.and given_1 narrow_1))[46 + j]? = some (Cond.eq (.elem (.static "StopPress" "STEP_OF_KIND" "[I") (.int (Int32.ofNat j))) (.int (Int32.ofInt (zG2.getD j 0)))) := by decide +kernel
theorem zStatic {s : State} {args : Array Value} {base N pa pl : Nat} {nm : String} {G : List Int} (hs : ∀ c ∈ flatC (Jvm.Cond.and given_1 narrow_1), c.before args s = true) (hb : base = s.heap.size) (hN : N < 100) (hts : ∀ w ∈ lw_tbl, w.before args s = true) (hl : Cond.laysStatic "StopPress" nm "[I" ∈ lw_tbl)
    (h1 : (flatC (Jvm.Cond.and given_1 narrow_1))[pa]? = some (Cond.arrayOf (.static "StopPress" nm "[I") .int)) (h2 : (flatC (Jvm.Cond.and given_1 narrow_1))[pa + 1]? = some (Cond.eq (.length (.static "StopPress" nm "[I")) (.int (Int32.ofNat N))))
    (h3 : ∀ j, j < N → (flatC (Jvm.Cond.and given_1 narrow_1))[pl + j]? = some (Cond.eq (.elem (.static "StopPress" nm "[I") (.int (Int32.ofNat j))) (.int (Int32.ofInt (G.getD j 0))))) :
    ∃ t : Nat, va_Z "StopPress" nm "[I" (.ref t) (zA base) s s.heap ∧ zX t N (fun j => Int32.ofInt (G.getD j 0)) s s.heap ∧ t < base := by
  have hA : ∀ a : Nat, a < s.heap.size → ¬ zA base a := fun a ha hh => by
    have : base ≤ a := hh
    omega
  obtain ⟨t, ht, cell, g1, g2, g3, g4, g5, g6, g7⟩ := va_Tof (A := zA base) (f := fun j => .int (Int32.ofInt (G.getD j 0))) (show N < 2 ^ 31 by omega) (hs _ (List.mem_of_getElem? h1)) (va_eqt (hs _ (List.mem_of_getElem? h2))) (fun j hj => va_eqt (hs _ (List.mem_of_getElem? (h3 j hj)))) hA
  exact ⟨t, va_Zref (hts _ hl) (hts _ (List.mem_filter.mp zIn9).1) ht hA, ⟨cell, g1, g2, g3, g4, g5, g6⟩, by rw [hb]; exact (Array.getElem?_eq_some_iff.mp g1).1⟩
/-- the world at the law's entry -/
theorem zEnter {p : Program} {s : State} {m : MethodId} {meth : Method} {c : Code} {b L : Nat} {xs : Nat → Int32} (C0 : lw_At p s m meth c b L xs) : ∃ (D : va_G) (cA : Nat → ClassId) (ad : Nat → Nat), zEnv D cA ad s.heap.size s ∧ zRel D cA ad s.heap.size zq0 s s.heap ∧ ad 3 = b := by
  obtain ⟨hx, hb, hr, hml, hown, hts, hX, hbl, hlocks, hgv⟩ := C0
  have hs := flat_of_before _ hgv
  obtain ⟨t0, z0, x0, l0⟩ := zStatic (pa := 5) (pl := 7) (N := 26) (nm := "GROUP_OF_LETTER") (G := zG0) hs rfl (by decide) hts zLs0 (by decide +kernel) (by decide +kernel) zg_0
  obtain ⟨t1, z1, x1, l1⟩ := zStatic (pa := 34) (pl := 36) (N := 7) (nm := "COST_OF_KIND") (G := zG1) hs rfl (by decide) hts zLs1 (by decide +kernel) (by decide +kernel) zg_1
  obtain ⟨t2, z2, x2, l2⟩ := zStatic (pa := 44) (pl := 46) (N := 7) (nm := "STEP_OF_KIND") (G := zG2) hs rfl (by decide) hts zLs2 (by decide +kernel) (by decide +kernel) zg_2
  have hgw : ∀ w ∈ zGW, w.before #[Value.ref b] s = true := fun w hw => hts w (List.mem_filter.mp hw).1
  have hkn : ∀ c : Nat, ∃ y : ClassId × (Nat → Nat), c < 11 → u_Kn s (zCn c) (zTT c) (zNF c) y.1 y.2 := fun c => by
    by_cases hc : c < 11
    · obtain ⟨cC, iS, h⟩ := u_known (C := zCn c) (T := zTT c) (N := zNF c) (n := zNF c) hgw (zi_c hc) (hgw _ (zInst hc))
      exact ⟨(cC, iS), fun _ => h⟩
    · exact ⟨(0, fun _ => 0), fun h => absurd h hc⟩
  obtain ⟨c20, k20, p20, a1, a2, a3⟩ := Cond.arrayClass_spec (hgw _ zAi)
  obtain ⟨c21, k21, p21, b1, b2, b3⟩ := Cond.arrayClass_spec (hgw _ zAz)
  obtain ⟨p22, c22, k22, d1, d2, d3, d4, d5⟩ := Cond.arrayOver_spec (hts _ zAoT)
  obtain ⟨p23, c23, k23, e1, e2, e3, e4, e5⟩ := Cond.arrayOver_spec (hts _ zAoA)
  obtain ⟨p24, c24, k24, f1, f2, f3, f4, f5⟩ := arrayOverA_spec (hts _ zAoI)
  refine ⟨(fun c => (Classical.choose (hkn c)).1, fun c => (Classical.choose (hkn c)).2), fun k => if k = 20 then c20 else if k = 21 then c21 else if k = 22 then c22 else if k = 23 then c23 else c24, fun a => if a = 0 then t0 else if a = 1 then t1 else if a = 2 then t2 else if a = 3 then b else s.heap.size + (a - 4), ⟨⟨fun a ha => ?_, fun a ha => ?_⟩, ⟨fun c y hy => ?_, fun k y hy => ?_⟩, fun w hw => ?_, hts _ zAoT, hts _ zAoA, hts _ zAoI, fun a ha => ?_, Nat.le_refl _⟩, ⟨rfl, Nat.le_refl _, fun a e ha he => ?_, fun a n ha he => ?_, fun a e ha he => ?_, fun a k => ?_⟩, rfl⟩
  · simp only [show a ≠ 0 by omega, show a ≠ 1 by omega, show a ≠ 2 by omega, show a ≠ 3 by omega, if_false]
  · rcases (show a = 0 ∨ a = 1 ∨ a = 2 ∨ a = 3 by omega) with rfl | rfl | rfl | rfl
    · exact l0
    · exact l1
    · exact l2
    · exact hbl
  · have hc : c < 11 := (List.getElem?_eq_some_iff.mp hy).1
    rw [zCls_at hc] at hy
    cases hy
    exact Classical.choose_spec (hkn c) hc
  · have hk : k < 5 := (List.getElem?_eq_some_iff.mp hy).1
    rcases (show k = 0 ∨ k = 1 ∨ k = 2 ∨ k = 3 ∨ k = 4 by omega) with rfl | rfl | rfl | rfl | rfl
    · cases hy
      exact ⟨fun n z => ⟨fun k h => (by cases h), k20, a2, p20, a3⟩, a1⟩
    · cases hy
      exact ⟨fun n z => ⟨fun k h => (by cases h), k21, b2, p21, b3⟩, b1⟩
    · cases hy
      exact ⟨fun n z => ⟨fun k h => (by cases h), k22, d3, p22, d4⟩, k22, p22, d3, d4, d1, d5⟩
    · cases hy
      exact ⟨fun n z => ⟨fun k h => (by cases h), k23, e3, p23, e4⟩, k23, p23, e3, e4, e1, e5⟩
    · cases hy
      exact ⟨fun n z => ⟨fun k h => (by cases h), k24, f3, p24, f4⟩, f5⟩
  · have h1 := hts w (zNW_in w hw)
    simp only [zNW, List.mem_cons, List.not_mem_nil, or_false] at hw
    rcases hw with rfl | rfl | rfl | rfl | rfl | rfl | rfl | rfl | rfl | rfl | rfl | rfl | rfl <;> exact va_Nw.of rfl h1
  · rcases (show a = 0 ∨ a = 1 ∨ a = 2 by omega) with rfl | rfl | rfl
    · exact z0
    · exact z1
    · exact z2
  · have : a < 4 := (List.getElem?_eq_some_iff.mp he).1
    omega
  · rcases (show a = 0 ∨ a = 1 ∨ a = 2 ∨ a = 3 by omega) with rfl | rfl | rfl | rfl
    · cases he
      exact x0
    · cases he
      exact x1
    · cases he
      exact x2
    · cases he
  · rcases (show a = 0 ∨ a = 1 ∨ a = 2 ∨ a = 3 by omega) with rfl | rfl | rfl | rfl
    · cases he; exact Or.inl rfl
    · cases he; exact Or.inl rfl
    · cases he; exact Or.inl rfl
    · cases he; exact Or.inr rfl
  · have hG : ∀ (l : List Int), (∀ x ∈ l, zR x) → ∀ k, zR (l.getD k 0) := fun l hl k => by
      rw [List.getD_eq_getElem?_getD]
      cases hk : l[k]? with
      | none => exact zR_0
      | some v => exact hl v (List.mem_of_getElem? hk)
    show zR (zMs a k)
    unfold zMs
    split
    · exact hG zG0 (by unfold zR; decide) k
    · exact hG zG1 (by unfold zR; decide) k
    · exact hG zG2 (by unfold zR; decide) k
    · exact zR_0
/-- THE CLAIM'S WALK out of runs of the small machine from the loop's head -/
theorem zWhole (hmain : ∀ (L : Nat) (xs : Nat → Int32), L ≤ 2560 → ∃ (n : Nat) (M' : zM), zRun n 40 zm_law 18 [rV 3, rV 4, rV 174, iV 0] [] (zsh (20, L), zK0, zM0 xs) = some (some (iV 1), (zsh (20, L), zK0, M')))
    {p : Program} {e : Env} {s : State} {m : MethodId} {below : List Frame} {meth : Method} {c : Code} (l : Launch) {b L : Nat} {xs : Nat → Int32} (hL : L ≤ 2560) (C0 : lw_At p s m meth c b L xs) : W p l e room_1 s m #[Value.ref b] below meth c s.heap [] 0 0 (lw_Z below #[Value.ref b] s) (entryFrame m ([Value.ref b] : List Value).toArray 4) := by
  obtain ⟨D, cA, ad, hE, hR, h3⟩ := zEnter C0
  obtain ⟨hx, hb, hr, hml, hown, hts, hX, hbl, hlocks, hgv⟩ := id C0
  have hF : ∀ d, d ≤ 40 → zFx p room_1 s m #[Value.ref b] meth c zm_law d := fun d hd => ⟨hx, hb, hml, hown, fun w hw => hts w (List.mem_filter.mp hw).1, hr, hlocks, fun e9 => absurd e9 (by decide), by show d + 1 ≤ 2048; omega, by show 42 * (d + 1) ≤ 84000; omega⟩
  obtain ⟨q, hq, hq1, hq5, hq6⟩ := zP1_ex
  obtain ⟨n, M', hrun⟩ := hmain L xs hL
  have hl := lv_entry ([.ref b]) (n := 4) (Nat.le_of_ble_eq_true rfl)
  rw [lg_entry_eq]
  have hLR : zLR ad 4 [rV 3, uV, uV, uV] ((lg_sl [Value.ref b] ++ List.replicate (4 - (lg_sl [Value.ref b]).length) Slot.unset).toArray) := by
    have := zEnt_LR (ad := ad) (as := [rV 3]) (nL := 4) (by decide)
    simp only [List.map_cons, List.map_nil, zE, h3] at this
    exact this
  have hlen : q.1.length = 194 := by rw [hq1]; rfl
  have hsz : zSz q = zSz (zsh (99, 0), zK0, zK0) := by unfold zSz; rw [hq1]
  have hszn : zSz (zsh (99, 0), zK0, zK0) ≤ 100000 := by decide +kernel
  refine zGo_sim _ _ _ _ _ _ _ _ _ _ _ _ hq (hF 12 (by omega)) hE s.heap [] 0 0 _ ⟨hR, hLR, ?_, fun v hv => absurd hv List.not_mem_nil, va_S.rf⟩ (by rw [hlen]; show 0 + (194 - 4) ≤ 600000; omega) (by rw [hsz]; show 0 + (_ - _) ≤ 7302250; omega) fun H locs lsR I => ?_
  · intro v hv
    simp only [List.mem_cons, List.not_mem_nil, or_false] at hv
    rcases hv with rfl | rfl | rfl | rfl <;> trivial
  have hXs : zX (ad 3) L xs s H := by
    obtain ⟨scr, g1, g2, g3, g4, g5⟩ := hX
    rw [h3]
    exact ⟨scr, by rw [I.2.2.2.2.2.1 b hbl (Nat.not_le.mpr hbl)]; exact g1, g2, g3, by omega, by rw [g4], g5⟩
  have hR2 := zSwitch hq1 hq5 hq6 I.1 hXs
  refine zSim n 40 zm_law 18 _ _ _ _ _ hrun (hF 40 (by omega)) hE H locs _ _ lsR ⟨hR2, I.2.1, I.2.2.1, I.2.2.2.1, I.2.2.2.2⟩ (by rw [Nat.sub_self, hlen]; show 0 + (194 - 4) + 0 ≤ 600000; omega) (by rw [show zSz (zsh (20, L), zK0, M') - zSz (zsh (20, L), zK0, zM0 xs) = 0 from Nat.sub_self _, hsz]; show 0 + (_ - _) + 0 ≤ 7302250; omega) fun H' locs' pc' lsR' k1 k2 k3 k4 => ?_
  refine va_forget (fun x hx9 => k2.2.2 x hx9) ?_
  refine W.widen (k := 600000) (n := 7302250) (by rw [Nat.sub_self, hlen]; show 0 + (194 - 4) + 0 ≤ 600000; omega) (by rw [show zSz (zsh (20, L), zK0, M') - zSz (zsh (20, L), zK0, zM0 xs) = 0 from Nat.sub_self _, hsz]; show 0 + (_ - _) + 0 ≤ 7302250; omega) ?_
  have e1 : (some (iV 1) : Option zV).toList.map (zE ad) = [.int 1] := by
    show [Value.int (Int32.ofInt 1)] = _
    rfl
  rw [e1]
  exact lw_ret hx hb hr hlocks k3.1
