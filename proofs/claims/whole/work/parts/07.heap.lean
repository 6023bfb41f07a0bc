/-! steps over the heap -/
theorem zU_eq {M : zM} {a k : Nat} {v : Int} : zU M a k v a k = v := if_pos ⟨rfl, rfl⟩
theorem zU_ne {M : zM} {a k b j : Nat} {v : Int} (h : ¬ (b = a ∧ j = k)) : zU M a k v b j = M b j := if_neg h
theorem zU_na {M : zM} {a k b j : Nat} {v : Int} (h : b ≠ a) : zU M a k v b j = M b j := if_neg (fun q => h q.1)
theorem zU_nk {M : zM} {a k b j : Nat} {v : Int} (h : j ≠ k) : zU M a k v b j = M b j := if_neg (fun q => h q.2)
theorem zR_zU {M : zM} {a k : Nat} {v : Int} (h : ∀ b j, zR (M b j)) (hv : zR v) : ∀ b j, zR (zU M a k v b j) := by
  intro b j
  unfold zU
  split
  · exact hv
  · exact h b j
theorem zAdr.ne {ad : Nat → Nat} {base a b : Nat} (h : zAdr ad base) (ha : 4 ≤ a) (hb : b ≠ a) : ad b ≠ ad a := by
  intro e
  rw [h.1 a ha] at e
  by_cases h4 : 4 ≤ b
  · rw [h.1 b h4] at e; omega
  · have := h.2 b (by omega); omega
theorem zAdr.lt {ad : Nat → Nat} {base a : Nat} (h : zAdr ad base) (ha : 4 ≤ a) : base ≤ ad a := by rw [h.1 a ha]; omega
section ZH
variable {p : Program} {l : Launch} {e : Env} {R : Room} {s : State} {mid : MethodId} {args : Array Value} {below : List Frame} {meth : Method} {c : Code} {H : Heap} {locs : List Loc} {cells slots : Nat} {Q : State → Prop} {D : va_G} {cA : Nat → ClassId} {ad : Nat → Nat} {base : Nat}
variable {m : zD} {d pc pc' len : Nat} {ls ls' st st' : List zV} {q q' : zS} {lsR : Array Slot}
theorem zX_kept {a n : Nat} {xs ys : Nat → Int32} {U : State} {H H' : Heap} (h : zX a n xs U H) (hq : H'[a]? = H[a]?) (hx : ∀ j, xs j = ys j) : zX a n ys U H' := by
  obtain ⟨cell, h1, h2, h3, h4, h5, h6⟩ := h
  exact ⟨cell, by rw [hq]; exact h1, h2, h3, h4, h5, fun j hj => by rw [← hx j]; exact h6 j hj⟩
theorem zX_moved {a n : Nat} {xs : Nat → Int32} {u U : State} {H : Heap} (hvm : u.vm.Alike U.vm) (h : zX a n xs u H) : zX a n xs U H := by
  obtain ⟨cell, h1, h2, h3⟩ := h
  exact ⟨cell, h1, State.isArrayOf_alike hvm h2, h3⟩
theorem zCell_same {K M K' M' : zM} {H H' : Heap} {a : Nat} {e : Nat × Nat} (h : zCell D cA ad K M H a e) (hH : H'[ad a]? = H[ad a]?) (hK : ∀ k, K' a k = K a k) (hM : ∀ k, M' a k = M a k) : zCell D cA ad K' M' H' a e := by
  refine ⟨fun h1 => ((h.1 h1).kept hH).to (fun k _ => ?_), fun h1 h2 => ?_⟩
  · simp only [zFv, hK, hM]
  · rw [hH, h.2 h1 h2]
    simp only [zAv, hK, hM]
theorem zRel_upd {H' : Heap} {a : Nat} (hR : zRel D cA ad base q s H) (hA : zAdr ad base) (ha : 4 ≤ a) (hsh : q'.1 = q.1) (hz : H'.size = H.size) (ho : ∀ x, x ≠ ad a → H'[x]? = H[x]?)
    (hK : ∀ b k, b ≠ a → q'.2.1 b k = q.2.1 b k) (hM : ∀ b k, b ≠ a → q'.2.2 b k = q.2.2 b k) (hr : ∀ b k, zR (q'.2.2 b k)) (hcell : ∀ e, q.1[a]? = some e → zCell D cA ad q'.2.1 q'.2.2 H' a e) : zRel D cA ad base q' s H' := by
  obtain ⟨h1, h2, h3, h4, h5, -⟩ := hR
  refine ⟨by rw [hsh, hz]; exact h1, by rw [hsh]; exact h2, fun b e hb he => ?_, fun b n hb he => ?_, fun b e hb he => h5 b e hb (by rw [← hsh]; exact he), hr⟩
  · rw [hsh] at he
    by_cases hba : b = a
    · subst hba
      exact hcell e he
    · exact zCell_same (h3 b e hb he) (ho _ (hA.ne ha hba)) (fun k => hK b k hba) (fun k => hM b k hba)
  · rw [hsh] at he
    have hba : b ≠ a := by omega
    exact zX_kept (h4 b n hb he) (ho _ (hA.ne ha hba)) (fun j => by rw [hM b j hba])
theorem zs_kind {a C : Nat} (hR : zRel D cA ad base q s H) (h : q.1[a]?.map Prod.fst = some C) (hC : C < 11) : ∃ sz, 4 ≤ a ∧ q.1[a]? = some (C, sz) ∧ t_OB (ad a) (D.1 C) (zNF C) (D.2 C) H (fun k => zFv ad q.2.1 q.2.2 a C k) := by
  obtain ⟨e, he, h2⟩ := Option.map_eq_some_iff.mp h
  obtain ⟨C', sz⟩ := e
  cases h2
  have h4 : 4 ≤ a := by
    rcases Nat.lt_or_ge a 4 with q4 | q4
    · rcases hR.2.2.2.2.1 a _ q4 he with z | z
      · exact absurd z (by simp only; omega)
      · exact absurd z (by simp only; omega)
    · exact q4
  exact ⟨sz, h4, he, (hR.2.2.1 a _ h4 he).1 hC⟩
theorem zs_get0 {a C k t idx : Nat} {fin : Bool} {V : Nat → Value} {rest : List Value} (F : zFx p R s mid args meth c m d) (E : zEnv D cA ad base s) (hf : zFok m.1 (idx, C, k, t, fin)) (hob : t_OB (ad a) (D.1 C) (zNF C) (D.2 C) H V) (hdg : decode m.2.2.1 pc = .ok (.getfield idx, 3))
    (kk : W p l e R s mid args below meth c H locs cells slots Q (F0 mid (pc + 3) lsR (V k :: rest))) : W p l e R s mid args below meth c H locs cells slots Q (F0 mid pc lsR (.ref (ad a) :: rest)) := by
  obtain ⟨hl, hC, hk, -, -, hdecl⟩ := hf
  obtain ⟨hexec, hb, hml, hown, hts, -⟩ := F
  obtain ⟨cell, q1, q2, q3, q4⟩ := hob
  obtain ⟨hS, hfc, kC, hkC, hkind⟩ := E.2.1.1 C _ (zCls_at hC)
  obtain ⟨cf, kf, fi, f, hi, hsl⟩ := hS k hk
  refine W.getf hexec hb hown (hts _ hl) (by rw [← hdecl]; exact hi) (u_facts hfc hkC (u_lays hts (zi_c hC) hk) hi).1 q1 (by rw [q3]; exact fun h => by cases h) (v := V k) ?_ rfl rfl hdg kk
  rw [hsl, q4 k hk]
theorem zs_getF {idx : Nat} (F : zFx p R s mid args meth c m d) (E : zEnv D cA ad base s) (hdg : decode m.2.2.1 pc = .ok (.getfield idx, len)) (h : zGetF pc len (zFld m.1 idx) ls st q = some (.inl (pc', ls', st', q'))) (I : zIn D cA ad base s m ls st q H locs lsR)
    (kk : zGoal p l e R s mid args below meth c D cA ad base m cells slots Q q pc' ls' st' q') : W p l e R s mid args below meth c H locs cells slots Q (F0 mid pc lsR (st.map (zE ad))) := by
  unfold zGetF at h
  split at h
  · next a r C k t fin hf =>
    have hfo := zFld_ok hf
    split at h
    · next hsh =>
      obtain ⟨sz, h4, hq, hob⟩ := zs_kind I.1 hsh hfo.2.1
      have hk := List.forall_mem_cons.mp I.2.2.2.1
      have ht : zTy C k = t := hfo.2.2.2.1
      split at h
      · next t3 =>
        obtain ⟨h1, rfl, rfl, rfl, rfl⟩ := zNx_inv h
        simp only [Bool.and_eq_true, beq_iff_eq, decide_eq_true_eq] at h1
        obtain ⟨rfl, h0⟩ := h1
        refine zs_get0 F E hfo hob hdg ?_
        have := kk.same (I.stk (zOk_cons (v := rV (q.2.1 a k).toNat) trivial hk.2))
        simp only [zFv]
        rw [if_pos (ht.trans t3), zRf, if_neg (by omega)]
        exact this
      · next t3 =>
        split at h
        · next t2 =>
          obtain ⟨h1, rfl, rfl, rfl, rfl⟩ := zNx_inv h
          have h1 : len = 3 := by simpa using h1
          subst h1
          refine zs_get0 F E hfo hob hdg ?_
          have := kk.same (I.stk (zOk_cons (v := lV (zLg (q.2.2 a k) (q.2.2 a (k + 1000)))) trivial hk.2))
          simp only [zFv]
          rw [if_neg (by rw [ht]; exact t3), if_pos (ht.trans t2)]
          exact this
        · next t2 =>
          obtain ⟨h1, rfl, rfl, rfl, rfl⟩ := zNx_inv h
          have h1 : len = 3 := by simpa using h1
          subst h1
          refine zs_get0 F E hfo hob hdg ?_
          have := kk.same (I.stk (zOk_cons (v := iV (q.2.2 a k)) (I.1.2.2.2.2.2 a k) hk.2))
          simp only [zFv]
          rw [if_neg (by rw [ht]; exact t3), if_neg (by rw [ht]; exact t2)]
          exact this
    · cases h
  · cases h
theorem z_apart (F : zFx p R s mid args meth c m d) (E : zEnv D cA ad base s) {C : Nat} (hC : C < 11) : ∀ x y, x < zNF C → y < zNF C → x ≠ y → (D.2 C) x ≠ (D.2 C) y :=
  va_apart (own := "") F.2.2.2.2.1 (zi_c hC) (zTyF C) (zty_c hC) (znm_c hC) E.2.1 (zCls_at hC)
/-- a field is put that is not final -/
theorem zs_put0 {a C k t idx : Nat} {V : Nat → Value} {rest : List Value} {v : Value} (F : zFx p R s mid args meth c m d) (E : zEnv D cA ad base s) (hf : zFok m.1 (idx, C, k, t, false)) (hob : t_OB (ad a) (D.1 C) (zNF C) (D.2 C) H V)
    (hn : narrow (zTyF C k) v = v) (hfit : fits (zTyF C k) v = true) (hdg : decode m.2.2.1 pc = .ok (.putfield idx, 3)) (ha : 4 ≤ a) (hS0 : va_S (zA base) s.heap H locs)
    (kk : ∀ (H' : Heap) (locs' : List Loc), H'.size = H.size → (∀ x, x ≠ ad a → H'[x]? = H[x]?) → t_OB (ad a) (D.1 C) (zNF C) (D.2 C) H' (updV V k v) → va_S (zA base) s.heap H' locs' → W p l e R s mid args below meth c H' locs' cells slots Q (F0 mid (pc + 3) lsR rest)) : W p l e R s mid args below meth c H locs cells slots Q (F0 mid pc lsR (v :: .ref (ad a) :: rest)) := by
  have hf' := hf
  obtain ⟨hl, hC, hk, -, hfin, hdecl⟩ := hf'
  have hap := z_apart F E hC
  obtain ⟨hexec, hb, hml, hown, hts, -⟩ := F
  obtain ⟨cell, q1, q2, q3, q4⟩ := hob
  obtain ⟨hS, hfc, kC, hkC, hkind⟩ := E.2.1.1 C _ (zCls_at hC)
  obtain ⟨cf, kf, fi, f, hi, hsl⟩ := hS k hk
  have hlay := hts _ (zi_c hC _ (u_in_lay hk))
  unfold u_lay at hlay
  rw [if_neg (by rw [show (zTT C k).2.2.2 = false from hfin]; decide)] at hlay
  have hst := (u_facts hfc hkC (u_lays hts (zi_c hC) hk) hi).1
  have h6 := u_store hfc hkC hkind hlay hi (zty_c hC k hk) hn hfit
  refine W.putK hexec hb (f := f) ⟨hown, hts _ hl, ⟨_, _, _, by rw [← hdecl]; exact hi⟩, hst⟩ (by rw [q2]; exact h6) q1 q3 (by rw [hsl]; exact k2_hasslot (q4 k hk)) rfl rfl hdg fun H' e1 e2 e3 => ?_
  rw [hsl] at e1 ⊢
  exact kk H' _ e2 e3 ⟨_, e1, q2, q3, t_set q4 hap hk v⟩ (hS0.put e2 e3 (E.1.lt ha))
/-- a final field is put, in its class's constructor -/
theorem zs_putF0 {a C k t idx : Nat} {V : Nat → Value} {rest : List Value} {v : Value} (F : zFx p R s mid args meth c m d) (E : zEnv D cA ad base s) (hf : zFok m.1 (idx, C, k, t, true)) (hob : t_OB (ad a) (D.1 C) (zNF C) (D.2 C) H V)
    (hmC : m.1 = C) (hin : m.2.1.name = "<init>") (hn : narrow (zTyF C k) v = v) (hfit : fits (zTyF C k) v = true) (hdg : decode m.2.2.1 pc = .ok (.putfield idx, 3)) (ha : 4 ≤ a) (hS0 : va_S (zA base) s.heap H locs)
    (kk : ∀ (H' : Heap) (locs' : List Loc), H'.size = H.size → (∀ x, x ≠ ad a → H'[x]? = H[x]?) → t_OB (ad a) (D.1 C) (zNF C) (D.2 C) H' (updV V k v) → va_S (zA base) s.heap H' locs' → W p l e R s mid args below meth c H' locs' cells slots Q (F0 mid (pc + 3) lsR rest)) : W p l e R s mid args below meth c H locs cells slots Q (F0 mid pc lsR (v :: .ref (ad a) :: rest)) := by
  have hf' := hf
  obtain ⟨hl, hC, hk, -, hfin, hdecl⟩ := hf'
  have hap := z_apart F E hC
  obtain ⟨hexec, hb, hml, hown, hts, -, -, hinit, -⟩ := F
  obtain ⟨cell, q1, q2, q3, q4⟩ := hob
  obtain ⟨hS, hfc, kC, hkC, hkind⟩ := E.2.1.1 C _ (zCls_at hC)
  obtain ⟨cf, kf, fi, f, hi, hsl⟩ := hS k hk
  have hlay := hts _ (zi_c hC _ (u_in_lay hk))
  unfold u_lay at hlay
  rw [if_pos (show (zTT C k).2.2.2 = true from hfin)] at hlay
  have hst := (u_facts hfc hkC (u_lays hts (zi_c hC) hk) hi).1
  have hcf : mid.cls = cf := by
    obtain ⟨_, _, c', _, _, _, -, -, hf', -, -, -, hown2, -⟩ := Cond.laysFinal_spec hlay
    have e1 : c' = cf := by have := hi.symm.trans hf'; simp at this; exact this.1.symm
    rw [show (zTT C k).1 = zCn C from hdecl] at hown2
    rw [hmC] at hown
    rw [← e1]; exact Option.some.inj (hown.symm.trans hown2)
  have h6 := u_fits hfc hkC hkind (Or.inr hlay) hi (zty_c hC k hk) hn hfit
  refine W.putFinK hexec hb hown (hts _ hl) (by rw [← hdecl]; exact hi) hst hcf (hinit hin) (by rw [q2]; exact h6) q1 q3 (by rw [hsl]; exact k2_hasslot (q4 k hk)) rfl rfl hdg fun H' e1 e2 e3 => ?_
  rw [hsl] at e1 ⊢
  exact kk H' _ e2 e3 ⟨_, e1, q2, q3, t_set q4 hap hk v⟩ (hS0.put e2 e3 (E.1.lt ha))
theorem zTyF_0 {C k : Nat} (hC : C < 11) (hk : k < zNF C) (h : zTy C k = 0) : zTyF C k = .int := by
  have h1 := (zTk_c C hC k hk).1
  rw [h] at h1
  cases ht : zTyF C k <;> rw [ht] at h1 <;> first | rfl | cases h1
theorem zTyF_1 {C k : Nat} (hC : C < 11) (hk : k < zNF C) (h : zTy C k = 1) : zTyF C k = .boolean := by
  have h1 := (zTk_c C hC k hk).1
  rw [h] at h1
  cases ht : zTyF C k <;> rw [ht] at h1 <;> first | rfl | cases h1
theorem zTyF_2 {C k : Nat} (hC : C < 11) (hk : k < zNF C) (h : zTy C k = 2) : zTyF C k = .long := by
  have h1 := (zTk_c C hC k hk).1
  rw [h] at h1
  cases ht : zTyF C k <;> rw [ht] at h1 <;> first | rfl | cases h1
theorem zTyF_3 {C k : Nat} (hC : C < 11) (hk : k < zNF C) (h : zTy C k = 3) : (∃ n, zTyF C k = .object n) ∨ ∃ t, zTyF C k = .array t := by
  have h1 := (zTk_c C hC k hk).2 h
  cases ht : zTyF C k <;> rw [ht] at h1 <;> first | exact Or.inl ⟨_, rfl⟩ | exact Or.inr ⟨_, rfl⟩ | cases h1
theorem zNF_le {C : Nat} (hC : C < 11) : zNF C ≤ 32 := by
  rcases (show C = 0 ∨ C = 1 ∨ C = 2 ∨ C = 3 ∨ C = 4 ∨ C = 5 ∨ C = 6 ∨ C = 7 ∨ C = 8 ∨ C = 9 ∨ C = 10 by omega) with rfl | rfl | rfl | rfl | rfl | rfl | rfl | rfl | rfl | rfl | rfl <;> decide
theorem zs_putF {idx : Nat} (F : zFx p R s mid args meth c m d) (E : zEnv D cA ad base s) (hdg : decode m.2.2.1 pc = .ok (.putfield idx, len)) (h : zPutF m pc len (zFld m.1 idx) ls st q = some (.inl (pc', ls', st', q'))) (I : zIn D cA ad base s m ls st q H locs lsR)
    (kk : zGoal p l e R s mid args below meth c D cA ad base m cells slots Q q pc' ls' st' q') : W p l e R s mid args below meth c H locs cells slots Q (F0 mid pc lsR (st.map (zE ad))) := by
  unfold zPutF at h
  split at h
  · next x a r C k t fin hf =>
    have hfo := zFld_ok hf
    split at h
    · next hc0 =>
      obtain ⟨hsh, h4, htx, hfin⟩ := hc0
      subst hfin
      obtain ⟨sz, -, hq, hob⟩ := zs_kind I.1 hsh hfo.2.1
      obtain ⟨h1, rfl, rfl, rfl, rfl⟩ := zNx_inv h
      have h1 : len = 3 := by simpa using h1
      subst h1
      have hk := List.forall_mem_cons.mp I.2.2.2.1
      have hk2 := List.forall_mem_cons.mp hk.2
      have ht : zTy C k = t := hfo.2.2.2.1
      have hkN : k < zNF C := hfo.2.2.1
      have hN : zNF C ≤ 32 := zNF_le hfo.2.1
      have hkN32 : k < 32 := Nat.lt_of_lt_of_le hfo.2.2.1 hN
      have hnf : narrow (zTyF C k) (.int (Int32.ofInt x)) = .int (Int32.ofInt x) ∧ fits (zTyF C k) (.int (Int32.ofInt x)) = true := by
        rcases htx with t0 | ⟨t1, hx⟩
        · rw [zTyF_0 hfo.2.1 hkN (ht.trans t0)]; exact ⟨rfl, rfl⟩
        · rw [zTyF_1 hfo.2.1 hkN (ht.trans t1)]
          rcases hx with rfl | rfl <;> exact ⟨by decide +kernel, by decide +kernel⟩
      refine zs_put0 F E hfo hob hnf.1 hnf.2 hdg h4 I.2.2.2.2 fun H' locs' e2 e3 e4 e5 => ?_
      have h9 := kk H' locs' lsR ⟨zRel_upd (q' := (q.1, q.2.1, zU q.2.2 a k x)) I.1 E.1 h4 rfl e2 e3 (fun _ _ _ => rfl) (fun b j hb => zU_na hb) (zR_zU I.1.2.2.2.2.2 hk.1) (fun e9 he9 => by
        rw [hq] at he9
        cases he9
        refine ⟨fun _ => e4.to (fun j hj => ?_), fun z => absurd z (by have := hfo.2.1; simp only at this ⊢; omega)⟩
        by_cases hjk : j = k
        · subst hjk
          simp only [updV, zFv]
          rw [if_pos trivial, if_neg (by rw [ht]; rcases htx with t0 | t1 <;> omega), if_neg (by rw [ht]; rcases htx with t0 | t1 <;> omega), zU_eq]
          rfl
        · simp only [updV, zFv]
          rw [if_neg hjk, zU_nk hjk, zU_nk (show j + 1000 ≠ k by omega)]), I.2.1, I.2.2.1, hk2.2, e5⟩
      rw [Nat.sub_self, show zSz (q.1, q.2.1, zU q.2.2 a k x) - zSz q = 0 from Nat.sub_self _, Nat.add_zero, Nat.add_zero] at h9
      exact h9
    · cases h
  · next x a r C k t fin hf =>
    have hfo := zFld_ok hf
    split at h
    · next hc0 =>
      obtain ⟨hsh, h4, htx, hfin⟩ := hc0
      subst hfin
      obtain ⟨sz, -, hq, hob⟩ := zs_kind I.1 hsh hfo.2.1
      obtain ⟨h1, rfl, rfl, rfl, rfl⟩ := zNx_inv h
      have h1 : len = 3 := by simpa using h1
      subst h1
      have hk := List.forall_mem_cons.mp I.2.2.2.1
      have hk2 := List.forall_mem_cons.mp hk.2
      have ht : zTy C k = t := hfo.2.2.2.1
      have hkN : k < zNF C := hfo.2.2.1
      have hN : zNF C ≤ 32 := zNF_le hfo.2.1
      have hkN32 : k < 32 := Nat.lt_of_lt_of_le hfo.2.2.1 hN
      have hnf : narrow (zTyF C k) (.long x) = .long x ∧ fits (zTyF C k) (.long x) = true := by
        rw [zTyF_2 hfo.2.1 hkN (ht.trans htx)]; exact ⟨rfl, rfl⟩
      refine zs_put0 F E hfo hob hnf.1 hnf.2 hdg h4 I.2.2.2.2 fun H' locs' e2 e3 e4 e5 => ?_
      have h9 := kk H' locs' lsR ⟨zRel_upd (q' := (q.1, q.2.1, zU (zU q.2.2 a k (zHi x)) a (k + 1000) (zLo x))) I.1 E.1 h4 rfl e2 e3 (fun _ _ _ => rfl) (fun b j hb => (zU_na hb).trans (zU_na hb)) (zR_zU (zR_zU I.1.2.2.2.2.2 (zR_hi x)) (zR_lo x)) (fun e9 he9 => by
        rw [hq] at he9
        cases he9
        refine ⟨fun _ => e4.to (fun j hj => ?_), fun z => absurd z (by have := hfo.2.1; simp only at this ⊢; omega)⟩
        by_cases hjk : j = k
        · subst hjk
          simp only [updV, zFv]
          rw [if_pos trivial, if_neg (by rw [ht]; omega), if_pos (ht.trans htx), zU_eq, zU_nk (show j ≠ j + 1000 by omega), zU_eq, z_lg]
          rfl
        · simp only [updV, zFv]
          rw [if_neg hjk, zU_nk (show j ≠ k + 1000 by have : j < zNF C := hj; omega), zU_nk hjk, zU_nk (show j + 1000 ≠ k + 1000 by omega), zU_nk (show j + 1000 ≠ k by omega)]), I.2.1, I.2.2.1, hk2.2, e5⟩
      rw [Nat.sub_self, show zSz (q.1, q.2.1, zU (zU q.2.2 a k (zHi x)) a (k + 1000) (zLo x)) - zSz q = 0 from Nat.sub_self _, Nat.add_zero, Nat.add_zero] at h9
      exact h9
    · cases h
  · next v a r C k t fin hf =>
    have hfo := zFld_ok hf
    split at h
    · next hc0 =>
      obtain ⟨hsh, h4, htx, hfin, hmC, hin⟩ := hc0
      subst hfin
      obtain ⟨sz, -, hq, hob⟩ := zs_kind I.1 hsh hfo.2.1
      obtain ⟨h1, rfl, rfl, rfl, rfl⟩ := zNx_inv h
      have h1 : len = 3 := by simpa using h1
      subst h1
      have hk := List.forall_mem_cons.mp I.2.2.2.1
      have hk2 := List.forall_mem_cons.mp hk.2
      have ht : zTy C k = t := hfo.2.2.2.1
      have hkN : k < zNF C := hfo.2.2.1
      have hnf : narrow (zTyF C k) (.ref (ad v)) = .ref (ad v) ∧ fits (zTyF C k) (.ref (ad v)) = true := by
        rcases zTyF_3 hfo.2.1 hkN (ht.trans htx) with ⟨n, e9⟩ | ⟨n, e9⟩ <;> (rw [e9]; exact ⟨rfl, rfl⟩)
      refine zs_putF0 F E hfo hob hmC hin hnf.1 hnf.2 hdg h4 I.2.2.2.2 fun H' locs' e2 e3 e4 e5 => ?_
      have h9 := kk H' locs' lsR ⟨zRel_upd (q' := (q.1, zU q.2.1 a k v, q.2.2)) I.1 E.1 h4 rfl e2 e3 (fun b j hb => zU_na hb) (fun _ _ _ => rfl) I.1.2.2.2.2.2 (fun e9 he9 => by
        rw [hq] at he9
        cases he9
        refine ⟨fun _ => e4.to (fun j hj => ?_), fun z => absurd z (by have := hfo.2.1; simp only at this ⊢; omega)⟩
        by_cases hjk : j = k
        · subst hjk
          simp only [updV, zFv]
          rw [if_pos trivial, if_pos (ht.trans htx), zU_eq, zRf, if_neg (by omega)]
          rfl
        · simp only [updV, zFv]
          rw [if_neg hjk, zU_nk hjk]), I.2.1, I.2.2.1, hk2.2, e5⟩
      rw [Nat.sub_self, show zSz (q.1, zU q.2.1 a k v, q.2.2) - zSz q = 0 from Nat.sub_self _, Nat.add_zero, Nat.add_zero] at h9
      exact h9
    · cases h
  · cases h
end ZH
