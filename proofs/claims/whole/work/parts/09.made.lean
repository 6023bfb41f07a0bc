/-! cells that are made -/
section ZN
variable {p : Program} {l : Launch} {e : Env} {R : Room} {s : State} {mid : MethodId} {args : Array Value} {below : List Frame} {meth : Method} {c : Code} {H : Heap} {locs : List Loc} {cells slots : Nat} {Q : State → Prop} {D : va_G} {cA : Nat → ClassId} {ad : Nat → Nat} {base : Nat}
variable {m : zD} {d pc pc' len : Nat} {ls ls' st st' : List zV} {q q' : zS} {lsR : Array Slot}
theorem zZ_in {M : zM} {n a b j : Nat} {v : Int} (h : a ≤ b ∧ b < a + n) : zZ M n a v b j = v := if_pos h
theorem zZ_out {M : zM} {n a b j : Nat} {v : Int} (h : b < a) : zZ M n a v b j = M b j := if_neg (by omega)
theorem zPush_len (q : zS) (n kd sz : Nat) : (zPush q n kd sz).1.length - q.1.length = n := by
  simp [zPush]
theorem zPush_sz (q : zS) (n kd sz : Nat) : zSz (zPush q n kd sz) - zSz q = n * sz := by
  simp [zPush, zSz]
theorem zR_zZ {M : zM} {n a : Nat} (h : ∀ b j, zR (M b j)) : ∀ b j, zR (zZ M n a 0 b j) := by
  intro b j
  unfold zZ
  split
  · exact zR_0
  · exact h b j
theorem zRel_ad (hR : zRel D cA ad base q s H) (hA : zAdr ad base) : ad q.1.length = H.size := by
  rw [hA.1 _ hR.2.1]
  have := hR.1
  have := hR.2.1
  omega
theorem zRel_ext {t : List (Nat × Nat)} {K' M' : zM} {H' : Heap} (hR : zRel D cA ad base q s H) (hA : zAdr ad base) (hz : H'.size = H.size + t.length) (ho : ∀ x, x < H.size → H'[x]? = H[x]?)
    (hK : ∀ a k, a < q.1.length → K' a k = q.2.1 a k) (hM : ∀ a k, a < q.1.length → M' a k = q.2.2 a k) (hr : ∀ a k, zR (M' a k)) (hcell : ∀ (i : Nat) (e : Nat × Nat), t[i]? = some e → zCell D cA ad K' M' H' (q.1.length + i) e) : zRel D cA ad base (q.1 ++ t, K', M') s H' := by
  obtain ⟨h1, h2, h3, h4, h5, -⟩ := hR
  have had : ∀ a, a < q.1.length → ad a < H.size := fun a ha => by
    by_cases h4 : 4 ≤ a
    · rw [hA.1 a h4]; omega
    · have := hA.2 a (by omega); omega
  refine ⟨by simp only [List.length_append]; omega, by simp only [List.length_append]; omega, fun a e ha he => ?_, fun a n ha he => ?_, fun a e ha he => ?_, hr⟩
  · by_cases hl : a < q.1.length
    · rw [List.getElem?_append_left hl] at he
      exact zCell_same (h3 a e ha he) (ho _ (had a hl)) (fun k => hK a k hl) (fun k => hM a k hl)
    · rw [List.getElem?_append_right (by omega)] at he
      have := hcell _ _ he
      rw [show q.1.length + (a - q.1.length) = a by omega] at this
      exact this
  · have hl : a < q.1.length := by omega
    rw [List.getElem?_append_left hl] at he
    exact zX_kept (h4 a n ha he) (ho _ (had a hl)) (fun j => by show _ = Int32.ofInt (M' a j); rw [hM a j hl])
  · have hl : a < q.1.length := by omega
    rw [List.getElem?_append_left hl] at he
    exact h5 a e ha he
theorem zRel_push1 {kd sz : Nat} {H' : Heap} (hR : zRel D cA ad base q s H) (hA : zAdr ad base) (hz : H'.size = H.size + 1) (ho : ∀ x, x < H.size → H'[x]? = H[x]?) (hcell : zCell D cA ad (zZ q.2.1 1 q.1.length (-1)) (zZ q.2.2 1 q.1.length 0) H' q.1.length (kd, sz)) : zRel D cA ad base (zPush q 1 kd sz) s H' := by
  refine zRel_ext (t := [(kd, sz)]) hR hA hz ho (fun a k ha => zZ_out ha) (fun a k ha => zZ_out ha) (zR_zZ hR.2.2.2.2.2) (fun i e he => ?_)
  have h0 : i < 1 := (List.getElem?_eq_some_iff.mp he).1
  rw [show i = 0 by omega] at he ⊢
  cases he
  exact hcell
theorem va_S.mk {H' : Heap} (hS : va_S (zA base) s.heap H locs) (hb : base ≤ s.heap.size) (hz : H.size ≤ H'.size) (ho : ∀ x, x < H.size → H'[x]? = H[x]?) : va_S (zA base) s.heap H' locs :=
  ⟨Nat.le_trans hS.1 hz, fun x h1 h2 => (ho x (Nat.lt_of_lt_of_le h1 hS.1)).trans (hS.2.1 x h1 h2), hS.2.2⟩
theorem zs_newO {k : Nat} (F : zFx p R s mid args meth c m d) (E : zEnv D cA ad base s) (hdg : decode m.2.2.1 pc = .ok (.new k, len)) (h : zNewO pc len (zNew m.1 k) ls st q = some (.inl (pc', ls', st', q'))) (I : zIn D cA ad base s m ls st q H locs lsR) (hc : cells + (q'.1.length - q.1.length) ≤ R.cells) (hs : slots + (zSz q' - zSz q) ≤ R.slots)
    (kk : zGoal p l e R s mid args below meth c D cA ad base m cells slots Q q pc' ls' st' q') : W p l e R s mid args below meth c H locs cells slots Q (F0 mid pc lsR (st.map (zE ad))) := by
  unfold zNewO at h
  split at h
  · next C hC0 =>
    obtain ⟨w1, w2, w3, hC⟩ := zNew_ok hC0
    obtain ⟨h1, rfl, rfl, rfl, rfl⟩ := zNx_inv h
    simp only [Bool.and_eq_true, beq_iff_eq] at h1
    obtain ⟨rfl, -⟩ := h1
    rw [zPush_len] at hc
    rw [zPush_sz, Nat.one_mul] at hs
    have hKn := E.2.1.1 C _ (zCls_at hC)
    have had := zRel_ad I.1 E.1
    refine W.newcK F.1 F.2.1 F.2.2.2.1 (F.2.2.2.2.1 _ w1) (F.2.2.2.2.1 _ w2) (F.2.2.2.2.1 _ w3) rfl hdg hc hs hKn.2.1 rfl fun H' kC hkC e1 z1 o1 => ?_
    have hob := u_born (zTyF C) F.2.2.2.2.1 (zi_c hC) hKn hkC e1 (zty_c hC)
    have hR := zRel_push1 (kd := C) (sz := zNF C) I.1 E.1 z1 o1 ⟨fun _ => by
      rw [had]
      refine hob.to (fun j hj => ?_)
      simp only [zFv]
      rw [zZ_in ⟨Nat.le_refl _, by omega⟩, zZ_in ⟨Nat.le_refl _, by omega⟩, zZ_in ⟨Nat.le_refl _, by omega⟩]
      by_cases t3 : zTy C j = 3
      · rw [if_pos t3]
        rcases zTyF_3 hC hj t3 with ⟨n, e9⟩ | ⟨n, e9⟩ <;> (rw [e9]; rfl)
      · rw [if_neg t3]
        by_cases t2 : zTy C j = 2
        · rw [if_pos t2, zTyF_2 hC hj t2]
          decide +kernel
        · rw [if_neg t2]
          have ht : zTy C j = 0 ∨ zTy C j = 1 := by
            rw [← (zTk_c C hC j hj).1] at t3 t2 ⊢
            cases ht : zTyF C j <;> rw [ht] at t3 t2 <;> simp [zTk] at t3 t2 ⊢
          rcases ht with t0 | t1
          · rw [zTyF_0 hC hj t0]; decide +kernel
          · rw [zTyF_1 hC hj t1]; decide +kernel, fun z => absurd z (by simp only; omega)⟩
    have h9 := kk H' locs lsR ⟨hR, I.2.1, I.2.2.1, zOk_cons trivial I.2.2.2.1, va_S.mk I.2.2.2.2 E.2.2.2.2.2.2.2 (by omega) o1⟩
    rw [zPush_len, zPush_sz, Nat.one_mul] at h9
    rw [← had]
    exact h9
  · cases h
theorem zs_arr0 {kd n : Nat} {H' : Heap} (hR : zRel D cA ad base q s H) (hA : zAdr ad base) (hkk : 20 ≤ kd ∧ kd ≤ 23) (hz : H'.size = H.size + 1) (ho : ∀ x, x < H.size → H'[x]? = H[x]?) {v : Value} (hv : v = if kd = 20 ∨ kd = 21 then .int 0 else .null) (hcell : H'[H.size]? = some (arrV (cA kd) n (fun _ => v))) : zRel D cA ad base (zPush q 1 kd n) s H' := by
  refine zRel_push1 hR hA hz ho ⟨fun z => absurd z (by simp only; omega), fun _ _ => ?_⟩
  rw [zRel_ad hR hA, hcell]
  congr 2
  funext j
  simp only [zAv]
  rw [zZ_in ⟨Nat.le_refl _, by omega⟩, zZ_in ⟨Nat.le_refl _, by omega⟩, hv]
  split
  · decide +kernel
  · rfl
theorem zs_newI (F : zFx p R s mid args meth c m d) (E : zEnv D cA ad base s) (hdg : decode m.2.2.1 pc = .ok (.newarray .int, len)) (h : zNewA pc len 2 20 ls st q = some (.inl (pc', ls', st', q'))) (I : zIn D cA ad base s m ls st q H locs lsR) (hc : cells + (q'.1.length - q.1.length) ≤ R.cells) (hs : slots + (zSz q' - zSz q) ≤ R.slots)
    (kk : zGoal p l e R s mid args below meth c D cA ad base m cells slots Q q pc' ls' st' q') : W p l e R s mid args below meth c H locs cells slots Q (F0 mid pc lsR (st.map (zE ad))) := by
  unfold zNewA at h
  split at h
  · next n r =>
    obtain ⟨h1, rfl, rfl, rfl, rfl⟩ := zNx_inv h
    simp only [Bool.and_eq_true, beq_iff_eq, decide_eq_true_eq] at h1
    obtain ⟨⟨rfl, h0⟩, hn⟩ := h1
    rw [zPush_len] at hc
    rw [zPush_sz, Nat.one_mul] at hs
    have hk := List.forall_mem_cons.mp I.2.2.2.1
    have hi : zR n := hk.1
    have had := zRel_ad I.1 E.1
    refine va_newaK (atype := .int) F.1 F.2.1 (F.2.2.2.2.1 _ zAi) rfl hdg rfl (by rw [z_lt0 hi]; omega) (z_cl hi) (by show n.toNat * 4 ≤ _; omega) hc hs rfl fun H' cA' e1 z1 o1 _ hf => ?_
    have hcA : cA' = cA 20 := Option.some.inj (hf.symm.trans (E.2.1.2 0 _ rfl).2)
    subst hcA
    have h9 := kk H' locs lsR ⟨zs_arr0 I.1 E.1 (by omega) z1 o1 rfl e1, I.2.1, I.2.2.1, zOk_cons trivial hk.2, va_S.mk I.2.2.2.2 E.2.2.2.2.2.2.2 (by omega) o1⟩
    rw [zPush_len, zPush_sz, Nat.one_mul] at h9
    rw [← had]
    exact h9
  · cases h
theorem zs_newZ (F : zFx p R s mid args meth c m d) (E : zEnv D cA ad base s) (hdg : decode m.2.2.1 pc = .ok (.newarray .boolean, len)) (h : zNewA pc len 2 21 ls st q = some (.inl (pc', ls', st', q'))) (I : zIn D cA ad base s m ls st q H locs lsR) (hc : cells + (q'.1.length - q.1.length) ≤ R.cells) (hs : slots + (zSz q' - zSz q) ≤ R.slots)
    (kk : zGoal p l e R s mid args below meth c D cA ad base m cells slots Q q pc' ls' st' q') : W p l e R s mid args below meth c H locs cells slots Q (F0 mid pc lsR (st.map (zE ad))) := by
  unfold zNewA at h
  split at h
  · next n r =>
    obtain ⟨h1, rfl, rfl, rfl, rfl⟩ := zNx_inv h
    simp only [Bool.and_eq_true, beq_iff_eq, decide_eq_true_eq] at h1
    obtain ⟨⟨rfl, h0⟩, hn⟩ := h1
    rw [zPush_len] at hc
    rw [zPush_sz, Nat.one_mul] at hs
    have hk := List.forall_mem_cons.mp I.2.2.2.1
    have hi : zR n := hk.1
    have had := zRel_ad I.1 E.1
    refine va_newaK (atype := .boolean) F.1 F.2.1 (F.2.2.2.2.1 _ zAz) rfl hdg rfl (by rw [z_lt0 hi]; omega) (z_cl hi) (by show n.toNat * 1 ≤ _; omega) hc hs rfl fun H' cA' e1 z1 o1 _ hf => ?_
    have hcA : cA' = cA 21 := Option.some.inj (hf.symm.trans (E.2.1.2 1 _ rfl).2)
    subst hcA
    have h9 := kk H' locs lsR ⟨zs_arr0 I.1 E.1 (by omega) z1 o1 rfl e1, I.2.1, I.2.2.1, zOk_cons trivial hk.2, va_S.mk I.2.2.2.2 E.2.2.2.2.2.2.2 (by omega) o1⟩
    rw [zPush_len, zPush_sz, Nat.one_mul] at h9
    rw [← had]
    exact h9
  · cases h
theorem zs_newR {k C kd t0 : Nat} (F : zFx p R s mid args meth c m d) (E : zEnv D cA ad base s) (hdg : decode m.2.2.1 pc = .ok (.anewarray k, len)) (hnw : zNew m.1 k = some C) (hkk : kd = 22 ∨ kd = 23) (ht : (zTys cA)[t0]? = some (cA kd, .object (zCn C))) (hov : va_AO (zCn C) s) (h : zNewA pc len 3 kd ls st q = some (.inl (pc', ls', st', q'))) (I : zIn D cA ad base s m ls st q H locs lsR) (hc : cells + (q'.1.length - q.1.length) ≤ R.cells) (hs : slots + (zSz q' - zSz q) ≤ R.slots)
    (kk : zGoal p l e R s mid args below meth c D cA ad base m cells slots Q q pc' ls' st' q') : W p l e R s mid args below meth c H locs cells slots Q (F0 mid pc lsR (st.map (zE ad))) := by
  unfold zNewA at h
  split at h
  · next n r =>
    obtain ⟨h1, rfl, rfl, rfl, rfl⟩ := zNx_inv h
    simp only [Bool.and_eq_true, beq_iff_eq, decide_eq_true_eq] at h1
    obtain ⟨⟨rfl, h0⟩, hn⟩ := h1
    rw [zPush_len] at hc
    rw [zPush_sz, Nat.one_mul] at hs
    have hk := List.forall_mem_cons.mp I.2.2.2.1
    have hi : zR n := hk.1
    have had := zRel_ad I.1 E.1
    obtain ⟨w1, -, -, -⟩ := zNew_ok hnw
    refine W.anew F.1 F.2.1 F.2.2.2.1 (F.2.2.2.2.1 _ w1) (va_AO.use hov) rfl hdg rfl (by rw [z_lt0 hi]; omega) (by rw [z_cl hi]; omega) hc (by rw [z_cl hi]; exact hs) fun cA' kA comp f1 f2 f3 f4 => ?_
    obtain ⟨kA', comp', k1, k2, k3, k4⟩ := (E.2.1.2 t0 _ ht).2
    have hcA : cA' = cA kd := Option.some.inj (f1.symm.trans k4)
    subst hcA
    rw [z_cl hi, arrV_new]
    have h9 := kk (H.push (arrV (cA kd) n.toNat (fun _ => .null))) locs lsR ⟨zs_arr0 I.1 E.1 (by omega) (by simp) (fun x hx => by rw [Array.getElem?_push, if_neg (Nat.ne_of_lt hx)]) (by rw [if_neg (by omega)]) (by simp), I.2.1, I.2.2.1, zOk_cons trivial hk.2, va_S.mk I.2.2.2.2 E.2.2.2.2.2.2.2 (by simp) (fun x hx => by rw [Array.getElem?_push, if_neg (Nat.ne_of_lt hx)])⟩
    rw [zPush_len, zPush_sz, Nat.one_mul] at h9
    rw [← had]
    exact h9
  · cases h
end ZN
