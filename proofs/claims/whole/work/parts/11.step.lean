/-! branches that are not taken: no target is wanted -/
section ZB
variable {p : Program} {l : Launch} {e : Env} {R : Room} {s : State} {mid : MethodId} {args : Array Value} {below : List Frame} {meth : Method} {c : Code} {H : Heap} {locs : List Loc} {cells slots : Nat} {Q : State → Prop} {D : va_G} {cA : Nat → ClassId} {ad : Nat → Nat} {base : Nat}
variable {m : zD} {d pc pc' len : Nat} {ls ls' st st' : List zV} {q q' : zS} {lsR : Array Slot}
variable {cc : ByteArray} {rest : List Value}
theorem zs_if_eq (hexec : p.tables.exec = Jvm.exec) (hb : c.code = cc) {x : Int32} {off : Int} (hdg : decode cc pc = .ok (.ifCond .eq off, 3)) (hP : ¬ (x = 0)) (kf : W p l e R s mid args below meth c H locs cells slots Q (F0 mid (pc + 3) lsR rest)) : W p l e R s mid args below meth c H locs cells slots Q (F0 mid pc lsR (.int x :: rest)) := by
  intro T hT X
  obtain ⟨t, a, b⟩ := kf T hT X
  refine ⟨t, ?_, b⟩
  jvm_step X.here [X.here.top, hexec, hb, hdg, Op.ifCond.holds, hP]
  exact a
theorem zs_if_ne (hexec : p.tables.exec = Jvm.exec) (hb : c.code = cc) {x : Int32} {off : Int} (hdg : decode cc pc = .ok (.ifCond .ne off, 3)) (hP : x = 0) (kf : W p l e R s mid args below meth c H locs cells slots Q (F0 mid (pc + 3) lsR rest)) : W p l e R s mid args below meth c H locs cells slots Q (F0 mid pc lsR (.int x :: rest)) := by
  intro T hT X
  obtain ⟨t, a, b⟩ := kf T hT X
  refine ⟨t, ?_, b⟩
  jvm_step X.here [X.here.top, hexec, hb, hdg, Op.ifCond.holds, hP]
  exact a
theorem zs_if_lt (hexec : p.tables.exec = Jvm.exec) (hb : c.code = cc) {x : Int32} {off : Int} (hdg : decode cc pc = .ok (.ifCond .lt off, 3)) (hP : ¬ (x < 0)) (kf : W p l e R s mid args below meth c H locs cells slots Q (F0 mid (pc + 3) lsR rest)) : W p l e R s mid args below meth c H locs cells slots Q (F0 mid pc lsR (.int x :: rest)) := by
  intro T hT X
  obtain ⟨t, a, b⟩ := kf T hT X
  refine ⟨t, ?_, b⟩
  jvm_step X.here [X.here.top, hexec, hb, hdg, Op.ifCond.holds, hP]
  exact a
theorem zs_if_ge (hexec : p.tables.exec = Jvm.exec) (hb : c.code = cc) {x : Int32} {off : Int} (hdg : decode cc pc = .ok (.ifCond .ge off, 3)) (hP : ¬ (0 ≤ x)) (kf : W p l e R s mid args below meth c H locs cells slots Q (F0 mid (pc + 3) lsR rest)) : W p l e R s mid args below meth c H locs cells slots Q (F0 mid pc lsR (.int x :: rest)) := by
  intro T hT X
  obtain ⟨t, a, b⟩ := kf T hT X
  refine ⟨t, ?_, b⟩
  jvm_step X.here [X.here.top, hexec, hb, hdg, Op.ifCond.holds, hP]
  exact a
theorem zs_if_gt (hexec : p.tables.exec = Jvm.exec) (hb : c.code = cc) {x : Int32} {off : Int} (hdg : decode cc pc = .ok (.ifCond .gt off, 3)) (hP : ¬ (0 < x)) (kf : W p l e R s mid args below meth c H locs cells slots Q (F0 mid (pc + 3) lsR rest)) : W p l e R s mid args below meth c H locs cells slots Q (F0 mid pc lsR (.int x :: rest)) := by
  intro T hT X
  obtain ⟨t, a, b⟩ := kf T hT X
  refine ⟨t, ?_, b⟩
  jvm_step X.here [X.here.top, hexec, hb, hdg, Op.ifCond.holds, hP]
  exact a
theorem zs_if_le (hexec : p.tables.exec = Jvm.exec) (hb : c.code = cc) {x : Int32} {off : Int} (hdg : decode cc pc = .ok (.ifCond .le off, 3)) (hP : ¬ (x ≤ 0)) (kf : W p l e R s mid args below meth c H locs cells slots Q (F0 mid (pc + 3) lsR rest)) : W p l e R s mid args below meth c H locs cells slots Q (F0 mid pc lsR (.int x :: rest)) := by
  intro T hT X
  obtain ⟨t, a, b⟩ := kf T hT X
  refine ⟨t, ?_, b⟩
  jvm_step X.here [X.here.top, hexec, hb, hdg, Op.ifCond.holds, hP]
  exact a
theorem zs_icmp_eq (hexec : p.tables.exec = Jvm.exec) (hb : c.code = cc) {x y : Int32} {off : Int} (hdg : decode cc pc = .ok (.if_icmp .eq off, 3)) (hP : ¬ (x = y)) (kf : W p l e R s mid args below meth c H locs cells slots Q (F0 mid (pc + 3) lsR rest)) : W p l e R s mid args below meth c H locs cells slots Q (F0 mid pc lsR (.int y :: .int x :: rest)) := by
  intro T hT X
  obtain ⟨t, a, b⟩ := kf T hT X
  refine ⟨t, ?_, b⟩
  jvm_step X.here [X.here.top, hexec, hb, hdg, Op.if_icmp.holds, hP]
  exact a
theorem zs_icmp_ne (hexec : p.tables.exec = Jvm.exec) (hb : c.code = cc) {x y : Int32} {off : Int} (hdg : decode cc pc = .ok (.if_icmp .ne off, 3)) (hP : x = y) (kf : W p l e R s mid args below meth c H locs cells slots Q (F0 mid (pc + 3) lsR rest)) : W p l e R s mid args below meth c H locs cells slots Q (F0 mid pc lsR (.int y :: .int x :: rest)) := by
  intro T hT X
  obtain ⟨t, a, b⟩ := kf T hT X
  refine ⟨t, ?_, b⟩
  jvm_step X.here [X.here.top, hexec, hb, hdg, Op.if_icmp.holds, hP]
  exact a
theorem zs_icmp_lt (hexec : p.tables.exec = Jvm.exec) (hb : c.code = cc) {x y : Int32} {off : Int} (hdg : decode cc pc = .ok (.if_icmp .lt off, 3)) (hP : ¬ (x < y)) (kf : W p l e R s mid args below meth c H locs cells slots Q (F0 mid (pc + 3) lsR rest)) : W p l e R s mid args below meth c H locs cells slots Q (F0 mid pc lsR (.int y :: .int x :: rest)) := by
  intro T hT X
  obtain ⟨t, a, b⟩ := kf T hT X
  refine ⟨t, ?_, b⟩
  jvm_step X.here [X.here.top, hexec, hb, hdg, Op.if_icmp.holds, hP]
  exact a
theorem zs_icmp_ge (hexec : p.tables.exec = Jvm.exec) (hb : c.code = cc) {x y : Int32} {off : Int} (hdg : decode cc pc = .ok (.if_icmp .ge off, 3)) (hP : ¬ (y ≤ x)) (kf : W p l e R s mid args below meth c H locs cells slots Q (F0 mid (pc + 3) lsR rest)) : W p l e R s mid args below meth c H locs cells slots Q (F0 mid pc lsR (.int y :: .int x :: rest)) := by
  intro T hT X
  obtain ⟨t, a, b⟩ := kf T hT X
  refine ⟨t, ?_, b⟩
  jvm_step X.here [X.here.top, hexec, hb, hdg, Op.if_icmp.holds, hP]
  exact a
theorem zs_icmp_gt (hexec : p.tables.exec = Jvm.exec) (hb : c.code = cc) {x y : Int32} {off : Int} (hdg : decode cc pc = .ok (.if_icmp .gt off, 3)) (hP : ¬ (y < x)) (kf : W p l e R s mid args below meth c H locs cells slots Q (F0 mid (pc + 3) lsR rest)) : W p l e R s mid args below meth c H locs cells slots Q (F0 mid pc lsR (.int y :: .int x :: rest)) := by
  intro T hT X
  obtain ⟨t, a, b⟩ := kf T hT X
  refine ⟨t, ?_, b⟩
  jvm_step X.here [X.here.top, hexec, hb, hdg, Op.if_icmp.holds, hP]
  exact a
theorem zs_icmp_le (hexec : p.tables.exec = Jvm.exec) (hb : c.code = cc) {x y : Int32} {off : Int} (hdg : decode cc pc = .ok (.if_icmp .le off, 3)) (hP : ¬ (x ≤ y)) (kf : W p l e R s mid args below meth c H locs cells slots Q (F0 mid (pc + 3) lsR rest)) : W p l e R s mid args below meth c H locs cells slots Q (F0 mid pc lsR (.int y :: .int x :: rest)) := by
  intro T hT X
  obtain ⟨t, a, b⟩ := kf T hT X
  refine ⟨t, ?_, b⟩
  jvm_step X.here [X.here.top, hexec, hb, hdg, Op.if_icmp.holds, hP]
  exact a
end ZB
/-! one step -/
section ZO
variable {p : Program} {l : Launch} {e : Env} {R : Room} {s : State} {mid : MethodId} {args : Array Value} {below : List Frame} {meth : Method} {c : Code} {H : Heap} {locs : List Loc} {cells slots : Nat} {Q : State → Prop} {D : va_G} {cA : Nat → ClassId} {ad : Nat → Nat} {base : Nat}
variable {m : zD} {d pc pc' len : Nat} {ls ls' st st' : List zV} {q q' : zS} {lsR : Array Slot}
theorem zCallV_ne {f : Option (Nat × Nat × zD)} {x : Nat × List zV × List zV × zS} : zCallV pc len f st q ≠ some (.inl x) := by
  unfold zCallV
  intro h
  split at h
  · split at h
    · split at h
      · cases h
      · cases h
    · cases h
  · cases h
theorem zCallS_ne {f : Option (Nat × Nat × zD)} {x : Nat × List zV × List zV × zS} : zCallS pc len f st q ≠ some (.inl x) := by
  unfold zCallS
  intro h
  split at h
  · split at h
    · cases h
    · cases h
  · cases h
theorem zRet_ne {x : Nat × List zV × List zV × zS} : zRet m len st ≠ some (.inl x) := by
  unfold zRet
  intro h
  split at h
  · split at h
    · cases h
    · cases h
  · cases h
theorem zCs_sum (l : List zV) : ((l.map (zE ad)).map fun v => v.category).sum = zCs l := by
  unfold zCs
  rw [List.map_map]
  congr 1
  exact List.map_congr_left (fun v _ => zE_cat ad v)
set_option maxHeartbeats 4000000 in
theorem zS1 {i : Jvm.ClassFile.Instr} (F : zFx p R s mid args meth c m d) (E : zEnv D cA ad base s) (hdg : decode m.2.2.1 pc = .ok (i, len)) (h : zEx m pc len i ls st q = some (.inl (pc', ls', st', q'))) (I : zIn D cA ad base s m ls st q H locs lsR) (hc : cells + (q'.1.length - q.1.length) ≤ R.cells) (hs : slots + (zSz q' - zSz q) ≤ R.slots) (hc0 : cells ≤ R.cells) (hs0 : slots ≤ R.slots)
    (kk : zGoal p l e R s mid args below meth c D cA ad base m cells slots Q q pc' ls' st' q') : W p l e R s mid args below meth c H locs cells slots Q (F0 mid pc lsR (st.map (zE ad))) := by
  have hx := F.1
  have hb := F.2.1
  have hl := zLR_has I.2.1
  cases i with
  | iconst n =>
    obtain ⟨h1, rfl, rfl, rfl, rfl⟩ := zNx_inv h
    simp only [Bool.and_eq_true, beq_iff_eq, decide_eq_true_eq] at h1
    obtain ⟨rfl, hn⟩ := h1
    exact zs_push (v := iV n) (fun k9 => lv_iconst hx hb hdg rfl k9) (zR_sm (by omega) (by omega)) I kk
  | bipush n =>
    obtain ⟨h1, rfl, rfl, rfl, rfl⟩ := zNx_inv h
    simp only [Bool.and_eq_true, beq_iff_eq, decide_eq_true_eq] at h1
    obtain ⟨rfl, hn⟩ := h1
    exact zs_push (v := iV n) (fun k9 => lv_bipush hx hb hdg (z_i8 hn) k9) (zR_sm (by omega) (by omega)) I kk
  | sipush n =>
    obtain ⟨h1, rfl, rfl, rfl, rfl⟩ := zNx_inv h
    simp only [Bool.and_eq_true, beq_iff_eq, decide_eq_true_eq] at h1
    obtain ⟨rfl, hn⟩ := h1
    exact zs_push (v := iV n) (fun k9 => lv_sipush hx hb hdg (z_i16 hn) k9) (zR_sm (by omega) (by omega)) I kk
  | ldc n =>
    simp only [zEx] at h
    split at h
    · next v hv =>
      obtain ⟨h1, rfl, rfl, rfl, rfl⟩ := zNx_inv h
      have h1 : len = 2 := by simpa using h1
      subst h1
      obtain ⟨w1, w2⟩ := zCst_ok hv
      exact zs_push (v := iV v) (fun k9 => lv_ldc hx hb F.2.2.2.1 (F.2.2.2.2.1 _ w1) hdg k9) w2 I kk
    · cases h
  | ldc_w n =>
    simp only [zEx] at h
    split at h
    · next v hv =>
      obtain ⟨h1, rfl, rfl, rfl, rfl⟩ := zNx_inv h
      have h1 : len = 3 := by simpa using h1
      subst h1
      obtain ⟨w1, w2⟩ := zCst_ok hv
      exact zs_push (v := iV v) (fun k9 => lv_ldcw hx hb F.2.2.2.1 (F.2.2.2.2.1 _ w1) hdg k9) w2 I kk
    · cases h
  | ldc2_w n =>
    simp only [zEx] at h
    split at h
    · next v hv =>
      obtain ⟨h1, rfl, rfl, rfl, rfl⟩ := zNx_inv h
      have h1 : len = 3 := by simpa using h1
      subst h1
      exact zs_push (v := lV v) (fun k9 => lv_ldc2 hx hb F.2.2.2.1 (F.2.2.2.2.1 _ (zCstL_ok hv)) hdg k9) trivial I kk
    · cases h
  | iload k =>
    exact zs_ldI h I (fun e9 x rest h9 k9 => by subst e9; exact lv_iload hx hb hdg h9 k9) kk
  | iload_n k =>
    exact zs_ldI h I (fun e9 x rest h9 k9 => by subst e9; exact lv_iload_n hx hb hdg rfl h9 k9) kk
  | istore k =>
    exact zs_stI h I (fun e9 x rest hn k9 => by subst e9; exact lv_istore hx hb hdg hl hn rfl k9) kk
  | istore_n k =>
    exact zs_stI h I (fun e9 x rest hn k9 => by subst e9; exact lv_istore_n hx hb hdg rfl hl hn rfl k9) kk
  | lload k =>
    exact zs_ldL h I (fun e9 x rest h9 k9 => by subst e9; exact lv_lload hx hb hdg h9 k9) kk
  | lload_n k =>
    exact zs_ldL h I (fun e9 x rest h9 k9 => by subst e9; exact lv_lload_n hx hb hdg rfl h9 k9) kk
  | lstore k =>
    exact zs_stL h I (fun e9 x rest hn k9 => by subst e9; exact lv_lstore hx hb hdg hl hn rfl k9) kk
  | lstore_n k =>
    exact zs_stL h I (fun e9 x rest hn k9 => by subst e9; exact lv_lstore_n hx hb hdg rfl hl hn rfl k9) kk
  | aload k =>
    exact zs_ldA h I (fun e9 x rest h9 k9 => by subst e9; exact lv_aload hx hb hdg h9 k9) kk
  | aload_n k =>
    exact zs_ldA h I (fun e9 x rest h9 k9 => by subst e9; exact lv_aload_n hx hb hdg rfl h9 k9) kk
  | astore k =>
    exact zs_stA h I (fun e9 x rest hn k9 => by subst e9; exact lv_astore hx hb hdg hl hn rfl k9) kk
  | astore_n k =>
    exact zs_stA h I (fun e9 x rest hn k9 => by subst e9; exact lv_astore_n hx hb hdg rfl hl hn rfl k9) kk
  | iinc k n =>
    simp only [zEx] at h
    split at h
    · next a ha =>
      obtain ⟨h1, rfl, rfl, rfl, rfl⟩ := zNx_inv h
      simp only [Bool.and_eq_true, beq_iff_eq] at h1
      obtain ⟨rfl, hf⟩ := h1
      obtain ⟨j, hj⟩ := List.getElem?_of_mem (zAl_in (ad := ad) ha (fun e => by cases e))
      have hlt : k < m.2.2.2.1 := by rw [← I.2.1.2.1]; exact (List.getElem?_eq_some_iff.mp ha).1
      refine lv_iinc (v := Int32.ofInt (zI2 (· + ·) a n)) hx hb hdg hl hj ?_ hlt rfl fun lsR' hl' => ?_
      · show _ = Int32.ofInt (Int32.ofInt a + Int32.ofInt n).toInt
        rw [z_re]
      · exact kk.same (I.loc (zLR_set (v := iV (zI2 (· + ·) a n)) I.2.1.2.1 hf hl') (zOk_set I.2.2.1 (zR_of _)) I.2.2.2.1)
    · cases h
  | iadd =>
    exact zs_bin h I (fun e9 a b rest _ _ k9 => by subst e9; exact lv_iadd hx hb hdg k9) kk
  | isub =>
    exact zs_bin h I (fun e9 a b rest _ _ k9 => by subst e9; exact lv_isub hx hb hdg k9) kk
  | imul =>
    exact zs_bin h I (fun e9 a b rest _ _ k9 => by subst e9; exact lv_imul hx hb hdg k9) kk
  | iand =>
    exact zs_bin h I (fun e9 a b rest _ _ k9 => by subst e9; exact lv_iand hx hb hdg k9) kk
  | ior =>
    exact zs_bin h I (fun e9 a b rest _ _ k9 => by subst e9; exact lv_ior hx hb hdg k9) kk
  | ixor =>
    exact zs_bin h I (fun e9 a b rest _ _ k9 => by subst e9; exact lv_ixor hx hb hdg k9) kk
  | ishl =>
    exact zs_bin h I (fun e9 a b rest _ _ k9 => by subst e9; exact lv_ishl hx hb hdg k9) kk
  | ishr =>
    exact zs_bin h I (fun e9 a b rest _ _ k9 => by subst e9; exact lv_ishr hx hb hdg k9) kk
  | iushr =>
    exact zs_bin h I (fun e9 a b rest _ _ k9 => by subst e9; exact lv_iushr hx hb hdg rfl k9) kk
  | idiv =>
    exact zs_bin h I (fun e9 a b rest hb9 h9 k9 => by subst e9; exact lv_idiv hx hb hdg (by rw [z_eq0 hb9]; exact of_decide_eq_true h9) k9) kk
  | irem =>
    exact zs_bin h I (fun e9 a b rest hb9 h9 k9 => by subst e9; exact lv_irem hx hb hdg (by rw [z_eq0 hb9]; exact of_decide_eq_true h9) k9) kk
  | ineg =>
    simp only [zEx] at h
    split at h
    · next a r =>
      obtain ⟨h1, rfl, rfl, rfl, rfl⟩ := zNx_inv h
      have h1 : len = 1 := by simpa using h1
      subst h1
      have hk := List.forall_mem_cons.mp I.2.2.2.1
      have h9 := kk.same (I.stk (zOk_cons (zR_of _) hk.2))
      simp only [List.map_cons, zE, z_re] at h9
      exact lv_ineg hx hb hdg h9
    · cases h
  | i2l =>
    simp only [zEx] at h
    split at h
    · next a r =>
      obtain ⟨h1, rfl, rfl, rfl, rfl⟩ := zNx_inv h
      have h1 : len = 1 := by simpa using h1
      subst h1
      have hk := List.forall_mem_cons.mp I.2.2.2.1
      exact lv_i2l hx hb hdg rfl (kk.same (I.stk (zOk_cons trivial hk.2)))
    · cases h
  | ladd =>
    simp only [zEx] at h
    split at h
    · next b a r =>
      obtain ⟨h1, rfl, rfl, rfl, rfl⟩ := zNx_inv h
      have h1 : len = 1 := by simpa using h1
      subst h1
      have hk := List.forall_mem_cons.mp I.2.2.2.1
      have hk2 := List.forall_mem_cons.mp hk.2
      exact lv_ladd hx hb hdg (kk.same (I.stk (zOk_cons trivial hk2.2)))
    · cases h
  | lmul =>
    simp only [zEx] at h
    split at h
    · next b a r =>
      obtain ⟨h1, rfl, rfl, rfl, rfl⟩ := zNx_inv h
      have h1 : len = 1 := by simpa using h1
      subst h1
      have hk := List.forall_mem_cons.mp I.2.2.2.1
      have hk2 := List.forall_mem_cons.mp hk.2
      exact lv_lmul hx hb hdg (kk.same (I.stk (zOk_cons trivial hk2.2)))
    · cases h
  | lcmp =>
    simp only [zEx] at h
    split at h
    · next b a r =>
      obtain ⟨h1, rfl, rfl, rfl, rfl⟩ := zNx_inv h
      have h1 : len = 1 := by simpa using h1
      subst h1
      have hk := List.forall_mem_cons.mp I.2.2.2.1
      have hk2 := List.forall_mem_cons.mp hk.2
      have h9 := kk.same (I.stk (zOk_cons (zR_of _) hk2.2))
      simp only [List.map_cons, zE, z_re] at h9
      exact W.lcmp hx hb hdg h9
    · cases h
  | dup =>
    simp only [zEx] at h
    split at h
    · next v r =>
      obtain ⟨h1, rfl, rfl, rfl, rfl⟩ := zNx_inv h
      simp only [Bool.and_eq_true, beq_iff_eq] at h1
      obtain ⟨rfl, hv⟩ := h1
      have hk := List.forall_mem_cons.mp I.2.2.2.1
      exact lv_dup hx hb hdg (by rw [zE_cat]; exact hv) (kk.same (I.stk (zOk_cons hk.1 I.2.2.2.1)))
    · cases h
  | pop =>
    simp only [zEx] at h
    split at h
    · next v r =>
      obtain ⟨h1, rfl, rfl, rfl, rfl⟩ := zNx_inv h
      simp only [Bool.and_eq_true, beq_iff_eq] at h1
      obtain ⟨rfl, hv⟩ := h1
      have hk := List.forall_mem_cons.mp I.2.2.2.1
      exact lv_pop hx hb hdg (by rw [zE_cat]; exact hv) (kk.same (I.stk hk.2))
    · cases h
  | dup2 =>
    simp only [zEx] at h
    split at h
    · next v w r =>
      obtain ⟨h1, rfl, rfl, rfl, rfl⟩ := zNx_inv h
      simp only [Bool.and_eq_true, beq_iff_eq] at h1
      obtain ⟨⟨rfl, hv⟩, hw⟩ := h1
      have hk := List.forall_mem_cons.mp I.2.2.2.1
      have hk2 := List.forall_mem_cons.mp hk.2
      exact lv_dup2_11 hx hb hdg (by rw [zE_cat]; exact hv) (by rw [zE_cat]; exact hw) (kk.same (I.stk (zOk_cons hk.1 (zOk_cons hk2.1 I.2.2.2.1))))
    · cases h
  | ifCond cd off =>
    simp only [zEx] at h
    split at h
    · next a r =>
      have hk := List.forall_mem_cons.mp I.2.2.2.1
      have ha : zR a := hk.1
      cases cd with
      | eq =>
        refine W.eq (g2 := F0 mid pc lsR (.int (Int32.ofInt a) :: r.map (zE ad))) rfl ?_
        by_cases hz : zC .eq a 0 = true
        · rw [if_pos hz] at h
          obtain ⟨h1, ht, rfl, rfl, rfl⟩ := zs_jp h
          have h1 : len = 3 := by simpa using h1
          subst h1
          have hz := of_decide_eq_true hz
          exact lv_if_eq hx hb hdg ht (fun _ => kk.same (I.stk hk.2)) (fun h9 => absurd ((z_eq0 ha).mpr hz) h9)
        · rw [if_neg hz] at h
          obtain ⟨h1, rfl, rfl, rfl, rfl⟩ := zNx_inv h
          have h1 : len = 3 := by simpa using h1
          subst h1
          have hz : ¬ _ := fun h9 => hz (decide_eq_true h9)
          exact zs_if_eq hx hb hdg (fun h9 => hz ((z_eq0 ha).mp h9)) (kk.same (I.stk hk.2))
      | ne =>
        refine W.eq (g2 := F0 mid pc lsR (.int (Int32.ofInt a) :: r.map (zE ad))) rfl ?_
        by_cases hz : zC .ne a 0 = true
        · rw [if_pos hz] at h
          obtain ⟨h1, ht, rfl, rfl, rfl⟩ := zs_jp h
          have h1 : len = 3 := by simpa using h1
          subst h1
          have hz := of_decide_eq_true hz
          exact lv_if_ne hx hb hdg ht (fun _ => kk.same (I.stk hk.2)) (fun h9 => absurd h9 ((not_congr (z_eq0 ha)).mpr hz))
        · rw [if_neg hz] at h
          obtain ⟨h1, rfl, rfl, rfl, rfl⟩ := zNx_inv h
          have h1 : len = 3 := by simpa using h1
          subst h1
          have hz : ¬ _ := fun h9 => hz (decide_eq_true h9)
          exact zs_if_ne hx hb hdg ((z_eq0 ha).mpr (Decidable.of_not_not hz)) (kk.same (I.stk hk.2))
      | lt =>
        refine W.eq (g2 := F0 mid pc lsR (.int (Int32.ofInt a) :: r.map (zE ad))) rfl ?_
        by_cases hz : zC .lt a 0 = true
        · rw [if_pos hz] at h
          obtain ⟨h1, ht, rfl, rfl, rfl⟩ := zs_jp h
          have h1 : len = 3 := by simpa using h1
          subst h1
          have hz := of_decide_eq_true hz
          exact lv_if_lt hx hb hdg ht (fun _ => kk.same (I.stk hk.2)) (fun h9 => absurd ((z_lt0 ha).mpr hz) h9)
        · rw [if_neg hz] at h
          obtain ⟨h1, rfl, rfl, rfl, rfl⟩ := zNx_inv h
          have h1 : len = 3 := by simpa using h1
          subst h1
          have hz : ¬ _ := fun h9 => hz (decide_eq_true h9)
          exact zs_if_lt hx hb hdg (fun h9 => hz ((z_lt0 ha).mp h9)) (kk.same (I.stk hk.2))
      | ge =>
        refine W.eq (g2 := F0 mid pc lsR (.int (Int32.ofInt a) :: r.map (zE ad))) rfl ?_
        by_cases hz : zC .ge a 0 = true
        · rw [if_pos hz] at h
          obtain ⟨h1, ht, rfl, rfl, rfl⟩ := zs_jp h
          have h1 : len = 3 := by simpa using h1
          subst h1
          have hz := of_decide_eq_true hz
          exact lv_if_ge hx hb hdg ht (fun _ => kk.same (I.stk hk.2)) (fun h9 => absurd ((z_0le ha).mpr hz) h9)
        · rw [if_neg hz] at h
          obtain ⟨h1, rfl, rfl, rfl, rfl⟩ := zNx_inv h
          have h1 : len = 3 := by simpa using h1
          subst h1
          have hz : ¬ _ := fun h9 => hz (decide_eq_true h9)
          exact zs_if_ge hx hb hdg (fun h9 => hz ((z_0le ha).mp h9)) (kk.same (I.stk hk.2))
      | gt =>
        refine W.eq (g2 := F0 mid pc lsR (.int (Int32.ofInt a) :: r.map (zE ad))) rfl ?_
        by_cases hz : zC .gt a 0 = true
        · rw [if_pos hz] at h
          obtain ⟨h1, ht, rfl, rfl, rfl⟩ := zs_jp h
          have h1 : len = 3 := by simpa using h1
          subst h1
          have hz := of_decide_eq_true hz
          exact lv_if_gt hx hb hdg ht (fun _ => kk.same (I.stk hk.2)) (fun h9 => absurd ((z_0lt ha).mpr hz) h9)
        · rw [if_neg hz] at h
          obtain ⟨h1, rfl, rfl, rfl, rfl⟩ := zNx_inv h
          have h1 : len = 3 := by simpa using h1
          subst h1
          have hz : ¬ _ := fun h9 => hz (decide_eq_true h9)
          exact zs_if_gt hx hb hdg (fun h9 => hz ((z_0lt ha).mp h9)) (kk.same (I.stk hk.2))
      | le =>
        refine W.eq (g2 := F0 mid pc lsR (.int (Int32.ofInt a) :: r.map (zE ad))) rfl ?_
        by_cases hz : zC .le a 0 = true
        · rw [if_pos hz] at h
          obtain ⟨h1, ht, rfl, rfl, rfl⟩ := zs_jp h
          have h1 : len = 3 := by simpa using h1
          subst h1
          have hz := of_decide_eq_true hz
          exact lv_if_le hx hb hdg ht (fun _ => kk.same (I.stk hk.2)) (fun h9 => absurd ((z_le0 ha).mpr hz) h9)
        · rw [if_neg hz] at h
          obtain ⟨h1, rfl, rfl, rfl, rfl⟩ := zNx_inv h
          have h1 : len = 3 := by simpa using h1
          subst h1
          have hz : ¬ _ := fun h9 => hz (decide_eq_true h9)
          exact zs_if_le hx hb hdg (fun h9 => hz ((z_le0 ha).mp h9)) (kk.same (I.stk hk.2))
    · cases h
  | if_icmp cd off =>
    simp only [zEx] at h
    split at h
    · next b a r =>
      have hk := List.forall_mem_cons.mp I.2.2.2.1
      have hk2 := List.forall_mem_cons.mp hk.2
      have ha : zR a := hk2.1
      have hb9 : zR b := hk.1
      cases cd with
      | eq =>
        refine W.eq (g2 := F0 mid pc lsR (.int (Int32.ofInt b) :: .int (Int32.ofInt a) :: r.map (zE ad))) rfl ?_
        by_cases hz : zC .eq a b = true
        · rw [if_pos hz] at h
          obtain ⟨h1, ht, rfl, rfl, rfl⟩ := zs_jp h
          have h1 : len = 3 := by simpa using h1
          subst h1
          have hz := of_decide_eq_true hz
          exact lv_icmp_eq hx hb hdg ht (fun _ => kk.same (I.stk hk2.2)) (fun h9 => absurd ((z_eq ha hb9).mpr hz) h9)
        · rw [if_neg hz] at h
          obtain ⟨h1, rfl, rfl, rfl, rfl⟩ := zNx_inv h
          have h1 : len = 3 := by simpa using h1
          subst h1
          have hz : ¬ _ := fun h9 => hz (decide_eq_true h9)
          exact zs_icmp_eq hx hb hdg (fun h9 => hz ((z_eq ha hb9).mp h9)) (kk.same (I.stk hk2.2))
      | ne =>
        refine W.eq (g2 := F0 mid pc lsR (.int (Int32.ofInt b) :: .int (Int32.ofInt a) :: r.map (zE ad))) rfl ?_
        by_cases hz : zC .ne a b = true
        · rw [if_pos hz] at h
          obtain ⟨h1, ht, rfl, rfl, rfl⟩ := zs_jp h
          have h1 : len = 3 := by simpa using h1
          subst h1
          have hz := of_decide_eq_true hz
          exact lv_icmp_ne hx hb hdg ht (fun _ => kk.same (I.stk hk2.2)) (fun h9 => absurd h9 ((not_congr (z_eq ha hb9)).mpr hz))
        · rw [if_neg hz] at h
          obtain ⟨h1, rfl, rfl, rfl, rfl⟩ := zNx_inv h
          have h1 : len = 3 := by simpa using h1
          subst h1
          have hz : ¬ _ := fun h9 => hz (decide_eq_true h9)
          exact zs_icmp_ne hx hb hdg ((z_eq ha hb9).mpr (Decidable.of_not_not hz)) (kk.same (I.stk hk2.2))
      | lt =>
        refine W.eq (g2 := F0 mid pc lsR (.int (Int32.ofInt b) :: .int (Int32.ofInt a) :: r.map (zE ad))) rfl ?_
        by_cases hz : zC .lt a b = true
        · rw [if_pos hz] at h
          obtain ⟨h1, ht, rfl, rfl, rfl⟩ := zs_jp h
          have h1 : len = 3 := by simpa using h1
          subst h1
          have hz := of_decide_eq_true hz
          exact lv_icmp_lt hx hb hdg ht (fun _ => kk.same (I.stk hk2.2)) (fun h9 => absurd ((z_lt ha hb9).mpr hz) h9)
        · rw [if_neg hz] at h
          obtain ⟨h1, rfl, rfl, rfl, rfl⟩ := zNx_inv h
          have h1 : len = 3 := by simpa using h1
          subst h1
          have hz : ¬ _ := fun h9 => hz (decide_eq_true h9)
          exact zs_icmp_lt hx hb hdg (fun h9 => hz ((z_lt ha hb9).mp h9)) (kk.same (I.stk hk2.2))
      | ge =>
        refine W.eq (g2 := F0 mid pc lsR (.int (Int32.ofInt b) :: .int (Int32.ofInt a) :: r.map (zE ad))) rfl ?_
        by_cases hz : zC .ge a b = true
        · rw [if_pos hz] at h
          obtain ⟨h1, ht, rfl, rfl, rfl⟩ := zs_jp h
          have h1 : len = 3 := by simpa using h1
          subst h1
          have hz := of_decide_eq_true hz
          exact lv_icmp_ge hx hb hdg ht (fun _ => kk.same (I.stk hk2.2)) (fun h9 => absurd ((z_le hb9 ha).mpr hz) h9)
        · rw [if_neg hz] at h
          obtain ⟨h1, rfl, rfl, rfl, rfl⟩ := zNx_inv h
          have h1 : len = 3 := by simpa using h1
          subst h1
          have hz : ¬ _ := fun h9 => hz (decide_eq_true h9)
          exact zs_icmp_ge hx hb hdg (fun h9 => hz ((z_le hb9 ha).mp h9)) (kk.same (I.stk hk2.2))
      | gt =>
        refine W.eq (g2 := F0 mid pc lsR (.int (Int32.ofInt b) :: .int (Int32.ofInt a) :: r.map (zE ad))) rfl ?_
        by_cases hz : zC .gt a b = true
        · rw [if_pos hz] at h
          obtain ⟨h1, ht, rfl, rfl, rfl⟩ := zs_jp h
          have h1 : len = 3 := by simpa using h1
          subst h1
          have hz := of_decide_eq_true hz
          exact lv_icmp_gt hx hb hdg ht (fun _ => kk.same (I.stk hk2.2)) (fun h9 => absurd ((z_lt hb9 ha).mpr hz) h9)
        · rw [if_neg hz] at h
          obtain ⟨h1, rfl, rfl, rfl, rfl⟩ := zNx_inv h
          have h1 : len = 3 := by simpa using h1
          subst h1
          have hz : ¬ _ := fun h9 => hz (decide_eq_true h9)
          exact zs_icmp_gt hx hb hdg (fun h9 => hz ((z_lt hb9 ha).mp h9)) (kk.same (I.stk hk2.2))
      | le =>
        refine W.eq (g2 := F0 mid pc lsR (.int (Int32.ofInt b) :: .int (Int32.ofInt a) :: r.map (zE ad))) rfl ?_
        by_cases hz : zC .le a b = true
        · rw [if_pos hz] at h
          obtain ⟨h1, ht, rfl, rfl, rfl⟩ := zs_jp h
          have h1 : len = 3 := by simpa using h1
          subst h1
          have hz := of_decide_eq_true hz
          exact lv_icmp_le hx hb hdg ht (fun _ => kk.same (I.stk hk2.2)) (fun h9 => absurd ((z_le ha hb9).mpr hz) h9)
        · rw [if_neg hz] at h
          obtain ⟨h1, rfl, rfl, rfl, rfl⟩ := zNx_inv h
          have h1 : len = 3 := by simpa using h1
          subst h1
          have hz : ¬ _ := fun h9 => hz (decide_eq_true h9)
          exact zs_icmp_le hx hb hdg (fun h9 => hz ((z_le ha hb9).mp h9)) (kk.same (I.stk hk2.2))
    · cases h
  | goto off =>
    obtain ⟨h1, ht, rfl, rfl, rfl⟩ := zs_jp h
    have h1 : len = 3 := by simpa using h1
    subst h1
    exact lv_goto hx hb hdg ht (kk.same I)
  | tableswitch dd lo hi offs =>
    simp only [zEx] at h
    split at h
    · next a r =>
      have hk := List.forall_mem_cons.mp I.2.2.2.1
      have ha : zR a := hk.1
      split at h
      · next ho =>
        obtain ⟨-, ht, rfl, rfl, rfl⟩ := zs_jp h
        exact lv_tableOut hx hb hdg (by rw [z_of ha]; exact ho) ht (kk.same (I.stk hk.2))
      · next ho =>
        split at h
        · next off hof =>
          obtain ⟨-, ht, rfl, rfl, rfl⟩ := zs_jp h
          exact lv_tableIn hx hb hdg (by rw [z_of ha]; omega) (by rw [z_of ha]; omega) (by rw [z_of ha]; exact hof) ht (kk.same (I.stk hk.2))
        · cases h
    · cases h
  | getfield k =>
    exact zs_getF F E hdg h I kk
  | putfield k =>
    exact zs_putF F E hdg h I kk
  | getstatic k =>
    simp only [zEx] at h
    split at h
    · next a ha =>
      obtain ⟨h1, rfl, rfl, rfl, rfl⟩ := zNx_inv h
      have h1 : len = 3 := by simpa using h1
      subst h1
      exact zs_getS F E hdg ha I kk
    · cases h
  | iaload =>
    exact zs_iald F E hdg h I kk
  | baload =>
    exact zs_bald F E hdg h I kk
  | aaload =>
    exact zs_aald F E hdg h I kk
  | iastore =>
    exact zs_iast F E hdg h I kk
  | bastore =>
    exact zs_bast F E hdg h I kk
  | aastore =>
    exact zs_aast F E hdg h I kk
  | arraylength =>
    exact zs_alen F E hdg h I kk
  | new k =>
    exact zs_newO F E hdg h I hc hs kk
  | newarray t =>
    simp only [zEx] at h
    split at h
    · next ht =>
      subst ht
      exact zs_newI F E hdg h I hc hs kk
    · split at h
      · next ht =>
        subst ht
        exact zs_newZ F E hdg h I hc hs kk
      · cases h
  | anewarray k =>
    simp only [zEx] at h
    split at h
    · next hn => exact zs_newR (t0 := 2) F E hdg hn (Or.inl rfl) rfl E.2.2.2.1 h I hc hs kk
    · split at h
      · next hn => exact zs_newR (t0 := 3) F E hdg hn (Or.inr rfl) rfl E.2.2.2.2.1 h I hc hs kk
      · cases h
  | multianewarray k dd =>
    simp only [zEx] at h
    split at h
    · next hk => exact zs_newM F E hdg hk h I hc hs kk
    · cases h
  | invokevirtual k =>
    exact absurd h (zCallV_ne (pc := pc))
  | invokestatic k =>
    simp only [zEx] at h
    split at h
    · next a ha =>
      obtain ⟨w1, wa⟩ := zMth_ok ha
      unfold zMathS at h
      have hml : c.maxLocals = lsR.size := by rw [F.2.2.1]; exact I.2.1.1.symm
      split at h
      · next b a r =>
        obtain ⟨h1, rfl, rfl, rfl, rfl⟩ := zNx_inv h
        simp only [Bool.and_eq_true, beq_iff_eq, decide_eq_true_eq] at h1
        obtain ⟨rfl, hr⟩ := h1
        have hk := List.forall_mem_cons.mp I.2.2.2.1
        have hk2 := List.forall_mem_cons.mp hk.2
        have hb9 : zR b := hk.1
        have ha9 : zR a := hk2.1
        have h9 := kk.same (I.stk (zOk_cons (v := iV (if a < b then b else a)) (by show zR _; split <;> assumption) hk2.2))
        refine va_mmax hx hb hml F.2.2.2.1 (F.2.2.2.2.1 _ w1) (F.2.2.2.2.1 _ zMs0) (F.2.2.2.2.1 _ zIn13) (F.2.2.2.2.1 _ zMc0) (Nat.le_trans (by omega) F.2.2.2.2.2.2.2.2.1) (by rw [zCs_sum]; have := F.2.2.2.2.2.2.2.2.2; omega) hc0 hs0 hdg ?_
        have e9 : (if Int32.ofInt a < Int32.ofInt b then Int32.ofInt b else Int32.ofInt a) = Int32.ofInt (if a < b then b else a) := by
          by_cases hab : a < b
          · rw [if_pos hab, if_pos ((z_lt ha9 hb9).mpr hab)]
          · rw [if_neg hab, if_neg (fun z => hab ((z_lt ha9 hb9).mp z))]
        rw [e9]
        exact h9
      · next b a r =>
        obtain ⟨h1, rfl, rfl, rfl, rfl⟩ := zNx_inv h
        simp only [Bool.and_eq_true, beq_iff_eq, decide_eq_true_eq] at h1
        obtain ⟨rfl, hr⟩ := h1
        have hk := List.forall_mem_cons.mp I.2.2.2.1
        have hk2 := List.forall_mem_cons.mp hk.2
        have hb9 : zR b := hk.1
        have ha9 : zR a := hk2.1
        have h9 := kk.same (I.stk (zOk_cons (v := iV (if b < a then b else a)) (by show zR _; split <;> assumption) hk2.2))
        refine va_mmin hx hb hml F.2.2.2.1 (F.2.2.2.2.1 _ w1) (F.2.2.2.2.1 _ zMs1) (F.2.2.2.2.1 _ zIn13) (F.2.2.2.2.1 _ zMc1) (Nat.le_trans (by omega) F.2.2.2.2.2.2.2.2.1) (by rw [zCs_sum]; have := F.2.2.2.2.2.2.2.2.2; omega) hc0 hs0 hdg ?_
        have e9 : (if Int32.ofInt b < Int32.ofInt a then Int32.ofInt b else Int32.ofInt a) = Int32.ofInt (if b < a then b else a) := by
          by_cases hab : b < a
          · rw [if_pos hab, if_pos ((z_lt hb9 ha9).mpr hab)]
          · rw [if_neg hab, if_neg (fun z => hab ((z_lt hb9 ha9).mp z))]
        rw [e9]
        exact h9
      · next a r =>
        obtain ⟨h1, rfl, rfl, rfl, rfl⟩ := zNx_inv h
        simp only [Bool.and_eq_true, beq_iff_eq, decide_eq_true_eq] at h1
        obtain ⟨rfl, hr⟩ := h1
        have hk := List.forall_mem_cons.mp I.2.2.2.1
        have ha9 : zR a := hk.1
        have h9 := kk.same (I.stk (zOk_cons (v := iV (if 0 ≤ a then a else (0 - Int32.ofInt a).toInt)) (by show zR _; split; assumption; exact zR_of _) hk.2))
        refine va_mabs hx hb hml F.2.2.2.1 (F.2.2.2.2.1 _ w1) (F.2.2.2.2.1 _ zMs2) (F.2.2.2.2.1 _ zIn13) (F.2.2.2.2.1 _ zMc2) (Nat.le_trans (by omega) F.2.2.2.2.2.2.2.2.1) (by rw [zCs_sum]; have := F.2.2.2.2.2.2.2.2.2; omega) hc0 hs0 hdg ?_
        have e9 : (if 0 ≤ Int32.ofInt a then Int32.ofInt a else 0 - Int32.ofInt a) = Int32.ofInt (if 0 ≤ a then a else (0 - Int32.ofInt a).toInt) := by
          by_cases hab : 0 ≤ a
          · rw [if_pos hab, if_pos ((z_0le ha9).mpr hab)]
          · rw [if_neg hab, if_neg (fun z => hab ((z_0le ha9).mp z)), z_re]
        rw [e9]
        exact h9
      · cases h
    · exact absurd h (zCallS_ne (pc := pc))
  | invokespecial k =>
    simp only [zEx] at h
    unfold zCallI at h
    split at h
    · next a r =>
      split at h
      · next ho =>
        obtain ⟨h1, rfl, rfl, rfl, rfl⟩ := zNx_inv h
        simp only [Bool.and_eq_true, beq_iff_eq, decide_eq_true_eq] at h1
        obtain ⟨rfl, hr⟩ := h1
        have hk := List.forall_mem_cons.mp I.2.2.2.1
        refine W.objInit hx hb F.2.2.2.1 (F.2.2.2.2.1 _ (zObj_ok ho)) (F.2.2.2.2.1 _ zObj_i) (F.2.2.2.2.1 _ zObj_c) rfl (by rw [F.2.2.1]; exact I.2.1.1) rfl hdg (Nat.le_trans (by omega) F.2.2.2.2.2.2.2.2.1) ?_ (kk.same (I.stk hk.2))
        have h8 := lv_room (m := mid) (pc := pc) (ls := lsR) (rest := []) (st := r.map (zE ad)) (by rw [zCs_sum]; exact hr)
        have h7 := F.2.2.2.2.2.2.2.2.2
        exact Nat.le_trans (Nat.add_le_add_right h8 12) (by omega)
      · split at h
        · split at h
          · cases h
          · cases h
        · cases h
    · cases h
  | ireturn =>
    exact absurd h zRet_ne
  | lreturn =>
    simp only [zEx] at h
    split at h
    · split at h
      · cases h
      · cases h
    · cases h
  | return_ =>
    simp only [zEx] at h
    split at h
    · split at h
      · cases h
      · cases h
    · cases h
  | areturn =>
    simp only [zEx] at h
    split at h
    · split at h
      · cases h
      · cases h
    · cases h
  | _ => simp [zEx] at h
end ZO
