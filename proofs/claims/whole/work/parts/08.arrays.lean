/-! arrays -/
section ZA
variable {p : Program} {l : Launch} {e : Env} {R : Room} {s : State} {mid : MethodId} {args : Array Value} {below : List Frame} {meth : Method} {c : Code} {H : Heap} {locs : List Loc} {cells slots : Nat} {Q : State → Prop} {D : va_G} {cA : Nat → ClassId} {ad : Nat → Nat} {base : Nat}
variable {m : zD} {d pc pc' len : Nat} {ls ls' st st' : List zV} {q q' : zS} {lsR : Array Slot}
theorem z_ofNat {n : Nat} (h : n < 100000) : n.toInt32 = Int32.ofInt (n : Int) := by
  rw [← Int32.toInt_inj, z_of (zR_nat h)]
  exact nI_toInt (by omega)
theorem zs_arr {a k n : Nat} (hR : zRel D cA ad base q s H) (h : q.1[a]? = some (k, n)) (hk : 21 ≤ k ∧ k ≤ 24 ∨ k = 20 ∧ 4 ≤ a) : 4 ≤ a ∧ H[ad a]? = some (arrV (cA k) n (fun j => zAv ad q.2.1 q.2.2 a k j)) := by
  have h4 : 4 ≤ a := by
    rcases hk with hk | hk
    · rcases Nat.lt_or_ge a 4 with q4 | q4
      · rcases hR.2.2.2.2.1 a _ q4 h with z | z
        · exact absurd z (by simp only; omega)
        · exact absurd z (by simp only; omega)
      · exact q4
    · exact hk.2
  exact ⟨h4, (hR.2.2.1 a _ h4 h).2 (by simp only; omega) (by simp only; omega)⟩
theorem zs_iald (F : zFx p R s mid args meth c m d) (E : zEnv D cA ad base s) (hdg : decode m.2.2.1 pc = .ok (.iaload, len)) (h : zALd pc len 20 ls st q = some (.inl (pc', ls', st', q'))) (I : zIn D cA ad base s m ls st q H locs lsR)
    (kk : zGoal p l e R s mid args below meth c D cA ad base m cells slots Q q pc' ls' st' q') : W p l e R s mid args below meth c H locs cells slots Q (F0 mid pc lsR (st.map (zE ad))) := by
  unfold zALd at h
  split at h
  · next i a r =>
    split at h
    · next k n hq =>
      split at h
      · next hc =>
        obtain ⟨rfl, h0, hn⟩ := hc
        obtain ⟨h1, rfl, rfl, rfl, rfl⟩ := zNx_inv h
        have h1 : len = 1 := by simpa using h1
        subst h1
        have hk := List.forall_mem_cons.mp I.2.2.2.1
        have hk2 := List.forall_mem_cons.mp hk.2
        have hi : zR i := hk.1
        have K0 := kk.same (I.stk (zOk_cons (v := iV (q.2.2 a i.toNat)) (I.1.2.2.2.2.2 a i.toNat) hk2.2))
        have hin : i.toNat < n := by omega
        rcases Nat.lt_or_ge a 4 with h4 | h4
        · obtain ⟨scr, g1, g2, g3, g4, -, g5⟩ := I.1.2.2.2.1 a n h4 hq
          exact W.iald (v := .int (Int32.ofInt (q.2.2 a i.toNat))) F.1 F.2.1 g1 g2 g3 (z_in hi h0 (by omega)) (by rw [z_cl hi]; exact g5 _ hin) rfl rfl hdg K0
        · obtain ⟨-, hH⟩ := zs_arr I.1 hq (Or.inr ⟨rfl, h4⟩)
          exact W.iald (v := .int (Int32.ofInt (q.2.2 a i.toNat))) F.1 F.2.1 hH ((E.2.1.2 0 _ rfl).1 _ _) (fun e9 => by cases e9) (by rw [arrV_size]; exact z_in hi h0 hn) (by rw [z_cl hi, arrV_read _ _ hin]; rfl) rfl rfl hdg K0
      · cases h
    · cases h
  · cases h
theorem zs_bald (F : zFx p R s mid args meth c m d) (E : zEnv D cA ad base s) (hdg : decode m.2.2.1 pc = .ok (.baload, len)) (h : zALd pc len 21 ls st q = some (.inl (pc', ls', st', q'))) (I : zIn D cA ad base s m ls st q H locs lsR)
    (kk : zGoal p l e R s mid args below meth c D cA ad base m cells slots Q q pc' ls' st' q') : W p l e R s mid args below meth c H locs cells slots Q (F0 mid pc lsR (st.map (zE ad))) := by
  unfold zALd at h
  split at h
  · next i a r =>
    split at h
    · next k n hq =>
      split at h
      · next hc =>
        obtain ⟨rfl, h0, hn⟩ := hc
        obtain ⟨h1, rfl, rfl, rfl, rfl⟩ := zNx_inv h
        have h1 : len = 1 := by simpa using h1
        subst h1
        have hk := List.forall_mem_cons.mp I.2.2.2.1
        have hk2 := List.forall_mem_cons.mp hk.2
        have hi : zR i := hk.1
        have K0 := kk.same (I.stk (zOk_cons (v := iV (q.2.2 a i.toNat)) (I.1.2.2.2.2.2 a i.toNat) hk2.2))
        have hin : i.toNat < n := by omega
        obtain ⟨-, hH⟩ := zs_arr I.1 hq (Or.inl ⟨by omega, by omega⟩)
        exact W.zald (v := .int (Int32.ofInt (q.2.2 a i.toNat))) F.1 F.2.1 hH ((E.2.1.2 1 _ rfl).1 _ _) (fun e9 => by cases e9) (by rw [arrV_size]; exact z_in hi h0 hn) (by rw [z_cl hi, arrV_read _ _ hin]; rfl) rfl rfl hdg K0
      · cases h
    · cases h
  · cases h
theorem zs_aald (F : zFx p R s mid args meth c m d) (E : zEnv D cA ad base s) (hdg : decode m.2.2.1 pc = .ok (.aaload, len)) (h : zRLd pc len ls st q = some (.inl (pc', ls', st', q'))) (I : zIn D cA ad base s m ls st q H locs lsR)
    (kk : zGoal p l e R s mid args below meth c D cA ad base m cells slots Q q pc' ls' st' q') : W p l e R s mid args below meth c H locs cells slots Q (F0 mid pc lsR (st.map (zE ad))) := by
  unfold zRLd at h
  split at h
  · next i a r =>
    split at h
    · next k n hq =>
      split at h
      · next hc =>
        obtain ⟨hkd, h0, hn, hp⟩ := hc
        obtain ⟨h1, rfl, rfl, rfl, rfl⟩ := zNx_inv h
        have h1 : len = 1 := by simpa using h1
        subst h1
        have hk := List.forall_mem_cons.mp I.2.2.2.1
        have hk2 := List.forall_mem_cons.mp hk.2
        have hi : zR i := hk.1
        have K0 := kk.same (I.stk (zOk_cons (v := rV (q.2.1 a i.toNat).toNat) trivial hk2.2))
        have hin : i.toNat < n := by omega
        obtain ⟨-, hH⟩ := zs_arr I.1 hq (Or.inl ⟨by omega, by omega⟩)
        have hv : zAv ad q.2.1 q.2.2 a k i.toNat = .ref (ad (q.2.1 a i.toNat).toNat) := by
          unfold zAv zRf
          rw [if_neg (by omega), if_neg (by omega)]
        rcases hkd with rfl | rfl | rfl
        · exact W.aald (ty := .object "StopPress$Text") (v := .ref (ad (q.2.1 a i.toNat).toNat)) F.1 F.2.1 hH ((E.2.1.2 2 _ rfl).1 _ _) rfl (fun e9 => by cases e9) (by rw [arrV_size]; exact z_in hi h0 hn) (by rw [z_cl hi, arrV_read _ _ hin, hv]) rfl rfl hdg K0
        · exact W.aald (ty := .object "StopPress$Alignment") (v := .ref (ad (q.2.1 a i.toNat).toNat)) F.1 F.2.1 hH ((E.2.1.2 3 _ rfl).1 _ _) rfl (fun e9 => by cases e9) (by rw [arrV_size]; exact z_in hi h0 hn) (by rw [z_cl hi, arrV_read _ _ hin, hv]) rfl rfl hdg K0
        · exact W.aald (ty := .array .int) (v := .ref (ad (q.2.1 a i.toNat).toNat)) F.1 F.2.1 hH ((E.2.1.2 4 _ rfl).1 _ _) rfl (fun e9 => by cases e9) (by rw [arrV_size]; exact z_in hi h0 hn) (by rw [z_cl hi, arrV_read _ _ hin, hv]) rfl rfl hdg K0
      · cases h
    · cases h
  · cases h
theorem zs_alen (F : zFx p R s mid args meth c m d) (E : zEnv D cA ad base s) (hdg : decode m.2.2.1 pc = .ok (.arraylength, len)) (h : zALen pc len ls st q = some (.inl (pc', ls', st', q'))) (I : zIn D cA ad base s m ls st q H locs lsR)
    (kk : zGoal p l e R s mid args below meth c D cA ad base m cells slots Q q pc' ls' st' q') : W p l e R s mid args below meth c H locs cells slots Q (F0 mid pc lsR (st.map (zE ad))) := by
  unfold zALen at h
  split at h
  · next a r =>
    split at h
    · next k n hq =>
      split at h
      · next hc =>
        obtain ⟨hkd, hn⟩ := hc
        obtain ⟨h1, rfl, rfl, rfl, rfl⟩ := zNx_inv h
        have h1 : len = 1 := by simpa using h1
        subst h1
        have hk := List.forall_mem_cons.mp I.2.2.2.1
        have K0 := kk.same (I.stk (zOk_cons (v := iV n) (zR_nat hn) hk.2))
        rcases Nat.lt_or_ge a 4 with h4 | h4
        · have hk20 : k = 20 := by rcases I.1.2.2.2.2.1 a _ h4 hq with z | z <;> simp only at z <;> omega
          subst hk20
          obtain ⟨scr, g1, g2, g3, g4, g6, g5⟩ := I.1.2.2.2.1 a n h4 hq
          exact W.alen (n := Int32.ofInt n) F.1 F.2.1 g1 g2 (g6.trans (z_ofNat hn)) rfl rfl hdg K0
        · obtain ⟨-, hH⟩ := zs_arr I.1 hq (by omega)
          have hs : ∀ f : Nat → Value, (arrV (cA k) n f).slots.size.toInt32 = Int32.ofInt n := fun f => by rw [arrV_size]; exact z_ofNat hn
          rcases hkd with rfl | rfl | rfl | rfl | rfl
          · exact W.alen (n := Int32.ofInt n) F.1 F.2.1 hH ((E.2.1.2 0 _ rfl).1 _ _) (hs _) rfl rfl hdg K0
          · exact W.alen (n := Int32.ofInt n) F.1 F.2.1 hH ((E.2.1.2 1 _ rfl).1 _ _) (hs _) rfl rfl hdg K0
          · exact W.alen (n := Int32.ofInt n) F.1 F.2.1 hH ((E.2.1.2 2 _ rfl).1 _ _) (hs _) rfl rfl hdg K0
          · exact W.alen (n := Int32.ofInt n) F.1 F.2.1 hH ((E.2.1.2 3 _ rfl).1 _ _) (hs _) rfl rfl hdg K0
          · exact W.alen (n := Int32.ofInt n) F.1 F.2.1 hH ((E.2.1.2 4 _ rfl).1 _ _) (hs _) rfl rfl hdg K0
      · cases h
    · cases h
  · cases h
/-- an array of numbers is written -/
theorem zRel_ast {H' : Heap} {a k n i : Nat} {x : Int} (hR : zRel D cA ad base q s H) (hA : zAdr ad base) (h4 : 4 ≤ a) (hq : q.1[a]? = some (k, n)) (hkk : k = 20 ∨ k = 21) (hx : zR x) (hz : H'.size = H.size) (ho : ∀ y, y ≠ ad a → H'[y]? = H[y]?)
    (hH : H'[ad a]? = some (arrV (cA k) n (updV (fun j => zAv ad q.2.1 q.2.2 a k j) i (.int (Int32.ofInt x))))) : zRel D cA ad base (q.1, q.2.1, zU q.2.2 a i x) s H' := by
  refine zRel_upd (q' := (q.1, q.2.1, zU q.2.2 a i x)) hR hA h4 rfl hz ho (fun _ _ _ => rfl) (fun b j hb => zU_na hb) (zR_zU hR.2.2.2.2.2 hx) (fun e9 he9 => ?_)
  rw [hq] at he9
  cases he9
  refine ⟨fun z => absurd z (by simp only; omega), fun _ _ => ?_⟩
  rw [hH]
  congr 2
  funext j
  simp only [updV, zAv, if_pos hkk]
  by_cases hj : j = i
  · rw [if_pos hj, hj, zU_eq]
  · rw [if_neg hj, zU_nk hj]
theorem zs_iast (F : zFx p R s mid args meth c m d) (E : zEnv D cA ad base s) (hdg : decode m.2.2.1 pc = .ok (.iastore, len)) (h : zASt pc len 20 ls st q = some (.inl (pc', ls', st', q'))) (I : zIn D cA ad base s m ls st q H locs lsR)
    (kk : zGoal p l e R s mid args below meth c D cA ad base m cells slots Q q pc' ls' st' q') : W p l e R s mid args below meth c H locs cells slots Q (F0 mid pc lsR (st.map (zE ad))) := by
  unfold zASt at h
  split at h
  · next x i a r =>
    split at h
    · next k n hq =>
      split at h
      · next hc =>
        obtain ⟨rfl, h4, h0, hn, -⟩ := hc
        obtain ⟨h1, rfl, rfl, rfl, rfl⟩ := zNx_inv h
        have h1 : len = 1 := by simpa using h1
        subst h1
        have hk := List.forall_mem_cons.mp I.2.2.2.1
        have hk2 := List.forall_mem_cons.mp hk.2
        have hk3 := List.forall_mem_cons.mp hk2.2
        have hi : zR i := hk2.1
        obtain ⟨-, hH⟩ := zs_arr I.1 hq (Or.inr ⟨rfl, h4⟩)
        refine W.iast F.1 F.2.1 hH ((E.2.1.2 0 _ rfl).1 _ _) (fun e9 => by cases e9) (by rw [arrV_size]; exact z_in hi h0 hn) rfl rfl hdg fun H' e1 e2 e3 => ?_
        rw [arrV_store, z_cl hi] at e1
        have h9 := kk H' (locs ++ [⟨ad a, (Int32.ofInt i).toNatClampNeg⟩]) lsR ⟨zRel_ast I.1 E.1 h4 hq (Or.inl rfl) hk.1 e2 e3 e1, I.2.1, I.2.2.1, hk3.2, I.2.2.2.2.put e2 e3 (E.1.lt h4)⟩
        rw [Nat.sub_self, show zSz (q.1, q.2.1, zU q.2.2 a i.toNat x) - zSz q = 0 from Nat.sub_self _, Nat.add_zero, Nat.add_zero] at h9
        exact h9
      · cases h
    · cases h
  · cases h
theorem zs_bast (F : zFx p R s mid args meth c m d) (E : zEnv D cA ad base s) (hdg : decode m.2.2.1 pc = .ok (.bastore, len)) (h : zASt pc len 21 ls st q = some (.inl (pc', ls', st', q'))) (I : zIn D cA ad base s m ls st q H locs lsR)
    (kk : zGoal p l e R s mid args below meth c D cA ad base m cells slots Q q pc' ls' st' q') : W p l e R s mid args below meth c H locs cells slots Q (F0 mid pc lsR (st.map (zE ad))) := by
  unfold zASt at h
  split at h
  · next x i a r =>
    split at h
    · next k n hq =>
      split at h
      · next hc =>
        obtain ⟨rfl, h4, h0, hn, hx⟩ := hc
        obtain ⟨h1, rfl, rfl, rfl, rfl⟩ := zNx_inv h
        have h1 : len = 1 := by simpa using h1
        subst h1
        have hk := List.forall_mem_cons.mp I.2.2.2.1
        have hk2 := List.forall_mem_cons.mp hk.2
        have hk3 := List.forall_mem_cons.mp hk2.2
        have hi : zR i := hk2.1
        obtain ⟨-, hH⟩ := zs_arr I.1 hq (Or.inl ⟨by omega, by omega⟩)
        refine W.zast F.1 F.2.1 hH ((E.2.1.2 1 _ rfl).1 _ _) (fun e9 => by cases e9) (by rw [arrV_size]; exact z_in hi h0 hn) rfl rfl hdg fun H' e1 e2 e3 => ?_
        have hnx : narrow .boolean (.int (Int32.ofInt x)) = .int (Int32.ofInt x) := by
          rcases hx with z | rfl | rfl
          · exact absurd z (by omega)
          · decide +kernel
          · decide +kernel
        rw [hnx, arrV_store, z_cl hi] at e1
        have h9 := kk H' (locs ++ [⟨ad a, (Int32.ofInt i).toNatClampNeg⟩]) lsR ⟨zRel_ast I.1 E.1 h4 hq (Or.inr rfl) hk.1 e2 e3 e1, I.2.1, I.2.2.1, hk3.2, I.2.2.2.2.put e2 e3 (E.1.lt h4)⟩
        rw [Nat.sub_self, show zSz (q.1, q.2.1, zU q.2.2 a i.toNat x) - zSz q = 0 from Nat.sub_self _, Nat.add_zero, Nat.add_zero] at h9
        exact h9
      · cases h
    · cases h
  · cases h
/-- a reference is put into an array of references -/
theorem zs_aast0 {i : Int} {a v k n C t0 : Nat} {rest : List zV} (F : zFx p R s mid args meth c m d) (E : zEnv D cA ad base s) (hdg : decode m.2.2.1 pc = .ok (.aastore, 1)) (hC : C < 11) (ht : (zTys cA)[t0]? = some (cA k, .object (zCn C))) (hkk : k = 22 ∨ k = 23) (hq : q.1[a]? = some (k, n)) (hqv : q.1[v]?.map Prod.fst = some C) (h4 : 4 ≤ a) (h0 : 0 ≤ i) (hn : i < n) (hi : zR i)
    (I : zIn D cA ad base s m ls (rV v :: iV i :: rV a :: rest) q H locs lsR) (kk : zGoal p l e R s mid args below meth c D cA ad base m cells slots Q q (pc + 1) ls rest (q.1, zU q.2.1 a i.toNat v, q.2.2)) : W p l e R s mid args below meth c H locs cells slots Q (F0 mid pc lsR (.ref (ad v) :: .int (Int32.ofInt i) :: .ref (ad a) :: rest.map (zE ad))) := by
  obtain ⟨-, hH⟩ := zs_arr I.1 hq (Or.inl ⟨by omega, by omega⟩)
  obtain ⟨sz, -, -, cellV, g1, g2, g3, -⟩ := zs_kind I.1 hqv hC
  have hcls := (E.2.1.1 C _ (zCls_at hC)).2
  obtain ⟨kA, comp, k1, k2, k3, -⟩ := (E.2.1.2 t0 _ ht).2
  have hcomp : comp = D.1 C := Option.some.inj (k3.symm.trans hcls.1)
  subst hcomp
  have hcls' := hcls
  obtain ⟨-, kC, hkC, -⟩ := hcls
  have hk := List.forall_mem_cons.mp I.2.2.2.1
  have hk2 := List.forall_mem_cons.mp hk.2
  have hk3 := List.forall_mem_cons.mp hk2.2
  refine W.aast F.1 F.2.1 hH (fun q h => by cases h) (fun h => by cases h) k1 k2 rfl hkC ⟨by rw [z_lt0 hi]; omega, by rw [arrV_size, z_cl hi]; omega⟩ g1 (fun q h => by rw [g3] at h; cases h) (by rw [g2]; exact hkC) (by rw [g2]; exact va_assign hcls') rfl rfl hdg fun H' e1 e2 e3 => ?_
  rw [arrV_store, z_cl hi] at e1
  have hRel : zRel D cA ad base (q.1, zU q.2.1 a i.toNat v, q.2.2) s H' := by
    refine zRel_upd (q' := (q.1, zU q.2.1 a i.toNat v, q.2.2)) I.1 E.1 h4 rfl e2 e3 (fun b j hb => zU_na hb) (fun _ _ _ => rfl) I.1.2.2.2.2.2 (fun e9 he9 => ?_)
    rw [hq] at he9
    cases he9
    refine ⟨fun z => absurd z (by simp only; omega), fun _ _ => ?_⟩
    rw [e1]
    congr 2
    funext j
    have hk' : ¬ (k = 20 ∨ k = 21) := by omega
    simp only [updV, zAv, if_neg hk']
    by_cases hj : j = i.toNat
    · rw [if_pos hj, hj, zU_eq, zRf, if_neg (by omega)]
      rfl
    · rw [if_neg hj, zU_nk hj]
  have h9 := kk H' (locs ++ [⟨ad a, (Int32.ofInt i).toNatClampNeg⟩]) lsR ⟨hRel, I.2.1, I.2.2.1, hk3.2, I.2.2.2.2.put e2 e3 (E.1.lt h4)⟩
  rw [Nat.sub_self, show zSz (q.1, zU q.2.1 a i.toNat v, q.2.2) - zSz q = 0 from Nat.sub_self _, Nat.add_zero, Nat.add_zero] at h9
  exact h9
theorem zs_aast (F : zFx p R s mid args meth c m d) (E : zEnv D cA ad base s) (hdg : decode m.2.2.1 pc = .ok (.aastore, len)) (h : zRSt pc len ls st q = some (.inl (pc', ls', st', q'))) (I : zIn D cA ad base s m ls st q H locs lsR)
    (kk : zGoal p l e R s mid args below meth c D cA ad base m cells slots Q q pc' ls' st' q') : W p l e R s mid args below meth c H locs cells slots Q (F0 mid pc lsR (st.map (zE ad))) := by
  unfold zRSt at h
  split at h
  · next v i a r =>
    split at h
    · next k n hq =>
      split at h
      · next hc =>
        obtain ⟨hkv, h4, h0, hn⟩ := hc
        obtain ⟨h1, rfl, rfl, rfl, rfl⟩ := zNx_inv h
        have h1 : len = 1 := by simpa using h1
        subst h1
        have hk := List.forall_mem_cons.mp I.2.2.2.1
        have hk2 := List.forall_mem_cons.mp hk.2
        rcases hkv with ⟨rfl, hv⟩ | ⟨rfl, hv⟩
        · exact zs_aast0 (C := 8) (t0 := 2) F E hdg (by decide) rfl (Or.inl rfl) hq hv h4 h0 hn hk2.1 I kk
        · exact zs_aast0 (C := 1) (t0 := 3) F E hdg (by decide) rfl (Or.inr rfl) hq hv h4 h0 hn hk2.1 I kk
      · cases h
    · cases h
  · cases h
theorem zs_getS {idx a : Nat} (F : zFx p R s mid args meth c m d) (E : zEnv D cA ad base s) (hdg : decode m.2.2.1 pc = .ok (.getstatic idx, 3)) (h : zStat m.1 idx = some a) (I : zIn D cA ad base s m ls st q H locs lsR)
    (kk : zGoal p l e R s mid args below meth c D cA ad base m cells slots Q q (pc + 3) ls (rV a :: st) q) : W p l e R s mid args below meth c H locs cells slots Q (F0 mid pc lsR (st.map (zE ad))) := by
  obtain ⟨h1, h2⟩ := zStat_ok h
  have K0 := kk.same (I.stk (zOk_cons (v := rV a) trivial I.2.2.2.1))
  exact va_getsN F.1 F.2.1 (E.2.2.2.2.2.2.1 a h2) I.2.2.2.2 F.2.2.2.1 (va_Nw.use rfl (E.2.2.1 _ h1)) (fun x hx => hx) hdg K0
end ZA
