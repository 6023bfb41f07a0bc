/-! new int[n][k]: an array of n references, and n arrays of k ints behind it -/
section ZMN
variable {p : Program} {l : Launch} {e : Env} {R : Room} {s : State} {mid : MethodId} {args : Array Value} {below : List Frame} {meth : Method} {c : Code} {H : Heap} {locs : List Loc} {cells slots : Nat} {Q : State → Prop} {D : va_G} {cA : Nat → ClassId} {ad : Nat → Nat} {base : Nat}
variable {m : zD} {d pc pc' len : Nat} {ls ls' st st' : List zV} {q q' : zS} {lsR : Array Slot}
theorem zOut (cc : ClassId) (N h0 : Nat) : ∀ i : Nat, Jvm.Free.Multi.outerC cc N h0 i = arrV cc N (fun j => if j < i then .ref (h0 + 1 + j) else .null)
  | 0 => by
    show ({ cls := cc, slots := Array.replicate N .null, vm := .none } : Cell) = _
    rw [arrV_new]
    congr 1
  | i + 1 => by
    show (Jvm.Free.Multi.outerC cc N h0 i).setSlot i (.ref (h0 + 1 + i)) = _
    rw [zOut cc N h0 i, arrV_store]
    congr 1
    funext j
    simp only [updV]
    by_cases e : j = i
    · rw [if_pos e, if_pos (by omega), e]
    · rw [if_neg e]
      by_cases h : j < i
      · rw [if_pos h, if_pos (Nat.lt_succ_of_lt h)]
      · rw [if_neg h, if_neg (by omega)]
set_option maxHeartbeats 4000000 in
theorem zs_newM {k dd : Nat} (F : zFx p R s mid args meth c m d) (E : zEnv D cA ad base s) (hdg : decode m.2.2.1 pc = .ok (.multianewarray k dd, len)) (hk6 : (m.1 = 6 ∨ m.1 = 7) ∧ k = 9 ∧ dd = 2) (h : zNewM pc len ls st q = some (.inl (pc', ls', st', q'))) (I : zIn D cA ad base s m ls st q H locs lsR) (hc : cells + (q'.1.length - q.1.length) ≤ R.cells) (hs : slots + (zSz q' - zSz q) ≤ R.slots)
    (kk : zGoal p l e R s mid args below meth c D cA ad base m cells slots Q q pc' ls' st' q') : W p l e R s mid args below meth c H locs cells slots Q (F0 mid pc lsR (st.map (zE ad))) := by
  obtain ⟨h67, rfl, rfl⟩ := hk6
  unfold zNewM at h
  split at h
  · next k n r =>
    obtain ⟨h1, rfl, rfl, rfl, rfl⟩ := zNx_inv h
    simp only [Bool.and_eq_true, beq_iff_eq, decide_eq_true_eq] at h1
    obtain ⟨⟨⟨⟨rfl, hn0⟩, hn1⟩, hk0⟩, hk1⟩ := h1
    have hkk := List.forall_mem_cons.mp I.2.2.2.1
    have hkk2 := List.forall_mem_cons.mp hkk.2
    have hkR : zR k := hkk.1
    have hnR : zR n := hkk2.1
    have hlen : (q.1 ++ List.replicate 1 (24, n.toNat) ++ List.replicate n.toNat (20, k.toNat)).length - q.1.length = 1 + n.toNat := by
      simp only [List.length_append, List.length_replicate]; omega
    have hsz : ((q.1 ++ List.replicate 1 (24, n.toNat) ++ List.replicate n.toNat (20, k.toNat)).map Prod.snd).sum - (q.1.map Prod.snd).sum = n.toNat + n.toNat * k.toNat := by
      simp
    have hc' : cells + (1 + n.toNat) ≤ R.cells := by rw [← hlen]; exact hc
    have hs' : slots + (n.toNat + n.toNat * k.toNat) ≤ R.slots := by rw [← hsz]; exact hs
    have hcl : (Cond.classLink (zCn m.1) 9 ("[" ++ (FieldType.array .int).toString)).before args s = true := by
      have e9 : "[" ++ (FieldType.array .int).toString = "[[I" := by decide +kernel
      rw [e9]
      rcases h67 with e | e
      · rw [e]; exact F.2.2.2.2.1 _ zM6
      · rw [e]; exact F.2.2.2.2.1 _ zM7
    have had := zRel_ad I.1 E.1
    intro T hT Xs
    obtain ⟨vm₁, cA', comp, -, fA, fC, -, -, X', step⟩ := Xs.multianewarray2F (ty := .int) (n := Int32.ofInt n) (k := Int32.ofInt k) F.1 F.2.2.2.1 hcl E.2.2.2.2.2.1 (F.2.2.2.2.1 _ zAi) (g := F0 mid pc lsR (.int (Int32.ofInt k) :: .int (Int32.ofInt n) :: r.map (zE ad))) rfl (by rw [F.2.1]; exact hdg) rfl (by rw [z_lt0 hnR]; omega) (by rw [z_lt0 hkR]; omega) (by rw [z_cl hnR]; omega) (by rw [z_cl hkR]; show k.toNat * 4 ≤ _; omega) (by rw [z_cl hkR]; omega) rfl rfl (by rw [z_cl hnR]; exact hc') (by rw [z_cl hnR, z_cl hkR]; exact hs')
    rw [z_cl hnR, z_cl hkR] at X' step
    have hcA : cA' = cA 24 := Option.some.inj (fA.symm.trans (E.2.1.2 4 _ rfl).2)
    have hcp : comp = cA 20 := Option.some.inj (fC.symm.trans (E.2.1.2 0 _ rfl).2)
    subst hcA
    subst hcp
    generalize hFF : Jvm.Free.Multi.fill (T.setVm vm₁) (cA 24) (cA 20) n.toNat k.toNat (defaultValue .int) n.toNat = FF at X' step
    have hTh : (T.setVm vm₁).heap = H := hT
    obtain ⟨f1, f2, -, -⟩ := Jvm.Free.Multi.fill_facts (T.setVm vm₁) (cA 24) (cA 20) n.toNat k.toNat (defaultValue .int) n.toNat
    rw [hFF, hTh] at f1 f2
    have hold : ∀ x : Nat, x < H.size → FF.heap[x]? = H[x]? := fun x hx => by
      have := Jvm.Free.Multi.fill_old (T.setVm vm₁) (cA 24) (cA 20) n.toNat k.toNat (defaultValue .int) (a := x) (by rw [hTh]; exact hx) n.toNat
      rw [hFF, hTh] at this
      exact this
    have hrow : ∀ j : Nat, j < n.toNat → FF.heap[H.size + 1 + j]? = some (arrV (cA 20) k.toNat (fun _ => .int 0)) := fun j hj => by
      have := Jvm.Free.Multi.fill_inner (T.setVm vm₁) (cA 24) (cA 20) n.toNat k.toNat (defaultValue .int) n.toNat j hj
      rw [hFF, hTh] at this
      rw [this]
      exact congrArg some (arrV_new _ _ _)
    rw [zOut] at f2
    have hszH := I.1.1
    have hR : zRel D cA ad base (q.1 ++ List.replicate 1 (24, n.toNat) ++ List.replicate n.toNat (20, k.toNat), (fun a j => if a = q.1.length ∧ j < n.toNat then ((q.1.length + 1 + j : Nat) : Int) else zZ (zZ q.2.1 1 q.1.length (-1)) n.toNat (q.1 ++ List.replicate 1 (24, n.toNat)).length (-1) a j), zZ (zZ q.2.2 1 q.1.length 0) n.toNat (q.1 ++ List.replicate 1 (24, n.toNat)).length 0) s FF.heap := by
      rw [List.append_assoc]
      refine zRel_ext (t := List.replicate 1 (24, n.toNat) ++ List.replicate n.toNat (20, k.toNat)) I.1 E.1 (by rw [f1]; simp only [List.length_append, List.length_replicate]; omega) hold (fun a j ha => ?_) (fun a j ha => ?_) (zR_zZ (zR_zZ I.1.2.2.2.2.2)) (fun i e he => ?_)
      · show (if a = q.1.length ∧ j < n.toNat then _ else _) = _
        rw [if_neg (by omega), zZ_out (by simp only [List.length_append, List.length_replicate]; omega), zZ_out ha]
      · rw [zZ_out (by simp only [List.length_append, List.length_replicate]; omega), zZ_out ha]
      · by_cases hi : i = 0
        · subst hi
          have he' : (24, n.toNat) = e := by simpa using he
          subst he'
          refine ⟨fun z => absurd z (by simp only; omega), fun _ _ => ?_⟩
          rw [Nat.add_zero, had, f2]
          congr 2
          funext j
          simp only [zAv]
          rw [if_neg (show ¬ (24 = 20 ∨ 24 = 21) by omega)]
          by_cases hj : j < n.toNat
          · rw [if_pos hj, if_pos ⟨trivial, hj⟩, zRf, if_neg (by omega)]
            rw [show ((q.1.length + 1 + j : Nat) : Int).toNat = q.1.length + 1 + j by omega, E.1.1 _ (by have := I.1.2.1; omega)]
            have h4 := I.1.2.1
            rw [show H.size + 1 + j = base + (q.1.length + 1 + j - 4) by omega]
          · rw [if_neg hj, if_neg (fun z => hj z.2), zZ_out (by simp only [List.length_append, List.length_replicate]; omega), zZ_in ⟨Nat.le_refl _, by omega⟩]
            rfl
        · have hi1 : 1 ≤ i := by omega
          have he2 : (List.replicate n.toNat (20, k.toNat))[i - 1]? = some e := by
            rw [List.getElem?_append_right (by simpa using hi1)] at he
            simpa using he
          have hlt : i - 1 < n.toNat := by have := (List.getElem?_eq_some_iff.mp he2).1; simpa using this
          have he' : (20, k.toNat) = e := by
            have := List.mem_of_getElem? he2
            exact (List.mem_replicate.mp this).2.symm
          subst he'
          refine ⟨fun z => absurd z (by simp only; omega), fun _ _ => ?_⟩
          have hade : ad (q.1.length + i) = H.size + 1 + (i - 1) := by
            rw [E.1.1 _ (by have := I.1.2.1; omega)]
            have := I.1.2.1
            omega
          rw [hade, hrow _ hlt]
          congr 2
          funext j
          simp only [zAv]
          rw [if_pos (Or.inl trivial), zZ_in ⟨by simp only [List.length_append, List.length_replicate]; omega, by simp only [List.length_append, List.length_replicate]; omega⟩]
          decide +kernel
    have K0 := kk FF.heap locs lsR ⟨hR, I.2.1, I.2.2.1, zOk_cons trivial hkk2.2, va_S.mk I.2.2.2.2 E.2.2.2.2.2.2.2 (by rw [f1]; omega) hold⟩
    have e1 : cells + 1 + n.toNat = cells + ((q.1 ++ List.replicate 1 (24, n.toNat) ++ List.replicate n.toNat (20, k.toNat)).length - q.1.length) := by rw [hlen]; omega
    have e2 : slots + n.toNat + n.toNat * k.toNat = slots + (((q.1 ++ List.replicate 1 (24, n.toNat) ++ List.replicate n.toNat (20, k.toNat)).map Prod.snd).sum - (q.1.map Prod.snd).sum) := by rw [hsz]; omega
    rw [e1, e2] at X'
    obtain ⟨t, a1, b1⟩ := K0 FF rfl X'
    refine ⟨t, step t ?_, b1⟩
    have e : T.heap.size = ad q.1.length := by rw [hT, had]
    rw [e]
    exact a1
  · cases h
end ZMN
