/-! a run of the small machine is a run of the machine -/
section ZW
variable {D : va_G} {cA : Nat → ClassId} {ad : Nat → Nat} {base : Nat}
theorem zRel.moved {q : zS} {u U : State} {H : Heap} (hvm : u.vm.Alike U.vm) (h : zRel D cA ad base q u H) : zRel D cA ad base q U H :=
  ⟨h.1, h.2.1, h.2.2.1, fun a n ha he => zX_moved hvm (h.2.2.2.1 a n ha he), h.2.2.2.2⟩
theorem zNw_warm {s U : State} (hW : s.WarmedH U.vm) (h : ∀ w ∈ zNW, va_Nw w s) : ∀ w ∈ zNW, va_Nw w U := by
  intro w hw
  have h1 := h w hw
  simp only [zNW, List.mem_cons, List.not_mem_nil, or_false] at hw
  rcases hw with rfl | rfl | rfl | rfl | rfl | rfl | rfl | rfl | rfl | rfl | rfl | rfl | rfl <;> first | exact va_Nw.warmM hW h1 | exact va_Nw.warmF hW h1
theorem zNw_same {s U : State} (hv : s.vm = U.vm) (h : ∀ w ∈ zNW, va_Nw w s) : ∀ w ∈ zNW, va_Nw w U := by
  intro w hw
  have h1 := h w hw
  simp only [zNW, List.mem_cons, List.not_mem_nil, or_false] at hw
  rcases hw with rfl | rfl | rfl | rfl | rfl | rfl | rfl | rfl | rfl | rfl | rfl | rfl | rfl <;> exact va_Nw.same rfl hv h1
theorem zEnv.warm {s U : State} {H : Heap} {locs : List Loc} (E : zEnv D cA ad base s) (hS : va_S (zA base) s.heap H locs) (hU : U.heap = H) (hW : s.WarmedH U.vm) : zEnv D cA ad base U := by
  obtain ⟨h1, h2, h3, h4, h5, h6, h7, h8⟩ := E
  refine ⟨h1, h2.moved hW.alike, zNw_warm hW h3, h4.moved hW.alike, h5.moved hW.alike, over_moved hW.alike h6, fun a ha => ?_, by rw [hU]; exact Nat.le_trans h8 hS.1⟩
  have h9 := (h7 a ha).kept (H1 := H) (fun x hx hx2 => hS.2.1 x hx hx2)
  rw [hU]
  exact h9.moved hW.alike
theorem zEnv.same {s U : State} (E : zEnv D cA ad base s) (hv : s.vm = U.vm) (hh : U.heap = s.heap) : zEnv D cA ad base U := by
  obtain ⟨h1, h2, h3, h4, h5, h6, h7, h8⟩ := E
  have ha : s.vm.Alike U.vm := by rw [← hv]; exact Vm.Alike.refl _
  refine ⟨h1, h2.moved ha, zNw_same hv h3, h4.moved ha, h5.moved ha, over_moved ha h6, fun a h9 => ?_, by rw [hh]; exact h8⟩
  rw [hh]
  exact (h7 a h9).moved ha
def zPc (D : va_G) (cA : Nat → ClassId) (ad : Nat → Nat) (base : Nat) (as : List zV) (q : zS) : Array Value → State → Prop := fun a U => a = (as.map (zE ad)).toArray ∧ zRel D cA ad base q U U.heap ∧ zEnv D cA ad base U
def zQc (D : va_G) (cA : Nat → ClassId) (ad : Nat → Nat) (base : Nat) (r : Option zV) (q : zS) : Array Value → State → Outcome → State → Prop := fun _ st o t => o = .returned (r.map (zE ad)) ∧ (∀ v ∈ r.toList, zOk v) ∧ zRel D cA ad base q t t.heap ∧ va_F (zA base) st t
theorem zPc_blind {as : List zV} {q : zS} : FrameBlind (zPc D cA ad base as q) := fun a U g mk h => ⟨h.1, h.2.1.moved (u := U) (U := U.calling g mk a) (Vm.Alike.refl U.vm), h.2.2.same (U := U.calling g mk a) rfl rfl⟩
theorem zPc_at {s U : State} {H : Heap} {locs : List Loc} {as : List zV} {q : zS} (E : zEnv D cA ad base s) (hR : zRel D cA ad base q s H) (hS : va_S (zA base) s.heap H locs) (hU : U.heap = H) (hW : s.WarmedH U.vm) : zPc D cA ad base as q (as.map (zE ad)).toArray U :=
  ⟨rfl, by rw [hU]; exact hR.moved hW.alike, E.warm hS hU hW⟩
/-- the locals at the entry -/
theorem zSl_map (as : List zV) : (lg_sl (as.map (zE ad))).length = (zSl as).length := by
  induction as with
  | nil => rfl
  | cons v t ih =>
    have e1 : lg_sl ((v :: t).map (zE ad)) = (if (zE ad v).category = 2 then [Slot.val (zE ad v), .second] else [Slot.val (zE ad v)]) ++ lg_sl (t.map (zE ad)) := by simp [lg_sl]
    have e2 : zSl (v :: t) = (if zCat v = 2 then [v, uV] else [v]) ++ zSl t := by simp [zSl]
    rw [e1, e2, List.length_append, List.length_append, ih, zE_cat]
    split <;> rfl
theorem zSl_args : ∀ (as : List zV) (i k : Nat) (v : zV), (zSl as)[k]? = some v → v ≠ uV → (i + k, zE ad v) ∈ lv_args i (as.map (zE ad)) := by
  intro as
  induction as with
  | nil => intro i k v h; simp [zSl] at h
  | cons w t ih =>
    intro i k v h hv
    have e2 : zSl (w :: t) = (if zCat w = 2 then [w, uV] else [w]) ++ zSl t := by simp [zSl]
    rw [e2] at h
    simp only [List.map_cons, lv_args, zE_cat]
    by_cases hc : zCat w = 2
    · rw [if_pos hc] at h ⊢
      match k, h with
      | 0, h =>
        cases h
        exact List.mem_cons_self
      | 1, h =>
        cases h
        exact absurd rfl hv
      | k + 2, h =>
        have h' : (zSl t)[k]? = some v := h
        have := ih (i + 2) k v h' hv
        rw [show i + (k + 2) = i + 2 + k by omega]
        exact List.mem_cons_of_mem _ this
    · rw [if_neg hc] at h ⊢
      match k, h with
      | 0, h =>
        cases h
        exact List.mem_cons_self
      | k + 1, h =>
        have h' : (zSl t)[k]? = some v := h
        have := ih (i + 1) k v h' hv
        rw [show i + (k + 1) = i + 1 + k by omega]
        exact List.mem_cons_of_mem _ this
theorem zEnt_LR {as : List zV} {nL : Nat} (h : (zSl as).length ≤ nL) : zLR ad nL (zEnt nL as) ((lg_sl (as.map (zE ad)) ++ List.replicate (nL - (lg_sl (as.map (zE ad))).length) Slot.unset).toArray) := by
  have h1 := lv_entry (as.map (zE ad)) (n := nL) (by rw [zSl_map]; exact h)
  refine ⟨h1.1, by simp [zEnt]; omega, h1.2.1, fun k v hk hv => ?_⟩
  unfold zEnt at hk
  by_cases hl : k < (zSl as).length
  · rw [List.getElem?_append_left hl] at hk
    have := zSl_args (ad := ad) as 0 k v hk hv
    rw [Nat.zero_add] at this
    exact h1.2.2 _ this
  · rw [List.getElem?_append_right (by omega)] at hk
    have := List.mem_of_getElem? hk
    rw [(List.mem_replicate.mp this).2] at hv
    exact absurd rfl hv
theorem zEnt_ok {as : List zV} {nL : Nat} (h : ∀ v ∈ as, zOk v) : ∀ v ∈ zEnt nL as, zOk v := by
  intro v hv
  rcases List.mem_append.mp hv with h1 | h1
  · obtain ⟨w, hw, h2⟩ := List.mem_flatMap.mp h1
    split at h2
    · rcases List.mem_cons.mp h2 with rfl | h3
      · exact h _ hw
      · rw [List.mem_singleton.mp h3]; trivial
    · rw [List.mem_singleton.mp h2]; exact h _ hw
  · rw [(List.mem_replicate.mp h1).2]; trivial
def zRm (d mc ms : Nat) : Room := { frames := d + 1, cells := mc, slots := ms, locals := 42 * (d + 1) }
/-- what is behind a call -/
theorem zs_call {p : Program} {l : Launch} {e : Env} {R : Room} {s : State} {mid : MethodId} {args a : Array Value} {below : List Frame} {meth : Method} {c : Code} {H : Heap} {locs : List Loc} {cells slots mc ms pc : Nat} {Q : State → Prop} {lsR : Array Slot} {st0 rest : List Value} {r : Option zV} {q1 : zS}
    (hr : va_Run p l e R s mid args below meth c H locs cells slots mc ms (F0 mid pc lsR st0) rest (zQc D cA ad base r q1 a) (zA base)) (hS : va_S (zA base) s.heap H locs)
    (kk : ∀ (H1 : Heap) (locs1 : List Loc), (∀ v ∈ r.toList, zOk v) → zRel D cA ad base q1 s H1 → va_S (zA base) s.heap H1 locs1 → W p l e R s mid args below meth c H1 locs1 (cells + mc) (slots + ms) Q (F0 mid (pc + 3) lsR (r.toList.map (zE ad) ++ rest))) : W p l e R s mid args below meth c H locs cells slots Q (F0 mid pc lsR st0) := by
  intro T hT X
  obtain ⟨v, st₀, t, T', L, h0, X', hL, e1, e2, ⟨hv, hokr, hRel, hz, hk⟩, st⟩ := hr T hT X
  cases hv
  rw [h0] at hz hk
  have hal : s.vm.Alike t.vm := by rw [← e2]; exact X'.warmed.alike
  obtain ⟨t2, a1, b1⟩ := kk T'.heap (locs ++ L) hokr (by rw [e1]; exact hRel.moved hal.symm) ⟨Nat.le_trans hS.1 (by rw [e1]; exact hz), fun q h1 h2 => by rw [e1, hk q (Nat.lt_of_lt_of_le h1 hS.1) h2]; exact hS.2.1 q h1 h2, fun q hq => by
      rcases List.mem_append.mp hq with h | h
      · exact hS.2.2 q h
      · exact hL q h⟩ T' rfl X'
  refine ⟨t2, st t2 ?_, b1⟩
  have e9 : (r.map (zE ad)).toList ++ rest = r.toList.map (zE ad) ++ rest := by cases r <;> rfl
  rw [e9]
  exact a1
def zSimP (D : va_G) (cA : Nat → ClassId) (ad : Nat → Nat) (base n : Nat) : Prop := ∀ (d : Nat) (m : zD) (pc : Nat) (ls st : List zV) (q : zS) (r : Option zV) (q' : zS), zRun n d m pc ls st q = some (r, q') →
    ∀ {p : Program} {l : Launch} {e : Env} {R : Room} {s : State} {mid : MethodId} {args : Array Value} {below : List Frame} {meth : Method} {c : Code} {Q : State → Prop}, zFx p R s mid args meth c m d → zEnv D cA ad base s → ∀ (H : Heap) (locs : List Loc) (cells slots : Nat) (lsR : Array Slot), zIn D cA ad base s m ls st q H locs lsR →
    cells + (q'.1.length - q.1.length) ≤ R.cells → slots + (zSz q' - zSz q) ≤ R.slots →
    (∀ (H' : Heap) (locs' : List Loc) (pc' : Nat) (lsR' : Array Slot), zRel D cA ad base q' s H' → va_S (zA base) s.heap H' locs' → zRetAt m pc' r → (∀ v ∈ r.toList, zOk v) → W p l e R s mid args below meth c H' locs' (cells + (q'.1.length - q.1.length)) (slots + (zSz q' - zSz q)) Q (F0 mid pc' lsR' (r.toList.map (zE ad)))) →
    W p l e R s mid args below meth c H locs cells slots Q (F0 mid pc lsR (st.map (zE ad)))
set_option maxHeartbeats 4000000 in
theorem zCallStep {n d1 pc len : Nat} {m m1 : zD} {i : Jvm.ClassFile.Instr} {ls st as rest : List zV} {q q1 : zS} {r1 : Option zV} (ih : zSimP D cA ad base n) (hr1 : zRun n d1 m1 0 (zEnt m1.2.2.2.1 as) [] q = some (r1, q1))
    {p : Program} {l : Launch} {e : Env} {R : Room} {s : State} {mid : MethodId} {args : Array Value} {below : List Frame} {meth : Method} {c : Code} {Q : State → Prop} (F : zFx p R s mid args meth c m (d1 + 1)) (E : zEnv D cA ad base s) {H : Heap} {locs : List Loc} {cells slots : Nat} {lsR : Array Slot} (I : zIn D cA ad base s m ls st q H locs lsR)
    (hdg : decode m.2.2.1 pc = .ok (i, len)) (hx : zEx m pc len i ls st q = some (.inr (.inl (m1, as, rest)))) (hc1 : cells + (q1.1.length - q.1.length) ≤ R.cells) (hs1 : slots + (zSz q1 - zSz q) ≤ R.slots)
    (hgo0 : ∀ (H1 : Heap) (locs1 : List Loc), zIn D cA ad base s m ls (r1.toList ++ rest) q1 H1 locs1 lsR → W p l e R s mid args below meth c H1 locs1 (cells + (q1.1.length - q.1.length)) (slots + (zSz q1 - zSz q)) Q (F0 mid (pc + 3) lsR ((r1.toList ++ rest).map (zE ad)))) :
    W p l e R s mid args below meth c H locs cells slots Q (F0 mid pc lsR (st.map (zE ad))) := by
  obtain ⟨rfl, hcs, hsl, hcall⟩ := zEx_call hx
  have hokr : ∀ v ∈ as, zOk v := by
    rcases hcall with ⟨k, np, a, -, -, rfl, hst, -⟩ | ⟨k, np, -, -, rfl, hst, -⟩ | ⟨k, kd, a, -, -, -, rfl, hst⟩
    · refine zOk_cons trivial fun v hv => I.2.2.2.1 v ?_
      exact List.mem_of_mem_take (List.mem_reverse.mp hv)
    · exact fun v hv => I.2.2.2.1 v (List.mem_of_mem_take (List.mem_reverse.mp hv))
    · exact zOk_cons trivial (fun v hv => absurd hv List.not_mem_nil)
  have hrest : ∀ v ∈ rest, zOk v := by
    rcases hcall with ⟨k, np, a, -, -, -, hst, -⟩ | ⟨k, np, -, -, -, hst, -⟩ | ⟨k, kd, a, -, -, -, -, hst⟩
    · exact fun v hv => I.2.2.2.1 v (by rw [hst]; exact List.mem_append_right _ (List.mem_cons_of_mem _ hv))
    · exact fun v hv => I.2.2.2.1 v (by rw [hst]; exact List.mem_append_right _ hv)
    · exact fun v hv => I.2.2.2.1 v (by rw [hst]; exact List.mem_cons_of_mem _ hv)
  have hok : ∃ np, zMok m1 np := by
    rcases hcall with ⟨k, np, a, -, hz, -⟩ | ⟨k, np, -, hz, -⟩ | ⟨k, kd, a, -, hz, -⟩
    · exact ⟨_, (zCall_ok hz).1⟩
    · exact ⟨_, (zCall_ok hz).1⟩
    · exact ⟨_, (zCall_ok hz).1⟩
  obtain ⟨np0, hmok⟩ := hok
  have hM : Met l m1.2.1 (zWs m1) (zRm d1 (q1.1.length - q.1.length) (zSz q1 - zSz q)) (zPc D cA ad base as q) (zQc D cA ad base r1 q1) (q1.1.length - q.1.length) (zSz q1 - zSz q) (zA base) := by
    refine Met.ofW (cc := m1.2.2.1) (maxL := m1.2.2.2.1) (ret := m1.2.2.2.2) hmok.2.2.2.2.2.1 rfl ?_
    intro p e s m args below meth c s₁ B hml hv
    obtain ⟨rfl, hRel, hEnv⟩ := hv
    have hts0 := atoms_spec (ws := zWs m1) B.pre
    have hF : zFx p (headSpec (zWs m1) (zRm d1 (q1.1.length - q.1.length) (zSz q1 - zSz q))).room s m (as.map (zE ad)).toArray meth c m1 d1 :=
      ⟨B.exec, B.bytes, hml, by rw [← hmok.2.2.1]; exact findClass_of_methodNamed B.named, fun w hw => hts0 w (List.mem_cons_of_mem _ hw), B.returns, B.notSynchronized, fun e9 => (name_of_methodNamed B.named B.method).1.trans e9, Nat.le_refl _, Nat.le_refl _⟩
    rw [lg_entry_eq]
    refine ih _ _ _ _ _ _ _ _ hr1 hF hEnv s.heap [] 0 0 _ ⟨hRel, zEnt_LR hsl, zEnt_ok hokr, fun v hv => absurd hv List.not_mem_nil, va_S.rf⟩ (by rw [Nat.zero_add]; exact Nat.le_refl _) (by rw [Nat.zero_add]; exact Nat.le_refl _) fun H' locs' pc' lsR' k1 k2 k3 k4 => ?_
    rw [Nat.zero_add, Nat.zero_add]
    have hq : ∀ t : State, t.heap = H' → s.WarmedH t.vm → zQc D cA ad base r1 q1 (as.map (zE ad)).toArray s (.returned (r1.map (zE ad))) t := fun t ht hW => ⟨rfl, k4, by rw [ht]; exact k1.moved hW.alike, k2.F ht⟩
    have hlocks := B.notSynchronized
    match r1, k3, k4, hq with
    | some (.inl a), k3, k4, hq =>
      have ha : zR a := k4 _ List.mem_cons_self
      rcases k3.2 with hret | ⟨hret, ha01⟩
      · exact W.iret B.exec B.bytes (B.returns.trans hret) hq k2.2.2 k3.1
      · exact W.zret (ty := .boolean) B.exec B.bytes (B.returns.trans hret) (by rcases ha01 with rfl | rfl <;> decide +kernel) hq k2.2.2 k3.1
    | some (.inr (.inl x)), k3, k4, hq => exact W.lret B.exec B.bytes (B.returns.trans k3.2) hq k2.2.2 k3.1
    | some (.inr (.inr (.inl a))), k3, k4, hq =>
      obtain ⟨k31, nn, k32⟩ := k3
      exact W.aret (rt := .object nn) B.exec B.bytes (B.returns.trans k32) (Or.inl ⟨_, rfl⟩) (Or.inr ⟨_, rfl⟩) hq k2.2.2 k31
    | some (.inr (.inr (.inr _))), k3, k4, hq => exact absurd k3 (fun z => z)
    | none, k3, k4, hq => exact W.vret B.exec B.bytes (B.returns.trans k3.2) hq k2.2.2 k3.1
  have hgo : ∀ (H1 : Heap) (locs1 : List Loc), (∀ v ∈ r1.toList, zOk v) → zRel D cA ad base q1 s H1 → va_S (zA base) s.heap H1 locs1 → W p l e R s mid args below meth c H1 locs1 (cells + (q1.1.length - q.1.length)) (slots + (zSz q1 - zSz q)) Q (F0 mid (pc + 3) lsR (r1.toList.map (zE ad) ++ rest.map (zE ad))) := fun H1 locs1 hokr1 k1 k2 => by
    rw [← List.map_append]
    exact hgo0 H1 locs1 ⟨k1, I.2.1, I.2.2.1, fun v hv => (List.mem_append.mp hv).elim (hokr1 v) (hrest v), k2⟩
  have hR1 : (zRm d1 (q1.1.length - q.1.length) (zSz q1 - zSz q)).frames + 1 ≤ R.frames := F.2.2.2.2.2.2.2.2.1
  have hR2 : 8 + (m1.2.2.2.1 + 11) + (zRm d1 (q1.1.length - q.1.length) (zSz q1 - zSz q)).locals ≤ R.locals := by
    have h7 := F.2.2.2.2.2.2.2.2.2
    have h8 := hmok.2.2.2.2.2.2
    show 8 + (m1.2.2.2.1 + 11) + 42 * (d1 + 1) ≤ R.locals
    omega
  have hroom : ∀ st9 : List Value, 2 * (F0 mid pc lsR st9).monitorRoom + ((rest.map (zE ad)).map fun v => v.category).sum ≤ 8 := fun st9 => lv_room (by rw [zCs_sum]; exact hcs)
  have hts := F.2.2.2.2.1
  have hws : ∀ w ∈ zWs m1, ∀ (a' : Array Value) (U : State), s.WarmedH U.vm → w.before a' U = true := fun w hw a' U hW => by
    have hw' : w ∈ zGW := by
      rcases List.mem_cons.mp hw with rfl | h9
      · exact hmok.1
      · exact h9
    exact word_at hW (zGW_good w hw') (hts w hw')
  have hfix : CallFix p mid c m.2.2.1 m.2.2.2.1 s args zGW (zCn m.1) := ⟨F.1, F.2.1, F.2.2.1, F.2.2.2.1, hts⟩
  have hpl : ∀ np1, zMok m1 np1 → ∀ sig, parseMethodDescriptor m1.2.1.desc = some sig → np1 = sig.parameters.length := fun np1 h1 sig h2 => by
    have h3 := h1.2.2.2.1
    rw [h2] at h3
    exact (Option.some.inj h3).symm
  rcases hcall with ⟨k, np, a, rfl, hz, rfl, hst, hlen, hq⟩ | ⟨k, np, rfl, hz, rfl, hst, hlen⟩ | ⟨k, kd, a, rfl, hz, hkd, rfl, hst⟩
  · obtain ⟨hm1, hk0, -⟩ := zCall_ok hz
    obtain ⟨w1, w2, w3, h11⟩ := hk0 rfl
    obtain ⟨sz, -, -, cellV, g1, g2, g3, -⟩ := zs_kind I.1 hq h11
    have hp : PreV s H m1.2.1.cls (ad a) (zPc D cA ad base (rV a :: (st.take np).reverse) q) (((st.take np).reverse).map (zE ad)) :=
      ⟨zPc_blind, ⟨cellV, g1, by rw [g3]; rfl, by rw [g2, hm1.2.2.1]; exact (E.2.1.1 m1.1 _ (zCls_at h11)).2.1⟩, fun U hU hW => zPc_at E I.1 I.2.2.2.2 hU hW⟩
    have hstk : st.map (zE ad) = (((st.take np).reverse).map (zE ad)).reverse ++ .ref (ad a) :: rest.map (zE ad) := by
      rw [← List.map_reverse, List.reverse_reverse]
      conv => lhs; rw [hst]
      rw [List.map_append]
      rfl
    exact zs_call (va_runV (n := np) hfix hM ⟨⟨rfl, rfl, hR1, hR2, hws, List.mem_cons_self, hts _ hm1.1, hts _ hm1.2.1, hm1.2.2.2.2.1, hpl _ hm1, hts _ w1⟩, hts _ w2, hts _ w3⟩ hp rfl (by rw [List.length_map, List.length_reverse, List.length_take]; omega) I.2.1.1 hstk (hroom _) hdg ⟨hc1, hs1⟩) I.2.2.2.2 hgo
  · obtain ⟨hm1, -, hk1, -⟩ := zCall_ok hz
    obtain ⟨w1, w2⟩ := hk1 rfl
    have hp : PreS s H (zPc D cA ad base ((st.take np).reverse) q) (((st.take np).reverse).map (zE ad)) := ⟨zPc_blind, fun U hU hW => zPc_at E I.1 I.2.2.2.2 hU hW⟩
    have hstk : st.map (zE ad) = (((st.take np).reverse).map (zE ad)).reverse ++ rest.map (zE ad) := by
      rw [← List.map_reverse, List.reverse_reverse]
      conv => lhs; rw [hst]
      rw [List.map_append]
    exact zs_call (va_runS (n := np) hfix hM ⟨⟨rfl, rfl, hR1, hR2, hws, List.mem_cons_self, hts _ hm1.1, hts _ hm1.2.1, hm1.2.2.2.2.1, hpl _ hm1, hts _ w1⟩, hts _ w2⟩ hp rfl (by rw [List.length_map, List.length_reverse, List.length_take]; omega) I.2.1.1 hstk (hroom _) hdg ⟨hc1, hs1⟩) I.2.2.2.2 hgo
  · obtain ⟨hm1, -, -, hk2, hk3⟩ := zCall_ok hz
    have hp : PreS s H (zPc D cA ad base [rV a] q) (.ref (ad a) :: []) := ⟨zPc_blind, fun U hU hW => zPc_at E I.1 I.2.2.2.2 hU hW⟩
    have hstk : st.map (zE ad) = ([] : List Value).reverse ++ .ref (ad a) :: rest.map (zE ad) := by rw [hst]; rfl
    rcases hkd with rfl | rfl
    · obtain ⟨w1, w2, w3, w4⟩ := hk2 rfl
      have hcd : Cond.code m1.2.1 m1.2.2.1 m1.2.2.2.1 none = Cond.code m1.2.1 m1.2.2.1 m1.2.2.2.1 m1.2.2.2.2 := by rw [show m1.2.2.2.2 = none from w4]
      exact zs_call (va_runI (n := 0) (As := []) hfix hM ⟨⟨rfl, rfl, hR1, hR2, hws, by rw [hcd]; exact List.mem_cons_self, by rw [hcd]; exact hts _ hm1.1, hts _ hm1.2.1, hm1.2.2.2.2.1, hpl _ hm1, hts _ w1⟩, w3, hts _ w2⟩ hp rfl rfl I.2.1.1 hstk (hroom _) hdg ⟨hc1, hs1⟩) I.2.2.2.2 hgo
    · obtain ⟨w1, w2, w3, w4⟩ := hk3 rfl
      have hcd : Cond.code m1.2.1 m1.2.2.1 m1.2.2.2.1 none = Cond.code m1.2.1 m1.2.2.1 m1.2.2.2.1 m1.2.2.2.2 := by rw [show m1.2.2.2.2 = none from w4]
      exact zs_call (va_runIN (n := 0) (As := []) (host := "StopPress") hfix hM ⟨⟨⟨rfl, rfl, hR1, hR2, hws, by rw [hcd]; exact List.mem_cons_self⟩, by rw [hcd]; exact hts _ hm1.1, hts _ hm1.2.1, hm1.2.2.2.2.1, hpl _ hm1, va_Nw.use rfl (E.2.2.1 _ w1)⟩, w3, hts _ w2⟩ hp rfl rfl I.2.1.1 hstk (hroom _) hdg ⟨hc1, hs1⟩) I.2.2.2.2 hgo
set_option maxHeartbeats 4000000 in
theorem zSim : ∀ n : Nat, zSimP D cA ad base n := by
  intro n
  induction n with
  | zero => intro d m pc ls st q r q' h; simp [zRun] at h
  | succ n ih =>
    intro d m pc ls st q r q' h p l e R s mid args below meth c Q F E H locs cells slots lsR I hc hs kk
    have hg := z_grow (zRun_mono _ _ _ _ _ _ _ _ _ h)
    simp only [zRun] at h
    split at h
    · next i len hdg =>
      split at h
      · next pc1 ls1 st1 q1 hx =>
        have g1 := z_grow (zEx_mono hx)
        have g2 := z_grow (zRun_mono _ _ _ _ _ _ _ _ _ h)
        refine zS1 F E hdg hx I (by omega) (by omega) (by omega) (by omega) fun H1 locs1 lsR1 I1 => ?_
        refine ih _ _ _ _ _ _ _ _ h F E H1 locs1 _ _ lsR1 I1 (by omega) (by omega) fun H2 locs2 pc2 lsR2 k1 k2 k3 k4 => ?_
        have := kk H2 locs2 pc2 lsR2 k1 k2 k3 k4
        rw [show cells + (q1.1.length - q.1.length) + (q'.1.length - q1.1.length) = cells + (q'.1.length - q.1.length) by omega, show slots + (zSz q1 - zSz q) + (zSz q' - zSz q1) = slots + (zSz q' - zSz q) by omega]
        exact this
      · next m1 as rest hx =>
        split at h
        · cases h
        · next d1 =>
          split at h
          · next r1 q1 hr1 =>
            have g1 := z_grow (zRun_mono _ _ _ _ _ _ _ _ _ hr1)
            have g2 := z_grow (zRun_mono _ _ _ _ _ _ _ _ _ h)
            have hce : cells + (q1.1.length - q.1.length) + (q'.1.length - q1.1.length) = cells + (q'.1.length - q.1.length) := by omega
            have hse : slots + (zSz q1 - zSz q) + (zSz q' - zSz q1) = slots + (zSz q' - zSz q) := by omega
            refine zCallStep ih hr1 F E I hdg hx (by omega) (by omega) fun H1 locs1 I1 => ?_
            refine ih _ _ _ _ _ _ _ _ h F E H1 locs1 _ _ lsR I1 (by rw [hce]; exact hc) (by rw [hse]; exact hs) fun H2 locs2 pc2 lsR2 k1 k2 k3 k4 => ?_
            have := kk H2 locs2 pc2 lsR2 k1 k2 k3 k4
            rw [hce, hse]
            exact this
          · cases h
      · next r1 hx =>
        cases h
        obtain ⟨k3, hst⟩ := zEx_ret hdg hx
        have := kk H locs pc lsR I.1 I.2.2.2.2 k3 (by rw [← hst]; exact I.2.2.2.1)
        rw [Nat.sub_self, Nat.sub_self, Nat.add_zero, Nat.add_zero, ← hst] at this
        exact this
      · cases h
    · cases h
end ZW
