section ZMN
variable {p : Program} {l : Launch} {e : Env} {R : Room} {s : State} {mid : MethodId} {args : Array Value} {below : List Frame} {meth : Method} {c : Code} {H : Heap} {locs : List Loc} {cells slots : Nat} {Q : State → Prop} {D : va_G} {cA : Nat → ClassId} {ad : Nat → Nat} {base : Nat}
variable {m : zD} {d pc pc' len : Nat} {ls ls' st st' : List zV} {q q' : zS} {lsR : Array Slot}
theorem zs_newM {k dd : Nat} (F : zFx p R s mid args meth c m d) (E : zEnv D cA ad base s) (hdg : decode m.2.2.1 pc = .ok (.multianewarray k dd, len)) (hk6 : (m.1 = 6 ∨ m.1 = 7) ∧ k = 9 ∧ dd = 2) (h : zNewM pc len ls st q = some (.inl (pc', ls', st', q'))) (I : zIn D cA ad base s m ls st q H locs lsR) (hc : cells + (q'.1.length - q.1.length) ≤ R.cells) (hs : slots + (zSz q' - zSz q) ≤ R.slots)
    (kk : zGoal p l e R s mid args below meth c D cA ad base m cells slots Q q pc' ls' st' q') : W p l e R s mid args below meth c H locs cells slots Q (F0 mid pc lsR (st.map (zE ad))) := by
  sorry
end ZMN
