/-! Aligner.align: one alignment -/
section ZAl2
variable {L t s r : Nat} {M : zM} {x y b : Int}
theorem qTx_eq {M M' : zM} {t : Nat} (h1 : M' t 1 = M t 1) (h2 : ∀ k, M' (t + 1) k = M (t + 1) k) : qTx M' t = qTx M t := by
  funext i
  unfold qTx
  rw [h1, h2]
theorem c_Ar_trace (hr : zAn L r) (hr11 : r ≠ 11 ∧ r + 1 ≠ 11 ∧ r + 2 ≠ 11) (hrt : r ≠ t ∧ r ≠ t + 1 ∧ r + 1 ≠ t ∧ r + 1 ≠ t + 1 ∧ r + 2 ≠ t ∧ r + 2 ≠ t + 1) (hrs : r ≠ s ∧ r ≠ s + 1 ∧ r + 1 ≠ s ∧ r + 1 ≠ s + 1 ∧ r + 2 ≠ s ∧ r + 2 ≠ s + 1) (ht : zTx L t) (hs : zTx L s) (ht1 : t ≠ 11) (ht2 : t + 1 ≠ 11) (hs1 : s ≠ 11) (hs2 : s + 1 ≠ 11) (hst : zSt M) (n10 : 0 ≤ M t 1) (n11 : M t 1 ≤ 24) (n20 : 0 ≤ M s 1) (n21 : M s 1 ≤ 24) (hb0 : 0 ≤ b) (hb9 : b ≤ 9) (hc1 : ∀ k : Nat, (k : Int) < M t 1 → -1 ≤ M (t + 1) k ∧ M (t + 1) k ≤ 1000) (hc2 : ∀ k : Nat, (k : Int) < M s 1 → -1 ≤ M (s + 1) k ∧ M (s + 1) k ≤ 1000) (he : M t 1 - M s 1 ≤ b ∧ M s 1 - M t 1 ≤ b) (hfo : M r 3 = 1) (hz : ∀ k, k < 7 → M (r + 2) k = 0) (hT : ∀ i j : Int, 0 ≤ i → i ≤ M t 1 + 1 → 0 ≤ j → j ≤ M s 1 + 1 → M 11 (i * 26 + j).toNat = zVl (qTx M t) (qTx M s) (M t 1) (M s 1) b i j) : Cv L 1 zm_Aligner_trace [rV 10, rV t, rV s, rV r] M (fun M' => zSm (fun a => a = r + 1 ∨ a = r + 2) M M' ∧ qAl M' r (qTx M t) (qTx M s) (M t 1) (M s 1) b) := by
  show wp L _ zm_Aligner_trace 0 [rV 10, rV t, rV s, rV r, uV, uV, uV, uV, uV, uV, uV] [] M _
  refine wp_iconst (pc := 0) d_Aligner_trace_0 rfl ?_
  refine wp_ist4 (pc := 1) d_Aligner_trace_1 rfl ?_
  refine wp_iconst (pc := 3) d_Aligner_trace_3 rfl ?_
  refine wp_ist5 (pc := 4) d_Aligner_trace_4 rfl ?_
  refine wp_iconst (pc := 6) d_Aligner_trace_6 rfl ?_
  refine wp_ist6 (pc := 7) d_Aligner_trace_7 rfl ?_
  exact lp_Ar_trace (M0 := M) hr ht hs ht1 ht2 hs1 hs2 hst n10 n11 n20 n21 hb0 hb9 hc1 hc2 he (by omega) (by omega) (by omega) hfo hT 100 0 0 0 0 M _ _ _ _ (by omega) (by omega) rfl rfl rfl (fun t9 h9 => absurd h9 (by omega)) ⟨zSm.rf, hz 1 (by decide), hz 0 (by decide), fun x h2 h6 => hz _ (by omega), fun q hq => absurd hq (by omega)⟩
/-- what an alignment cell holds, once it is known: for the texts t and s and the band b -/
def qKn (M : zM) (r : Nat) (f g : Int → Int) (n1 n2 b : Int) : Prop := M r 2 = 1 ∧ (n1 - n2 ≤ b ∧ n2 - n1 ≤ b → M r 3 = 1 ∧ qAl M r f g n1 n2 b) ∧ (¬ (n1 - n2 ≤ b ∧ n2 - n1 ≤ b) → M r 3 = 0 ∧ ∀ k, k < 7 → M (r + 2) k = -1)
theorem c_Ar_align (hr : zAn L r) (hr11 : r ≠ 11 ∧ r + 1 ≠ 11 ∧ r + 2 ≠ 11) (hrt : r ≠ t ∧ r ≠ t + 1 ∧ r + 1 ≠ t ∧ r + 1 ≠ t + 1 ∧ r + 2 ≠ t ∧ r + 2 ≠ t + 1) (hrs : r ≠ s ∧ r ≠ s + 1 ∧ r + 1 ≠ s ∧ r + 1 ≠ s + 1 ∧ r + 2 ≠ s ∧ r + 2 ≠ s + 1) (ht : zTx L t) (hs : zTx L s) (ht1 : t ≠ 11) (ht2 : t + 1 ≠ 11) (hs1 : s ≠ 11) (hs2 : s + 1 ≠ 11) (hst : zSt M) (n10 : 0 ≤ M t 1) (n11 : M t 1 ≤ 24) (n20 : 0 ≤ M s 1) (n21 : M s 1 ≤ 24) (hb0 : 0 ≤ b) (hb9 : b ≤ 9) (hc1 : ∀ k : Nat, (k : Int) < M t 1 → -1 ≤ M (t + 1) k ∧ M (t + 1) k ≤ 1000) (hc2 : ∀ k : Nat, (k : Int) < M s 1 → -1 ≤ M (s + 1) k ∧ M (s + 1) k ≤ 1000) : Cv L 2 zm_Aligner_align [rV 10, rV t, rV s, iV b, rV r] M (fun M' => zSm (fun a => a = 11 ∨ a = r ∨ a = r + 1 ∨ a = r + 2) M M' ∧ qKn M' r (qTx M t) (qTx M s) (M t 1) (M s 1) b) := by
  show wp L _ zm_Aligner_align 0 [rV 10, rV t, rV s, iV b, rV r, uV] [] M _
  have hr4 := hr.2.2.2.2.2
  refine wp_aload_n (pc := 0) d_Aligner_align_0 rfl ?_
  refine wp_callV0f (pc := 1) d_Aligner_align_1 rfl rfl ht.1 rfl rfl (c_Text_size ht) ?_
  refine wp_aload_n (pc := 4) d_Aligner_align_4 rfl ?_
  refine wp_callV0f (pc := 5) d_Aligner_align_5 rfl rfl hs.1 rfl rfl (c_Text_size hs) ?_
  refine wp_isub (pc := 8) d_Aligner_align_8 (by omega) (by omega) ?_
  refine wp_abs (pc := 9) d_Aligner_align_9 rfl rfl (by omega) (by omega) ?_
  refine wp_iload_n (pc := 12) d_Aligner_align_12 rfl ?_
  refine wp_icmp_gt (tgt := 20) (pc := 13) d_Aligner_align_13 rfl (fun c13 => ?_) (fun c13 => ?_)
  · refine wp_iconst (pc := 20) d_Aligner_align_20 rfl ?_
    refine wp_ist5 (pc := 21) d_Aligner_align_21 rfl ?_
    refine wp_aload (pc := 23) d_Aligner_align_23 rfl ?_
    refine wp_iload (pc := 25) d_Aligner_align_25 rfl ?_
    refine wp_callV1v (pc := 27) d_Aligner_align_27 rfl rfl hr.1 rfl rfl (c_An_begin hr (by decide)) (fun M27 h27 => ?_)
    refine wp_iload (pc := 30) d_Aligner_align_30 rfl ?_
    refine wp_if_eq (tgt := 50) (pc := 32) d_Aligner_align_32 rfl (fun c32 => ?_) (fun c32 => ?_)
    · refine wp_return_ (pc := 50) d_Aligner_align_50 rfl ?_
      have e5 : ¬ (M t 1 - M s 1 ≤ b ∧ M s 1 - M t 1 ≤ b) := by split at c13 <;> omega
      exact ⟨rfl, h27.1.up (fun a ha => by omega), h27.2.1, fun z => absurd z e5, fun _ => ⟨h27.2.2.1, fun k hk => (h27.2.2.2 k hk).trans (if_pos rfl)⟩⟩
    · exact absurd c32 (by decide)
  · refine wp_iconst (pc := 16) d_Aligner_align_16 rfl ?_
    refine wp_goto (tgt := 21) (pc := 17) d_Aligner_align_17 rfl ?_
    refine wp_ist5 (pc := 21) d_Aligner_align_21 rfl ?_
    refine wp_aload (pc := 23) d_Aligner_align_23 rfl ?_
    refine wp_iload (pc := 25) d_Aligner_align_25 rfl ?_
    refine wp_callV1v (pc := 27) d_Aligner_align_27 rfl rfl hr.1 rfl rfl (c_An_begin hr (by decide)) (fun M27 h27 => ?_)
    refine wp_iload (pc := 30) d_Aligner_align_30 rfl ?_
    refine wp_if_eq (tgt := 50) (pc := 32) d_Aligner_align_32 rfl (fun c32 => ?_) (fun c32 => ?_)
    · exact absurd c32 (by decide)
    · refine wp_aload_n (pc := 35) d_Aligner_align_35 rfl ?_
      refine wp_aload_n (pc := 36) d_Aligner_align_36 rfl ?_
      refine wp_aload_n (pc := 37) d_Aligner_align_37 rfl ?_
      refine wp_iload_n (pc := 38) d_Aligner_align_38 rfl ?_
      have e1 : M27 t 1 = M t 1 := h27.1 t (by omega) 1
      have e2 : M27 s 1 = M s 1 := h27.1 s (by omega) 1
      have e3 : ∀ k, M27 (t + 1) k = M (t + 1) k := h27.1 (t + 1) (by omega)
      have e4 : ∀ k, M27 (s + 1) k = M (s + 1) k := h27.1 (s + 1) (by omega)
      have e5 : M t 1 - M s 1 ≤ b ∧ M s 1 - M t 1 ≤ b := by split at c13 <;> omega
      refine wp_callV3v (pc := 39) d_Aligner_align_39 rfl rfl (zk_10 L) rfl rfl (c_Ar_fill ht hs ht1 ht2 hs1 hs2 (hst.keep h27.1 (fun a ha => by omega)) (by rw [e1]; exact n10) (by rw [e1]; exact n11) (by rw [e2]; exact n20) (by rw [e2]; exact n21) hb0 hb9 (fun k hk => by rw [e3]; exact hc1 k (by omega)) (fun k hk => by rw [e4]; exact hc2 k (by omega))) (fun M39 h39 => ?_)
      have k1 : M39 t 1 = M t 1 := (h39.1 t (by omega) 1).trans e1
      have k2 : M39 s 1 = M s 1 := (h39.1 s (by omega) 1).trans e2
      have k3 : ∀ k, M39 (t + 1) k = M (t + 1) k := fun k => (h39.1 (t + 1) (by omega) k).trans (e3 k)
      have k4 : ∀ k, M39 (s + 1) k = M (s + 1) k := fun k => (h39.1 (s + 1) (by omega) k).trans (e4 k)
      have q1 : qTx M27 t = qTx M t := qTx_eq e1 e3
      have q2 : qTx M27 s = qTx M s := qTx_eq e2 e4
      have q3 : qTx M39 t = qTx M t := qTx_eq k1 k3
      have q4 : qTx M39 s = qTx M s := qTx_eq k2 k4
      have k5 := h39.2
      rw [q1, q2, e1, e2] at k5
      refine wp_aload_n (pc := 42) d_Aligner_align_42 rfl ?_
      refine wp_aload_n (pc := 43) d_Aligner_align_43 rfl ?_
      refine wp_aload_n (pc := 44) d_Aligner_align_44 rfl ?_
      refine wp_aload (pc := 45) d_Aligner_align_45 rfl ?_
      refine wp_callV3v (pc := 47) d_Aligner_align_47 rfl rfl (zk_10 L) rfl rfl (c_Ar_trace hr hr11 hrt hrs ht hs ht1 ht2 hs1 hs2 ((hst.keep h27.1 (fun a ha => by omega)).keep h39.1 (fun a ha => by omega)) (by rw [k1]; exact n10) (by rw [k1]; exact n11) (by rw [k2]; exact n20) (by rw [k2]; exact n21) hb0 hb9 (fun k hk => by rw [k3]; exact hc1 k (by omega)) (fun k hk => by rw [k4]; exact hc2 k (by omega)) (by rw [k1, k2]; exact e5) ((h39.1 r (by omega) 3).trans h27.2.2.1) (fun k hk => (h39.1 (r + 2) (by omega) k).trans ((h27.2.2.2 k hk).trans (if_neg (by decide)))) (by rw [q3, q4, k1, k2]; exact k5)) (fun M47 h47 => ?_)
      refine wp_return_ (pc := 50) d_Aligner_align_50 rfl ?_
      have h5 := h47.2
      rw [q3, q4, k1, k2] at h5
      refine ⟨rfl, ((h27.1.up (fun a ha => by omega)).tr (h39.1.up (fun a ha => by omega))).tr (h47.1.up (fun a ha => by omega)), ?_, fun _ => ⟨?_, h5⟩, fun z => absurd e5 z⟩
      · exact (h47.1 r (by omega) 2).trans ((h39.1 r (by omega) 2).trans h27.2.1)
      · exact (h47.1 r (by omega) 3).trans ((h39.1 r (by omega) 3).trans h27.2.2.1)
end ZAl2
