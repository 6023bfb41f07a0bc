/-! Collation with its alignments; Stemma.build -/
def qDC (M : zM) : qDt := (fun c => if 0 ≤ c ∧ c < M 7 3 then qTx M (12 + 2 * c.toNat) else fun _ => -1, fun c => if 0 ≤ c ∧ c < M 7 3 then M (12 + 2 * c.toNat) 1 else 0, M 7 4, M 7 3)
theorem qDC_1 {M : zM} {c : Int} (h0 : 0 ≤ c) (h1 : c < M 7 3) : (qDC M).1 c = qTx M (12 + 2 * c.toNat) := if_pos ⟨h0, h1⟩
theorem qDC_2 {M : zM} {c : Int} (h0 : 0 ≤ c) (h1 : c < M 7 3) : (qDC M).2.1 c = M (12 + 2 * c.toNat) 1 := if_pos ⟨h0, h1⟩
theorem qDC_keep {S : Nat → Prop} {M M' : zM} (n6 : M 7 3 ≤ 6) (h : zSm S M M') (h7 : ¬ S 7) (ht : ∀ a, 12 ≤ a → a < 24 → ¬ S a) : qDC M' = qDC M := by
  unfold qDC
  rw [h 7 h7 3, h 7 h7 4]
  have e1 : ∀ c : Int, 0 ≤ c ∧ c < M 7 3 → qTx M' (12 + 2 * c.toNat) = qTx M (12 + 2 * c.toNat) := fun c hc => qTx_eq (h _ (ht _ (by omega) (by omega)) 1) (h _ (ht _ (by omega) (by omega)))
  have e2 : ∀ c : Int, 0 ≤ c ∧ c < M 7 3 → M' (12 + 2 * c.toNat) 1 = M (12 + 2 * c.toNat) 1 := fun c hc => h _ (ht _ (by omega) (by omega)) 1
  refine Prod.ext ?_ (Prod.ext ?_ rfl)
  · funext c
    show (if _ then _ else _) = if _ then _ else _
    by_cases hc : 0 ≤ c ∧ c < M 7 3
    · rw [if_pos hc, if_pos hc, e1 c hc]
    · rw [if_neg hc, if_neg hc]
  · funext c
    show (if _ then _ else _) = if _ then _ else _
    by_cases hc : 0 ≤ c ∧ c < M 7 3
    · rw [if_pos hc, if_pos hc, e2 c hc]
    · rw [if_neg hc, if_neg hc]
/-- what holds of the copies, the band and the alignments -/
def qCi (M : zM) : Prop := zSt M ∧ (0 ≤ M 7 3 ∧ M 7 3 ≤ 6) ∧ (0 ≤ M 7 4 ∧ M 7 4 ≤ 9) ∧ (∀ c : Nat, (c : Int) < M 7 3 → qTk M (12 + 2 * c)) ∧ (∀ p : Nat, p < 36 → M (24 + 3 * p) 2 = 0 ∨ M (24 + 3 * p) 2 = 1) ∧ ∀ x y : Int, 0 ≤ x → x < M 7 3 → 0 ≤ y → y < M 7 3 → M (24 + 3 * (x * 6 + y).toNat) 2 = 0 ∨ M (24 + 3 * (x * 6 + y).toNat) 2 = 1 ∧ qKm M x y
theorem qCi.keep {S : Nat → Prop} {M M' : zM} (h : qCi M) (hs : zSm S M M') (h1 : ∀ a, a < 132 → ¬ a = 11 → ¬ S a) : qCi M' := by
  obtain ⟨a1, a2, a3, a4, a5, a6⟩ := h
  have e : ∀ a, a < 132 → ¬ a = 11 → ∀ k, M' a k = M a k := fun a ha h11 => hs a (h1 a ha h11)
  refine ⟨fun a ha k => by rw [e a (by omega) (by omega)]; exact a1 a ha k, by rw [e 7 (by decide) (by decide)]; exact a2, by rw [e 7 (by decide) (by decide)]; exact a3, fun c hc => ?_, fun p hp => by rw [e _ (by omega) (by omega)]; exact a5 p hp, fun x y x0 x1 y0 y1 => ?_⟩
  · rw [e 7 (by decide) (by decide)] at hc
    have := a4 c hc
    unfold qTk at this ⊢
    rw [e _ (by omega) (by omega)]
    exact ⟨this.1, this.2.1, fun k hk => by rw [e _ (by omega) (by omega)]; exact this.2.2 k hk⟩
  · rw [e 7 (by decide) (by decide)] at x1 y1
    rw [e _ (by omega) (by omega)]
    exact (a6 x y x0 x1 y0 y1).imp id (fun z => ⟨z.1, z.2.keep (e _ (by omega) (by omega)) (e _ (by omega) (by omega)) (e _ (by omega) (by omega)) (e _ (by omega) (by omega)) (e _ (by omega) (by omega)) (e _ (by omega) (by omega)) (e _ (by omega) (by omega)) (e _ (by omega) (by omega) 4)⟩)
theorem qKm_ta {M : zM} {x y w : Int} (h : qKm M x y) (x0 : 0 ≤ x) (x1 : x < M 7 3) (y0 : 0 ≤ y) (y1 : y < M 7 3) (w0 : 0 ≤ w) (w6 : w ≤ 6) : M (24 + 3 * (x * 6 + y).toNat + 2) w.toNat = uTa (qDC M) x y w := by
  unfold uTa uIn
  unfold qKm qKn at h
  obtain ⟨_, h1, h2⟩ := h
  rw [qDC_2 x0 x1, qDC_2 y0 y1, qDC_1 x0 x1, qDC_1 y0 y1, show (qDC M).2.2.1 = M 7 4 from rfl]
  by_cases hb : M (12 + 2 * x.toNat) 1 - M (12 + 2 * y.toNat) 1 ≤ M 7 4 ∧ M (12 + 2 * y.toNat) 1 - M (12 + 2 * x.toNat) 1 ≤ M 7 4
  · rw [if_pos hb]
    obtain ⟨_, K, k1, k2, k3, k4, k5, k6⟩ := h1 hb
    have hK : uK (qDC M) x y = K := uK_at (by rw [qDC_2 x0 x1, qDC_2 y0 y1, qDC_1 x0 x1, qDC_1 y0 y1]; exact k1) k2
    rw [hK]
    by_cases e0 : w = 0
    · rw [if_pos e0, e0]; exact k4
    · rw [if_neg e0]
      by_cases e1 : w = 1
      · rw [if_pos e1, e1]; exact k3
      · rw [if_neg e1]; exact k5 w (by omega) w6
  · rw [if_neg hb]
    exact (h2 hb).2 _ (by omega)
theorem qKm_fo {M : zM} {x y : Int} (h : qKm M x y) (x0 : 0 ≤ x) (x1 : x < M 7 3) (y0 : 0 ≤ y) (y1 : y < M 7 3) : (uIn (qDC M) x y → M (24 + 3 * (x * 6 + y).toNat) 3 = 1) ∧ (¬ uIn (qDC M) x y → M (24 + 3 * (x * 6 + y).toNat) 3 = 0) := by
  unfold uIn
  unfold qKm qKn at h
  rw [qDC_2 x0 x1, qDC_2 y0 y1]
  exact ⟨fun z => (h.2.1 z).1, fun z => (h.2.2 z).1⟩
/-- the steps -/
theorem qKm_st {M : zM} {x y : Int} (h : qKm M x y) (x0 : 0 ≤ x) (x1 : x < M 7 3) (y0 : 0 ≤ y) (y1 : y < M 7 3) (hi : uIn (qDC M) x y) : qEn (qTx M (12 + 2 * x.toNat)) (qTx M (12 + 2 * y.toNat)) (M (12 + 2 * x.toNat) 1) (M (12 + 2 * y.toNat) 1) (M 7 4) (uK (qDC M) x y) ∧ uK (qDC M) x y ≤ 48 ∧ M (24 + 3 * (x * 6 + y).toNat + 2) 1 = (uK (qDC M) x y : Int) ∧ ∀ q, q < uK (qDC M) x y → M (24 + 3 * (x * 6 + y).toNat + 1) q = qSt (qTx M (12 + 2 * x.toNat)) (qTx M (12 + 2 * y.toNat)) (M (12 + 2 * x.toNat) 1) (M (12 + 2 * y.toNat) 1) (M 7 4) q := by
  unfold uIn at hi
  unfold qKm qKn at h
  rw [qDC_2 x0 x1, qDC_2 y0 y1] at hi
  obtain ⟨_, K, k1, k2, k3, k4, k5, k6⟩ := h.2.1 hi
  have hK : uK (qDC M) x y = K := uK_at (by rw [qDC_2 x0 x1, qDC_2 y0 y1, qDC_1 x0 x1, qDC_1 y0 y1]; exact k1) k2
  rw [hK]
  exact ⟨k1, k2, k3, k6⟩
section ZBu
variable {L : Nat} {M : zM} {x y : Int}
theorem c_Co_bestI (h : qCi M) (x0 : 0 ≤ x) (x1 : x < M 7 3) (y0 : 0 ≤ y) (y1 : y < M 7 3) : Cr L 3 zm_Coll_best [rV 7, iV x, iV y] M (24 + 3 * (x * 6 + y).toNat) (fun M' => zSm (fun a => a = 11 ∨ (24 ≤ a ∧ a < 132)) M M' ∧ qCi M' ∧ qDC M' = qDC M ∧ qKm M' x y) := by
  obtain ⟨a1, a2, a3, a4, a5, a6⟩ := h
  refine wpc_mono (c_Co_best a1 x0 x1 y0 y1 a2.2 (a4 x.toNat (by omega)) (a4 y.toNat (by omega)) a3.1 a3.2 (a6 x y x0 x1 y0 y1)) (fun r M' hr => ?_)
  obtain ⟨hr0, h1, h2⟩ := hr
  have e7 : ∀ k, M' 7 k = M 7 k := h1 7 (by omega)
  have eT : ∀ a, 12 ≤ a → a < 24 → ∀ k, M' a k = M a k := fun a b1 b2 => h1 a (by omega)
  refine ⟨hr0, h1.up (fun a ha => by omega), ⟨a1.keep h1 (fun a ha => by omega), by rw [e7]; exact a2, by rw [e7]; exact a3, fun c hc => ?_, fun p hp => ?_, fun u v u0 u1 v0 v1 => ?_⟩, qDC_keep a2.2 h1 (by omega) (fun a b1 b2 => by omega), h2⟩
  · rw [e7] at hc
    have := a4 c hc
    unfold qTk at this ⊢
    rw [eT _ (by omega) (by omega)]
    exact ⟨this.1, this.2.1, fun k hk => by rw [eT _ (by omega) (by omega)]; exact this.2.2 k hk⟩
  · by_cases e : p = (x * 6 + y).toNat
    · rw [e]; exact Or.inr h2.1
    · rw [h1 _ (by omega)]; exact a5 p hp
  · rw [e7] at u1 v1
    by_cases e : u = x ∧ v = y
    · rw [e.1, e.2]; exact Or.inr ⟨h2.1, h2⟩
    · rw [h1 (24 + 3 * (u * 6 + v).toNat) (by omega)]
      exact (a6 u v u0 u1 v0 v1).imp id (fun z => ⟨z.1, z.2.keep (h1 _ (by omega)) (h1 _ (by omega)) (h1 _ (by omega)) (h1 _ (by omega)) (h1 _ (by omega)) (h1 _ (by omega)) (h1 _ (by omega)) (e7 4)⟩)
/-- the memory of a stemma behind k copies -/
def qGm (M : zM) (D : qDt) (k : Nat) : Prop := M 132 9 = uPl D ∧ M 132 8 = (uG D k).1 ∧ M 132 10 = (uG D k).2.1 ∧ (∀ s : Int, 0 ≤ s → s < (uG D k).1 → M 141 s.toNat = (uG D k).2.2.1 s ∧ M 142 s.toNat = (uG D k).2.2.2.1 s) ∧ (∀ c : Int, 0 ≤ c → c < k → M 140 c.toNat = (uG D k).2.2.2.2 c) ∧ (∀ c : Int, 0 ≤ c → c < k → uIn D 0 c → ∀ p : Int, 0 ≤ p → p < uPl D → M (134 + c.toNat) p.toNat = uRd D c p)
theorem qGm.keep {S : Nat → Prop} {M M' : zM} {D : qDt} {k : Nat} (h : qGm M D k) (hk : k ≤ 6) (hs : zSm S M M') (h1 : ∀ a, 132 ≤ a → a < 143 → ¬ S a) : qGm M' D k := by
  have e : ∀ a, 132 ≤ a → a < 143 → ∀ k, M' a k = M a k := fun a a1 a2 => hs a (h1 a a1 a2)
  obtain ⟨b1, b2, b3, b4, b5, b6⟩ := h
  refine ⟨by rw [e 132 (by decide) (by decide)]; exact b1, by rw [e 132 (by decide) (by decide)]; exact b2, by rw [e 132 (by decide) (by decide)]; exact b3, fun s s0 s1 => ?_, fun c c0 c1 => ?_, fun c c0 c1 ci p p0 p1 => ?_⟩
  · rw [e 141 (by decide) (by decide), e 142 (by decide) (by decide)]; exact b4 s s0 s1
  · rw [e 140 (by decide) (by decide)]; exact b5 c c0 c1
  · rw [e _ (by omega) (by omega)]; exact b6 c c0 c1 ci p p0 p1
/-- differences, as the memory has them -/
theorem qGm_df {M : zM} {D : qDt} {P : Int → Prop} (h9 : M 132 9 = uPl D) (h : ∀ c : Int, 0 ≤ c → c < 6 → P c → ∀ p : Int, 0 ≤ p → p < uPl D → M (134 + c.toNat) p.toNat = uRd D c p) {c c' : Int} (c0 : 0 ≤ c ∧ c < 6) (c1 : 0 ≤ c' ∧ c' < 6) (hc : P c) (hc' : P c') : qDf M c c' = uDf D c c' := by
  unfold qDf uDf
  rw [h9]
  refine qN_congr (fun p p0 p1 => ?_)
  have e : ∀ c : Int, 0 ≤ c ∧ c < 6 → P c → qR M c p = uRd D c p := fun c c0 hc => by
    unfold qR
    rw [h9, if_pos ⟨c0, by omega⟩]
    exact h c c0.1 c0.2 hc p p0 (by omega)
  rw [e c c0 hc, e c' c1 hc']
theorem qGm_in {M M' : zM} {D : qDt} {k : Nat} (hb : 0 ≤ D.2.2.1) (h : qGm M D k) (hk6 : k < 6) (hin : uIn D 0 k) (hrow : ∀ p : Int, 0 ≤ p → p < uPl D → M (134 + k) p.toNat = uRd D k p)
    (hG : if qFd (fun s => qDf M (M 141 s.toNat) (k : Int)) (M 132 8).toNat 0 < M 132 8 then M' = zU (zU M 140 (k : Int).toNat (qFd (fun s => qDf M (M 141 s.toNat) (k : Int)) (M 132 8).toNat 0)) 142 (qFd (fun s => qDf M (M 141 s.toNat) (k : Int)) (M 132 8).toNat 0).toNat (M 142 (qFd (fun s => qDf M (M 141 s.toNat) (k : Int)) (M 132 8).toNat 0).toNat + 1) else M' = zU (zU (zU (zU M 140 (k : Int).toNat (M 132 8)) 141 (M 132 8).toNat (k : Int)) 142 (M 132 8).toNat 1) 132 8 (M 132 8 + 1)) : qGm M' D (k + 1) := by
  obtain ⟨b1, b2, b3, b4, b5, b6⟩ := h
  obtain ⟨d1, d2, d3, d4, d5⟩ := uG_b D hb k
  have hfd : qFd (fun s => qDf M (M 141 s.toNat) (k : Int)) (M 132 8).toNat 0 = uFs D (uG D k) k := by
    rw [b2]
    refine qFd_congr _ _ (fun s s0 s1 => ?_)
    have hs := d4 s s0 (by omega)
    rw [(b4 s s0 (by omega)).1]
    exact qGm_df (P := fun c => c < k ∧ uIn D 0 c ∨ c = k) b1 (fun c c0 _ hc p p0 p1 => by
      rcases hc with z | z
      · exact b6 c c0 z.1 z.2 p p0 p1
      · rw [z]; exact hrow p p0 p1) (by omega) (by omega) (Or.inl ⟨by omega, hs.2.1⟩) (Or.inr rfl)
  have hf := qFd_b (fun s => uDf D ((uG D k).2.2.1 s) k) (uG D k).1.toNat 0
  rw [show qFd (fun s => uDf D ((uG D k).2.2.1 s) k) (uG D k).1.toNat 0 = uFs D (uG D k) k from rfl] at hf
  rw [hfd, b2] at hG
  have hu : uG D (k + 1) = uGs D (uG D k) (k : Int) := rfl
  unfold qGm
  rw [hu]
  unfold uGs
  rw [if_pos hin]
  generalize uFs D (uG D k) k = f at hf hG hfd
  by_cases c2 : f < (uG D k).1
  · rw [if_pos c2] at hG ⊢
    simp only [qPut]
    have e : ∀ a, ¬ a = 140 → ¬ a = 142 → ∀ j, M' a j = M a j := fun a a1 a2 j => by rw [hG, zU_na a2, zU_na a1]
    refine ⟨by rw [e 132 (by decide) (by decide)]; exact b1, by rw [e 132 (by decide) (by decide)]; exact b2, by rw [e 132 (by decide) (by decide)]; exact b3, fun s s0 s1 => ⟨?_, ?_⟩, fun c c0 c1 => ?_, fun c c0 c1 ci p p0 p1 => ?_⟩
    · rw [e 141 (by decide) (by decide)]; exact (b4 s s0 s1).1
    · rw [hG]
      by_cases es : s = f
      · rw [if_pos es, es, zU_eq, (b4 f (by omega) c2).2]
      · rw [if_neg es, zU_nk (by omega), zU_na (by decide)]; exact (b4 s s0 s1).2
    · rw [hG, zU_na (by decide)]
      by_cases es : c = k
      · rw [if_pos es, es, zU_eq]
      · rw [if_neg es, zU_nk (by omega)]; exact b5 c c0 (by omega)
    · rw [e _ (by omega) (by omega)]
      by_cases es : c = k
      · rw [es]; exact hrow p p0 p1
      · exact b6 c c0 (by omega) ci p p0 p1
  · rw [if_neg c2] at hG ⊢
    simp only [qPut]
    have e : ∀ a, ¬ a = 140 → ¬ a = 141 → ¬ a = 142 → ¬ a = 132 → ∀ j, M' a j = M a j := fun a a1 a2 a3 a4 j => by rw [hG, zU_na a4, zU_na a3, zU_na a2, zU_na a1]
    have e2 : ∀ j, ¬ j = 8 → M' 132 j = M 132 j := fun j hj => by rw [hG, zU_nk hj, zU_na (by decide), zU_na (by decide), zU_na (by decide)]
    refine ⟨by rw [e2 9 (by decide)]; exact b1, by rw [hG, zU_eq], by rw [e2 10 (by decide)]; exact b3, fun s s0 s1 => ⟨?_, ?_⟩, fun c c0 c1 => ?_, fun c c0 c1 ci p p0 p1 => ?_⟩
    · rw [hG, zU_na (by decide), zU_na (by decide)]
      by_cases es : s = (uG D k).1
      · rw [if_pos es, es, zU_eq]
      · rw [if_neg es, zU_nk (by omega), zU_na (by decide)]; exact (b4 s s0 (by omega)).1
    · rw [hG, zU_na (by decide)]
      by_cases es : s = (uG D k).1
      · rw [if_pos es, es, zU_eq]
      · rw [if_neg es, zU_nk (by omega), zU_na (by decide), zU_na (by decide)]; exact (b4 s s0 (by omega)).2
    · rw [hG, zU_na (by decide), zU_na (by decide), zU_na (by decide)]
      by_cases es : c = k
      · rw [if_pos es, es, zU_eq]
      · rw [if_neg es, zU_nk (by omega)]; exact b5 c c0 (by omega)
    · rw [e _ (by omega) (by omega) (by omega) (by omega)]
      by_cases es : c = k
      · rw [es]; exact hrow p p0 p1
      · exact b6 c c0 (by omega) ci p p0 p1
theorem qGm_out {M : zM} {D : qDt} {k : Nat} (h : qGm M D k) (hk6 : k < 6) (hin : ¬ uIn D 0 k) : qGm (zU (zU M 140 (k : Int).toNat (-1)) 132 10 (M 132 10 + 1)) D (k + 1) := by
  obtain ⟨b1, b2, b3, b4, b5, b6⟩ := h
  have hu : uG D (k + 1) = uGs D (uG D k) (k : Int) := rfl
  unfold qGm
  rw [hu]
  unfold uGs
  rw [if_neg hin]
  simp only [qPut]
  refine ⟨by rw [zU_nk (by decide), zU_na (by decide)]; exact b1, by rw [zU_nk (by decide), zU_na (by decide)]; exact b2, by rw [zU_eq, b3], fun s s0 s1 => ?_, fun c c0 c1 => ?_, fun c c0 c1 ci p p0 p1 => ?_⟩
  · rw [zU_na (by decide), zU_na (by decide), zU_na (by decide), zU_na (by decide)]; exact b4 s s0 s1
  · rw [zU_na (by decide)]
    by_cases es : c = k
    · rw [if_pos es, es, zU_eq]
    · rw [if_neg es, zU_nk (by omega)]; exact b5 c c0 (by omega)
  · rw [zU_na (by omega), zU_na (by omega)]
    exact b6 c c0 (by
      by_cases es : c = k
      · exact absurd (es ▸ ci) hin
      · omega) ci p p0 p1
end ZBu
