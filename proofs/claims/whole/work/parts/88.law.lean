/-! the law: the calls of a script, one by one -/
theorem zk_s (L : Nat) : zkd L 3 = some (20, L) := rfl
theorem zsw23 (lo a : Int) : (a < lo ∨ lo + 22 < a) ∨ a = lo ∨ a = lo + 1 ∨ a = lo + 2 ∨ a = lo + 3 ∨ a = lo + 4 ∨ a = lo + 5 ∨ a = lo + 6 ∨ a = lo + 7 ∨ a = lo + 8 ∨ a = lo + 9 ∨ a = lo + 10 ∨ a = lo + 11 ∨ a = lo + 12 ∨ a = lo + 13 ∨ a = lo + 14 ∨ a = lo + 15 ∨ a = lo + 16 ∨ a = lo + 17 ∨ a = lo + 18 ∨ a = lo + 19 ∨ a = lo + 20 ∨ a = lo + 21 ∨ a = lo + 22 := by
  by_cases h : a < lo ∨ lo + 22 < a
  · exact Or.inl h
  · right
    omega
theorem lg_0 {a b : Int64} (h : a = b) : (lg_cmp a b).toInt = 0 := by
  rw [(lg_cmp_eq a b).2 h]; rfl
section ZLw
variable {L : Nat} {xs : Nat → Int32} {n : Int} {v : jT} {M : zM} {i : Int}
theorem law_letter {Qx : Option zV → zM → Prop} (hL : L ≤ 2560) (i0 : 0 ≤ i) (i5 : i + 5 ≤ L) (hn : 0 ≤ n ∧ n ≤ 512) (J : jC xs n v M) (K : jM v M) (P : jP n v) (hq : ∀ (v' : jT) (M' : zM), jC xs (n + 1) v' M' → jM v' M' → jP (n + 1) v' → wp L 40 zm_law 780 [rV 3, rV 4, rV 174, iV i] [] M' Qx) : wp L 40 zm_law 140 [rV 3, rV 4, rV 174, iV i] [] M Qx := by
  have hxM := J.2.2.2.2
  refine wp_aload_n (pc := 140) d_law_140 rfl ?_
  refine wp_aload_n (pc := 141) d_law_141 rfl ?_
  refine wp_iload_n (pc := 142) d_law_142 rfl ?_
  refine wp_iconst (pc := 143) d_law_143 rfl ?_
  refine wp_iadd (pc := 144) d_law_144 (by omega) (by omega) ?_
  refine wp_iald (pc := 145) d_law_145 (zk_s L) (by omega) (by omega) ?_
  rw [hxM]
  refine wp_callV1i (pc := 146) d_law_146 rfl rfl (zk_4 L) rfl rfl (jc_letter J) (fun x146 M146 h146 => ?_)
  have hx1 : ∀ k, M146 3 k = (xs k).toInt := fun k => (h146.1 3 (by omega) k).trans (hxM k)
  refine wp_aload_n (pc := 149) d_law_149 rfl ?_
  refine wp_aload_n (pc := 150) d_law_150 rfl ?_
  refine wp_iload_n (pc := 151) d_law_151 rfl ?_
  refine wp_iconst (pc := 152) d_law_152 rfl ?_
  refine wp_iadd (pc := 153) d_law_153 (by omega) (by omega) ?_
  refine wp_iald (pc := 154) d_law_154 (zk_s L) (by omega) (by omega) ?_
  rw [hx1]
  refine wp_callV1i (pc := 155) d_law_155 rfl rfl (zk_174 L) rfl rfl (jm_letter (K.keep h146.1) P) (fun x155 M155 h155 => ?_)
  refine wp_icmp_eq (tgt := 780) (pc := 158) d_law_158 rfl (fun c158 => ?_) (fun c158 => ?_)
  · obtain ⟨s1, v1, r1, j1⟩ := h146
    obtain ⟨s2, v2, r2, j2⟩ := h155
    obtain ⟨ez, es⟩ := dLt r1 r2
    subst es
    exact hq v1 M155 (j1.keep s2) j2 (pLt P r1)
  · obtain ⟨s1, v1, r1, j1⟩ := h146
    obtain ⟨s2, v2, r2, j2⟩ := h155
    obtain ⟨ez, es⟩ := dLt r1 r2
    exact absurd ez c158
theorem law_blank {Qx : Option zV → zM → Prop} (hL : L ≤ 2560) (i0 : 0 ≤ i) (i5 : i + 5 ≤ L) (hn : 0 ≤ n ∧ n ≤ 512) (J : jC xs n v M) (K : jM v M) (P : jP n v) (hq : ∀ (v' : jT) (M' : zM), jC xs (n + 1) v' M' → jM v' M' → jP (n + 1) v' → wp L 40 zm_law 780 [rV 3, rV 4, rV 174, iV i] [] M' Qx) : wp L 40 zm_law 163 [rV 3, rV 4, rV 174, iV i] [] M Qx := by
  have hxM := J.2.2.2.2
  refine wp_aload_n (pc := 163) d_law_163 rfl ?_
  refine wp_callV0i (pc := 164) d_law_164 rfl rfl (zk_4 L) rfl rfl (jc_blank J) (fun x164 M164 h164 => ?_)
  have hx1 : ∀ k, M164 3 k = (xs k).toInt := fun k => (h164.1 3 (by omega) k).trans (hxM k)
  refine wp_aload_n (pc := 167) d_law_167 rfl ?_
  refine wp_callV0i (pc := 168) d_law_168 rfl rfl (zk_174 L) rfl rfl (jm_blank (K.keep h164.1) P) (fun x168 M168 h168 => ?_)
  refine wp_icmp_eq (tgt := 780) (pc := 171) d_law_171 rfl (fun c171 => ?_) (fun c171 => ?_)
  · obtain ⟨s1, v1, r1, j1⟩ := h164
    obtain ⟨s2, v2, r2, j2⟩ := h168
    obtain ⟨ez, es⟩ := dBl r1 r2
    subst es
    exact hq v1 M168 (j1.keep s2) j2 (pBl P r1)
  · obtain ⟨s1, v1, r1, j1⟩ := h164
    obtain ⟨s2, v2, r2, j2⟩ := h168
    obtain ⟨ez, es⟩ := dBl r1 r2
    exact absurd ez c171
theorem law_copy {Qx : Option zV → zM → Prop} (hL : L ≤ 2560) (i0 : 0 ≤ i) (i5 : i + 5 ≤ L) (hn : 0 ≤ n ∧ n ≤ 512) (J : jC xs n v M) (K : jM v M) (P : jP n v) (hq : ∀ (v' : jT) (M' : zM), jC xs (n + 1) v' M' → jM v' M' → jP (n + 1) v' → wp L 40 zm_law 780 [rV 3, rV 4, rV 174, iV i] [] M' Qx) : wp L 40 zm_law 176 [rV 3, rV 4, rV 174, iV i] [] M Qx := by
  have hxM := J.2.2.2.2
  refine wp_aload_n (pc := 176) d_law_176 rfl ?_
  refine wp_callV0i (pc := 177) d_law_177 rfl rfl (zk_4 L) rfl rfl (jc_copy J P hn.2) (fun x177 M177 h177 => ?_)
  have hx1 : ∀ k, M177 3 k = (xs k).toInt := fun k => (h177.1 3 (by omega) k).trans (hxM k)
  refine wp_aload_n (pc := 180) d_law_180 rfl ?_
  refine wp_callV0i (pc := 181) d_law_181 rfl rfl (zk_174 L) rfl rfl (jm_copy (K.keep h177.1) P hn.2) (fun x181 M181 h181 => ?_)
  refine wp_icmp_eq (tgt := 780) (pc := 184) d_law_184 rfl (fun c184 => ?_) (fun c184 => ?_)
  · obtain ⟨s1, v1, r1, j1⟩ := h177
    obtain ⟨s2, v2, r2, j2⟩ := h181
    obtain ⟨ez, es⟩ := dCpy r1 r2
    subst es
    exact hq v1 M181 (j1.keep s2) j2 (pCp P r1)
  · obtain ⟨s1, v1, r1, j1⟩ := h177
    obtain ⟨s2, v2, r2, j2⟩ := h181
    obtain ⟨ez, es⟩ := dCpy r1 r2
    exact absurd ez c184
theorem law_correct {Qx : Option zV → zM → Prop} (hL : L ≤ 2560) (i0 : 0 ≤ i) (i5 : i + 5 ≤ L) (hn : 0 ≤ n ∧ n ≤ 512) (J : jC xs n v M) (K : jM v M) (P : jP n v) (hq : ∀ (v' : jT) (M' : zM), jC xs (n + 1) v' M' → jM v' M' → jP (n + 1) v' → wp L 40 zm_law 780 [rV 3, rV 4, rV 174, iV i] [] M' Qx) : wp L 40 zm_law 189 [rV 3, rV 4, rV 174, iV i] [] M Qx := by
  have hxM := J.2.2.2.2
  refine wp_aload_n (pc := 189) d_law_189 rfl ?_
  refine wp_aload_n (pc := 190) d_law_190 rfl ?_
  refine wp_iload_n (pc := 191) d_law_191 rfl ?_
  refine wp_iconst (pc := 192) d_law_192 rfl ?_
  refine wp_iadd (pc := 193) d_law_193 (by omega) (by omega) ?_
  refine wp_iald (pc := 194) d_law_194 (zk_s L) (by omega) (by omega) ?_
  rw [hxM]
  refine wp_callV1i (pc := 195) d_law_195 rfl rfl (zk_4 L) rfl rfl (jc_correct J P hn.2) (fun x195 M195 h195 => ?_)
  have hx1 : ∀ k, M195 3 k = (xs k).toInt := fun k => (h195.1 3 (by omega) k).trans (hxM k)
  refine wp_aload_n (pc := 198) d_law_198 rfl ?_
  refine wp_aload_n (pc := 199) d_law_199 rfl ?_
  refine wp_iload_n (pc := 200) d_law_200 rfl ?_
  refine wp_iconst (pc := 201) d_law_201 rfl ?_
  refine wp_iadd (pc := 202) d_law_202 (by omega) (by omega) ?_
  refine wp_iald (pc := 203) d_law_203 (zk_s L) (by omega) (by omega) ?_
  rw [hx1]
  refine wp_callV1i (pc := 204) d_law_204 rfl rfl (zk_174 L) rfl rfl (jm_correct (K.keep h195.1) P hn.2) (fun x204 M204 h204 => ?_)
  refine wp_icmp_eq (tgt := 780) (pc := 207) d_law_207 rfl (fun c207 => ?_) (fun c207 => ?_)
  · obtain ⟨s1, v1, r1, j1⟩ := h195
    obtain ⟨s2, v2, r2, j2⟩ := h204
    obtain ⟨ez, es⟩ := dCr r1 r2
    subst es
    exact hq v1 M204 (j1.keep s2) j2 (pCr P r1)
  · obtain ⟨s1, v1, r1, j1⟩ := h195
    obtain ⟨s2, v2, r2, j2⟩ := h204
    obtain ⟨ez, es⟩ := dCr r1 r2
    exact absurd ez c207
theorem law_drop {Qx : Option zV → zM → Prop} (hL : L ≤ 2560) (i0 : 0 ≤ i) (i5 : i + 5 ≤ L) (hn : 0 ≤ n ∧ n ≤ 512) (J : jC xs n v M) (K : jM v M) (P : jP n v) (hq : ∀ (v' : jT) (M' : zM), jC xs (n + 1) v' M' → jM v' M' → jP (n + 1) v' → wp L 40 zm_law 780 [rV 3, rV 4, rV 174, iV i] [] M' Qx) : wp L 40 zm_law 212 [rV 3, rV 4, rV 174, iV i] [] M Qx := by
  have hxM := J.2.2.2.2
  refine wp_aload_n (pc := 212) d_law_212 rfl ?_
  refine wp_callV0i (pc := 213) d_law_213 rfl rfl (zk_4 L) rfl rfl (jc_drop J hn.2) (fun x213 M213 h213 => ?_)
  have hx1 : ∀ k, M213 3 k = (xs k).toInt := fun k => (h213.1 3 (by omega) k).trans (hxM k)
  refine wp_aload_n (pc := 216) d_law_216 rfl ?_
  refine wp_callV0i (pc := 217) d_law_217 rfl rfl (zk_174 L) rfl rfl (jm_drop (K.keep h213.1) P) (fun x217 M217 h217 => ?_)
  refine wp_icmp_eq (tgt := 780) (pc := 220) d_law_220 rfl (fun c220 => ?_) (fun c220 => ?_)
  · obtain ⟨s1, v1, r1, j1⟩ := h213
    obtain ⟨s2, v2, r2, j2⟩ := h217
    obtain ⟨ez, es⟩ := dDr r1 r2
    subst es
    exact hq v1 M217 (j1.keep s2) j2 (pDr P r1)
  · obtain ⟨s1, v1, r1, j1⟩ := h213
    obtain ⟨s2, v2, r2, j2⟩ := h217
    obtain ⟨ez, es⟩ := dDr r1 r2
    exact absurd ez c220
theorem law_band {Qx : Option zV → zM → Prop} (hL : L ≤ 2560) (i0 : 0 ≤ i) (i5 : i + 5 ≤ L) (hn : 0 ≤ n ∧ n ≤ 512) (J : jC xs n v M) (K : jM v M) (P : jP n v) (hq : ∀ (v' : jT) (M' : zM), jC xs (n + 1) v' M' → jM v' M' → jP (n + 1) v' → wp L 40 zm_law 780 [rV 3, rV 4, rV 174, iV i] [] M' Qx) : wp L 40 zm_law 225 [rV 3, rV 4, rV 174, iV i] [] M Qx := by
  have hxM := J.2.2.2.2
  refine wp_aload_n (pc := 225) d_law_225 rfl ?_
  refine wp_aload_n (pc := 226) d_law_226 rfl ?_
  refine wp_iload_n (pc := 227) d_law_227 rfl ?_
  refine wp_iconst (pc := 228) d_law_228 rfl ?_
  refine wp_iadd (pc := 229) d_law_229 (by omega) (by omega) ?_
  refine wp_iald (pc := 230) d_law_230 (zk_s L) (by omega) (by omega) ?_
  rw [hxM]
  refine wp_callV1i (pc := 231) d_law_231 rfl rfl (zk_4 L) rfl rfl (jc_band J hn.2) (fun x231 M231 h231 => ?_)
  have hx1 : ∀ k, M231 3 k = (xs k).toInt := fun k => (h231.1 3 (by omega) k).trans (hxM k)
  refine wp_aload_n (pc := 234) d_law_234 rfl ?_
  refine wp_aload_n (pc := 235) d_law_235 rfl ?_
  refine wp_iload_n (pc := 236) d_law_236 rfl ?_
  refine wp_iconst (pc := 237) d_law_237 rfl ?_
  refine wp_iadd (pc := 238) d_law_238 (by omega) (by omega) ?_
  refine wp_iald (pc := 239) d_law_239 (zk_s L) (by omega) (by omega) ?_
  rw [hx1]
  refine wp_callV1i (pc := 240) d_law_240 rfl rfl (zk_174 L) rfl rfl (jm_band (K.keep h231.1) P) (fun x240 M240 h240 => ?_)
  refine wp_icmp_eq (tgt := 780) (pc := 243) d_law_243 rfl (fun c243 => ?_) (fun c243 => ?_)
  · obtain ⟨s1, v1, r1, j1⟩ := h231
    obtain ⟨s2, v2, r2, j2⟩ := h240
    obtain ⟨ez, es⟩ := dBd r1 r2
    subst es
    exact hq v1 M240 (j1.keep s2) j2 (pBd P r1)
  · obtain ⟨s1, v1, r1, j1⟩ := h231
    obtain ⟨s2, v2, r2, j2⟩ := h240
    obtain ⟨ez, es⟩ := dBd r1 r2
    exact absurd ez c243
theorem law_of {Qx : Option zV → zM → Prop} (hL : L ≤ 2560) (i0 : 0 ≤ i) (i5 : i + 5 ≤ L) (hn : 0 ≤ n ∧ n ≤ 512) (J : jC xs n v M) (K : jM v M) (P : jP n v) (hq : ∀ (v' : jT) (M' : zM), jC xs (n + 1) v' M' → jM v' M' → jP (n + 1) v' → wp L 40 zm_law 780 [rV 3, rV 4, rV 174, iV i] [] M' Qx) : wp L 40 zm_law 248 [rV 3, rV 4, rV 174, iV i] [] M Qx := by
  have hxM := J.2.2.2.2
  refine wp_aload_n (pc := 248) d_law_248 rfl ?_
  refine wp_aload_n (pc := 249) d_law_249 rfl ?_
  refine wp_iload_n (pc := 250) d_law_250 rfl ?_
  refine wp_iconst (pc := 251) d_law_251 rfl ?_
  refine wp_iadd (pc := 252) d_law_252 (by omega) (by omega) ?_
  refine wp_iald (pc := 253) d_law_253 (zk_s L) (by omega) (by omega) ?_
  rw [hxM]
  refine wp_aload_n (pc := 254) d_law_254 rfl ?_
  refine wp_iload_n (pc := 255) d_law_255 rfl ?_
  refine wp_iconst (pc := 256) d_law_256 rfl ?_
  refine wp_iadd (pc := 257) d_law_257 (by omega) (by omega) ?_
  refine wp_iald (pc := 258) d_law_258 (zk_s L) (by omega) (by omega) ?_
  rw [hxM]
  refine wp_callV2i (pc := 259) d_law_259 rfl rfl (zk_4 L) rfl rfl (jc_of J) (fun x259 M259 h259 => ?_)
  have hx1 : ∀ k, M259 3 k = (xs k).toInt := fun k => (h259.1 3 (by omega) k).trans (hxM k)
  refine wp_aload_n (pc := 262) d_law_262 rfl ?_
  refine wp_aload_n (pc := 263) d_law_263 rfl ?_
  refine wp_iload_n (pc := 264) d_law_264 rfl ?_
  refine wp_iconst (pc := 265) d_law_265 rfl ?_
  refine wp_iadd (pc := 266) d_law_266 (by omega) (by omega) ?_
  refine wp_iald (pc := 267) d_law_267 (zk_s L) (by omega) (by omega) ?_
  rw [hx1]
  refine wp_aload_n (pc := 268) d_law_268 rfl ?_
  refine wp_iload_n (pc := 269) d_law_269 rfl ?_
  refine wp_iconst (pc := 270) d_law_270 rfl ?_
  refine wp_iadd (pc := 271) d_law_271 (by omega) (by omega) ?_
  refine wp_iald (pc := 272) d_law_272 (zk_s L) (by omega) (by omega) ?_
  rw [hx1]
  refine wp_callV2i (pc := 273) d_law_273 rfl rfl (zk_174 L) rfl rfl (jm_of (K.keep h259.1) P) (fun x273 M273 h273 => ?_)
  refine wp_icmp_eq (tgt := 780) (pc := 276) d_law_276 rfl (fun c276 => ?_) (fun c276 => ?_)
  · obtain ⟨s1, v1, r1, j1⟩ := h259
    obtain ⟨s2, v2, r2, j2⟩ := h273
    obtain ⟨ez, es⟩ := dQ r1 r2
    subst es
    exact hq v1 M273 (j1.keep s2) j2 (pQ P r1)
  · obtain ⟨s1, v1, r1, j1⟩ := h259
    obtain ⟨s2, v2, r2, j2⟩ := h273
    obtain ⟨ez, es⟩ := dQ r1 r2
    exact absurd ez c276
theorem law_sign {Qx : Option zV → zM → Prop} (hL : L ≤ 2560) (i0 : 0 ≤ i) (i5 : i + 5 ≤ L) (hn : 0 ≤ n ∧ n ≤ 512) (J : jC xs n v M) (K : jM v M) (P : jP n v) (hq : ∀ (v' : jT) (M' : zM), jC xs (n + 1) v' M' → jM v' M' → jP (n + 1) v' → wp L 40 zm_law 780 [rV 3, rV 4, rV 174, iV i] [] M' Qx) : wp L 40 zm_law 281 [rV 3, rV 4, rV 174, iV i] [] M Qx := by
  have hxM := J.2.2.2.2
  refine wp_aload_n (pc := 281) d_law_281 rfl ?_
  refine wp_aload_n (pc := 282) d_law_282 rfl ?_
  refine wp_iload_n (pc := 283) d_law_283 rfl ?_
  refine wp_iconst (pc := 284) d_law_284 rfl ?_
  refine wp_iadd (pc := 285) d_law_285 (by omega) (by omega) ?_
  refine wp_iald (pc := 286) d_law_286 (zk_s L) (by omega) (by omega) ?_
  rw [hxM]
  refine wp_aload_n (pc := 287) d_law_287 rfl ?_
  refine wp_iload_n (pc := 288) d_law_288 rfl ?_
  refine wp_iconst (pc := 289) d_law_289 rfl ?_
  refine wp_iadd (pc := 290) d_law_290 (by omega) (by omega) ?_
  refine wp_iald (pc := 291) d_law_291 (zk_s L) (by omega) (by omega) ?_
  rw [hxM]
  refine wp_callV2i (pc := 292) d_law_292 rfl rfl (zk_4 L) rfl rfl (jc_sign J) (fun x292 M292 h292 => ?_)
  have hx1 : ∀ k, M292 3 k = (xs k).toInt := fun k => (h292.1 3 (by omega) k).trans (hxM k)
  refine wp_aload_n (pc := 295) d_law_295 rfl ?_
  refine wp_aload_n (pc := 296) d_law_296 rfl ?_
  refine wp_iload_n (pc := 297) d_law_297 rfl ?_
  refine wp_iconst (pc := 298) d_law_298 rfl ?_
  refine wp_iadd (pc := 299) d_law_299 (by omega) (by omega) ?_
  refine wp_iald (pc := 300) d_law_300 (zk_s L) (by omega) (by omega) ?_
  rw [hx1]
  refine wp_aload_n (pc := 301) d_law_301 rfl ?_
  refine wp_iload_n (pc := 302) d_law_302 rfl ?_
  refine wp_iconst (pc := 303) d_law_303 rfl ?_
  refine wp_iadd (pc := 304) d_law_304 (by omega) (by omega) ?_
  refine wp_iald (pc := 305) d_law_305 (zk_s L) (by omega) (by omega) ?_
  rw [hx1]
  refine wp_callV2i (pc := 306) d_law_306 rfl rfl (zk_174 L) rfl rfl (jm_sign (K.keep h292.1) P) (fun x306 M306 h306 => ?_)
  refine wp_icmp_eq (tgt := 780) (pc := 309) d_law_309 rfl (fun c309 => ?_) (fun c309 => ?_)
  · obtain ⟨s1, v1, r1, j1⟩ := h292
    obtain ⟨s2, v2, r2, j2⟩ := h306
    obtain ⟨ez, es⟩ := dQ r1 r2
    subst es
    exact hq v1 M306 (j1.keep s2) j2 (pQ P r1)
  · obtain ⟨s1, v1, r1, j1⟩ := h292
    obtain ⟨s2, v2, r2, j2⟩ := h306
    obtain ⟨ez, es⟩ := dQ r1 r2
    exact absurd ez c309
theorem law_collate {Qx : Option zV → zM → Prop} (hL : L ≤ 2560) (i0 : 0 ≤ i) (i5 : i + 5 ≤ L) (hn : 0 ≤ n ∧ n ≤ 512) (J : jC xs n v M) (K : jM v M) (P : jP n v) (hq : ∀ (v' : jT) (M' : zM), jC xs (n + 1) v' M' → jM v' M' → jP (n + 1) v' → wp L 40 zm_law 780 [rV 3, rV 4, rV 174, iV i] [] M' Qx) : wp L 40 zm_law 314 [rV 3, rV 4, rV 174, iV i] [] M Qx := by
  have hxM := J.2.2.2.2
  refine wp_aload_n (pc := 314) d_law_314 rfl ?_
  refine wp_aload_n (pc := 315) d_law_315 rfl ?_
  refine wp_iload_n (pc := 316) d_law_316 rfl ?_
  refine wp_iconst (pc := 317) d_law_317 rfl ?_
  refine wp_iadd (pc := 318) d_law_318 (by omega) (by omega) ?_
  refine wp_iald (pc := 319) d_law_319 (zk_s L) (by omega) (by omega) ?_
  rw [hxM]
  refine wp_aload_n (pc := 320) d_law_320 rfl ?_
  refine wp_iload_n (pc := 321) d_law_321 rfl ?_
  refine wp_iconst (pc := 322) d_law_322 rfl ?_
  refine wp_iadd (pc := 323) d_law_323 (by omega) (by omega) ?_
  refine wp_iald (pc := 324) d_law_324 (zk_s L) (by omega) (by omega) ?_
  rw [hxM]
  refine wp_aload_n (pc := 325) d_law_325 rfl ?_
  refine wp_iload_n (pc := 326) d_law_326 rfl ?_
  refine wp_iconst (pc := 327) d_law_327 rfl ?_
  refine wp_iadd (pc := 328) d_law_328 (by omega) (by omega) ?_
  refine wp_iald (pc := 329) d_law_329 (zk_s L) (by omega) (by omega) ?_
  rw [hxM]
  refine wp_callV3i (pc := 330) d_law_330 rfl rfl (zk_4 L) rfl rfl (jc_collate J) (fun x330 M330 h330 => ?_)
  have hx1 : ∀ k, M330 3 k = (xs k).toInt := fun k => (h330.1 3 (by omega) k).trans (hxM k)
  refine wp_aload_n (pc := 333) d_law_333 rfl ?_
  refine wp_aload_n (pc := 334) d_law_334 rfl ?_
  refine wp_iload_n (pc := 335) d_law_335 rfl ?_
  refine wp_iconst (pc := 336) d_law_336 rfl ?_
  refine wp_iadd (pc := 337) d_law_337 (by omega) (by omega) ?_
  refine wp_iald (pc := 338) d_law_338 (zk_s L) (by omega) (by omega) ?_
  rw [hx1]
  refine wp_aload_n (pc := 339) d_law_339 rfl ?_
  refine wp_iload_n (pc := 340) d_law_340 rfl ?_
  refine wp_iconst (pc := 341) d_law_341 rfl ?_
  refine wp_iadd (pc := 342) d_law_342 (by omega) (by omega) ?_
  refine wp_iald (pc := 343) d_law_343 (zk_s L) (by omega) (by omega) ?_
  rw [hx1]
  refine wp_aload_n (pc := 344) d_law_344 rfl ?_
  refine wp_iload_n (pc := 345) d_law_345 rfl ?_
  refine wp_iconst (pc := 346) d_law_346 rfl ?_
  refine wp_iadd (pc := 347) d_law_347 (by omega) (by omega) ?_
  refine wp_iald (pc := 348) d_law_348 (zk_s L) (by omega) (by omega) ?_
  rw [hx1]
  refine wp_callV3i (pc := 349) d_law_349 rfl rfl (zk_174 L) rfl rfl (jm_collate (K.keep h330.1) P) (fun x349 M349 h349 => ?_)
  refine wp_icmp_eq (tgt := 780) (pc := 352) d_law_352 rfl (fun c352 => ?_) (fun c352 => ?_)
  · obtain ⟨s1, v1, r1, j1⟩ := h330
    obtain ⟨s2, v2, r2, j2⟩ := h349
    obtain ⟨ez, es⟩ := dQ r1 r2
    subst es
    exact hq v1 M349 (j1.keep s2) j2 (pQ P r1)
  · obtain ⟨s1, v1, r1, j1⟩ := h330
    obtain ⟨s2, v2, r2, j2⟩ := h349
    obtain ⟨ez, es⟩ := dQ r1 r2
    exact absurd ez c352
theorem law_step {Qx : Option zV → zM → Prop} (hL : L ≤ 2560) (i0 : 0 ≤ i) (i5 : i + 5 ≤ L) (hn : 0 ≤ n ∧ n ≤ 512) (J : jC xs n v M) (K : jM v M) (P : jP n v) (hq : ∀ (v' : jT) (M' : zM), jC xs (n + 1) v' M' → jM v' M' → jP (n + 1) v' → wp L 40 zm_law 780 [rV 3, rV 4, rV 174, iV i] [] M' Qx) : wp L 40 zm_law 357 [rV 3, rV 4, rV 174, iV i] [] M Qx := by
  have hxM := J.2.2.2.2
  refine wp_aload_n (pc := 357) d_law_357 rfl ?_
  refine wp_aload_n (pc := 358) d_law_358 rfl ?_
  refine wp_iload_n (pc := 359) d_law_359 rfl ?_
  refine wp_iconst (pc := 360) d_law_360 rfl ?_
  refine wp_iadd (pc := 361) d_law_361 (by omega) (by omega) ?_
  refine wp_iald (pc := 362) d_law_362 (zk_s L) (by omega) (by omega) ?_
  rw [hxM]
  refine wp_aload_n (pc := 363) d_law_363 rfl ?_
  refine wp_iload_n (pc := 364) d_law_364 rfl ?_
  refine wp_iconst (pc := 365) d_law_365 rfl ?_
  refine wp_iadd (pc := 366) d_law_366 (by omega) (by omega) ?_
  refine wp_iald (pc := 367) d_law_367 (zk_s L) (by omega) (by omega) ?_
  rw [hxM]
  refine wp_aload_n (pc := 368) d_law_368 rfl ?_
  refine wp_iload_n (pc := 369) d_law_369 rfl ?_
  refine wp_iconst (pc := 370) d_law_370 rfl ?_
  refine wp_iadd (pc := 371) d_law_371 (by omega) (by omega) ?_
  refine wp_iald (pc := 372) d_law_372 (zk_s L) (by omega) (by omega) ?_
  rw [hxM]
  refine wp_callV3i (pc := 373) d_law_373 rfl rfl (zk_4 L) rfl rfl (jc_step J) (fun x373 M373 h373 => ?_)
  have hx1 : ∀ k, M373 3 k = (xs k).toInt := fun k => (h373.1 3 (by omega) k).trans (hxM k)
  refine wp_aload_n (pc := 376) d_law_376 rfl ?_
  refine wp_aload_n (pc := 377) d_law_377 rfl ?_
  refine wp_iload_n (pc := 378) d_law_378 rfl ?_
  refine wp_iconst (pc := 379) d_law_379 rfl ?_
  refine wp_iadd (pc := 380) d_law_380 (by omega) (by omega) ?_
  refine wp_iald (pc := 381) d_law_381 (zk_s L) (by omega) (by omega) ?_
  rw [hx1]
  refine wp_aload_n (pc := 382) d_law_382 rfl ?_
  refine wp_iload_n (pc := 383) d_law_383 rfl ?_
  refine wp_iconst (pc := 384) d_law_384 rfl ?_
  refine wp_iadd (pc := 385) d_law_385 (by omega) (by omega) ?_
  refine wp_iald (pc := 386) d_law_386 (zk_s L) (by omega) (by omega) ?_
  rw [hx1]
  refine wp_aload_n (pc := 387) d_law_387 rfl ?_
  refine wp_iload_n (pc := 388) d_law_388 rfl ?_
  refine wp_iconst (pc := 389) d_law_389 rfl ?_
  refine wp_iadd (pc := 390) d_law_390 (by omega) (by omega) ?_
  refine wp_iald (pc := 391) d_law_391 (zk_s L) (by omega) (by omega) ?_
  rw [hx1]
  refine wp_callV3i (pc := 392) d_law_392 rfl rfl (zk_174 L) rfl rfl (jm_step (K.keep h373.1) P) (fun x392 M392 h392 => ?_)
  refine wp_icmp_eq (tgt := 780) (pc := 395) d_law_395 rfl (fun c395 => ?_) (fun c395 => ?_)
  · obtain ⟨s1, v1, r1, j1⟩ := h373
    obtain ⟨s2, v2, r2, j2⟩ := h392
    obtain ⟨ez, es⟩ := dQ r1 r2
    subst es
    exact hq v1 M392 (j1.keep s2) j2 (pQ P r1)
  · obtain ⟨s1, v1, r1, j1⟩ := h373
    obtain ⟨s2, v2, r2, j2⟩ := h392
    obtain ⟨ez, es⟩ := dQ r1 r2
    exact absurd ez c395
theorem law_reading {Qx : Option zV → zM → Prop} (hL : L ≤ 2560) (i0 : 0 ≤ i) (i5 : i + 5 ≤ L) (hn : 0 ≤ n ∧ n ≤ 512) (J : jC xs n v M) (K : jM v M) (P : jP n v) (hq : ∀ (v' : jT) (M' : zM), jC xs (n + 1) v' M' → jM v' M' → jP (n + 1) v' → wp L 40 zm_law 780 [rV 3, rV 4, rV 174, iV i] [] M' Qx) : wp L 40 zm_law 400 [rV 3, rV 4, rV 174, iV i] [] M Qx := by
  have hxM := J.2.2.2.2
  refine wp_aload_n (pc := 400) d_law_400 rfl ?_
  refine wp_aload_n (pc := 401) d_law_401 rfl ?_
  refine wp_iload_n (pc := 402) d_law_402 rfl ?_
  refine wp_iconst (pc := 403) d_law_403 rfl ?_
  refine wp_iadd (pc := 404) d_law_404 (by omega) (by omega) ?_
  refine wp_iald (pc := 405) d_law_405 (zk_s L) (by omega) (by omega) ?_
  rw [hxM]
  refine wp_aload_n (pc := 406) d_law_406 rfl ?_
  refine wp_iload_n (pc := 407) d_law_407 rfl ?_
  refine wp_iconst (pc := 408) d_law_408 rfl ?_
  refine wp_iadd (pc := 409) d_law_409 (by omega) (by omega) ?_
  refine wp_iald (pc := 410) d_law_410 (zk_s L) (by omega) (by omega) ?_
  rw [hxM]
  refine wp_callV2i (pc := 411) d_law_411 rfl rfl (zk_4 L) rfl rfl (jc_reading J) (fun x411 M411 h411 => ?_)
  have hx1 : ∀ k, M411 3 k = (xs k).toInt := fun k => (h411.1 3 (by omega) k).trans (hxM k)
  refine wp_aload_n (pc := 414) d_law_414 rfl ?_
  refine wp_aload_n (pc := 415) d_law_415 rfl ?_
  refine wp_iload_n (pc := 416) d_law_416 rfl ?_
  refine wp_iconst (pc := 417) d_law_417 rfl ?_
  refine wp_iadd (pc := 418) d_law_418 (by omega) (by omega) ?_
  refine wp_iald (pc := 419) d_law_419 (zk_s L) (by omega) (by omega) ?_
  rw [hx1]
  refine wp_aload_n (pc := 420) d_law_420 rfl ?_
  refine wp_iload_n (pc := 421) d_law_421 rfl ?_
  refine wp_iconst (pc := 422) d_law_422 rfl ?_
  refine wp_iadd (pc := 423) d_law_423 (by omega) (by omega) ?_
  refine wp_iald (pc := 424) d_law_424 (zk_s L) (by omega) (by omega) ?_
  rw [hx1]
  refine wp_callV2i (pc := 425) d_law_425 rfl rfl (zk_174 L) rfl rfl (jm_reading (K.keep h411.1) P) (fun x425 M425 h425 => ?_)
  refine wp_icmp_eq (tgt := 780) (pc := 428) d_law_428 rfl (fun c428 => ?_) (fun c428 => ?_)
  · obtain ⟨s1, v1, r1, j1⟩ := h411
    obtain ⟨s2, v2, r2, j2⟩ := h425
    obtain ⟨ez, es⟩ := dQ r1 r2
    subst es
    exact hq v1 M425 (j1.keep s2) j2 (pQ P r1)
  · obtain ⟨s1, v1, r1, j1⟩ := h411
    obtain ⟨s2, v2, r2, j2⟩ := h425
    obtain ⟨ez, es⟩ := dQ r1 r2
    exact absurd ez c428
theorem law_states {Qx : Option zV → zM → Prop} (hL : L ≤ 2560) (i0 : 0 ≤ i) (i5 : i + 5 ≤ L) (hn : 0 ≤ n ∧ n ≤ 512) (J : jC xs n v M) (K : jM v M) (P : jP n v) (hq : ∀ (v' : jT) (M' : zM), jC xs (n + 1) v' M' → jM v' M' → jP (n + 1) v' → wp L 40 zm_law 780 [rV 3, rV 4, rV 174, iV i] [] M' Qx) : wp L 40 zm_law 433 [rV 3, rV 4, rV 174, iV i] [] M Qx := by
  have hxM := J.2.2.2.2
  refine wp_aload_n (pc := 433) d_law_433 rfl ?_
  refine wp_aload_n (pc := 434) d_law_434 rfl ?_
  refine wp_iload_n (pc := 435) d_law_435 rfl ?_
  refine wp_iconst (pc := 436) d_law_436 rfl ?_
  refine wp_iadd (pc := 437) d_law_437 (by omega) (by omega) ?_
  refine wp_iald (pc := 438) d_law_438 (zk_s L) (by omega) (by omega) ?_
  rw [hxM]
  refine wp_callV1i (pc := 439) d_law_439 rfl rfl (zk_4 L) rfl rfl (jc_states J) (fun x439 M439 h439 => ?_)
  have hx1 : ∀ k, M439 3 k = (xs k).toInt := fun k => (h439.1 3 (by omega) k).trans (hxM k)
  refine wp_aload_n (pc := 442) d_law_442 rfl ?_
  refine wp_aload_n (pc := 443) d_law_443 rfl ?_
  refine wp_iload_n (pc := 444) d_law_444 rfl ?_
  refine wp_iconst (pc := 445) d_law_445 rfl ?_
  refine wp_iadd (pc := 446) d_law_446 (by omega) (by omega) ?_
  refine wp_iald (pc := 447) d_law_447 (zk_s L) (by omega) (by omega) ?_
  rw [hx1]
  refine wp_callV1i (pc := 448) d_law_448 rfl rfl (zk_174 L) rfl rfl (jm_states (K.keep h439.1) P) (fun x448 M448 h448 => ?_)
  refine wp_icmp_eq (tgt := 780) (pc := 451) d_law_451 rfl (fun c451 => ?_) (fun c451 => ?_)
  · obtain ⟨s1, v1, r1, j1⟩ := h439
    obtain ⟨s2, v2, r2, j2⟩ := h448
    obtain ⟨ez, es⟩ := dQ r1 r2
    subst es
    exact hq v1 M448 (j1.keep s2) j2 (pQ P r1)
  · obtain ⟨s1, v1, r1, j1⟩ := h439
    obtain ⟨s2, v2, r2, j2⟩ := h448
    obtain ⟨ez, es⟩ := dQ r1 r2
    exact absurd ez c451
theorem law_state {Qx : Option zV → zM → Prop} (hL : L ≤ 2560) (i0 : 0 ≤ i) (i5 : i + 5 ≤ L) (hn : 0 ≤ n ∧ n ≤ 512) (J : jC xs n v M) (K : jM v M) (P : jP n v) (hq : ∀ (v' : jT) (M' : zM), jC xs (n + 1) v' M' → jM v' M' → jP (n + 1) v' → wp L 40 zm_law 780 [rV 3, rV 4, rV 174, iV i] [] M' Qx) : wp L 40 zm_law 456 [rV 3, rV 4, rV 174, iV i] [] M Qx := by
  have hxM := J.2.2.2.2
  refine wp_aload_n (pc := 456) d_law_456 rfl ?_
  refine wp_aload_n (pc := 457) d_law_457 rfl ?_
  refine wp_iload_n (pc := 458) d_law_458 rfl ?_
  refine wp_iconst (pc := 459) d_law_459 rfl ?_
  refine wp_iadd (pc := 460) d_law_460 (by omega) (by omega) ?_
  refine wp_iald (pc := 461) d_law_461 (zk_s L) (by omega) (by omega) ?_
  rw [hxM]
  refine wp_aload_n (pc := 462) d_law_462 rfl ?_
  refine wp_iload_n (pc := 463) d_law_463 rfl ?_
  refine wp_iconst (pc := 464) d_law_464 rfl ?_
  refine wp_iadd (pc := 465) d_law_465 (by omega) (by omega) ?_
  refine wp_iald (pc := 466) d_law_466 (zk_s L) (by omega) (by omega) ?_
  rw [hxM]
  refine wp_callV2i (pc := 467) d_law_467 rfl rfl (zk_4 L) rfl rfl (jc_state J) (fun x467 M467 h467 => ?_)
  have hx1 : ∀ k, M467 3 k = (xs k).toInt := fun k => (h467.1 3 (by omega) k).trans (hxM k)
  refine wp_aload_n (pc := 470) d_law_470 rfl ?_
  refine wp_aload_n (pc := 471) d_law_471 rfl ?_
  refine wp_iload_n (pc := 472) d_law_472 rfl ?_
  refine wp_iconst (pc := 473) d_law_473 rfl ?_
  refine wp_iadd (pc := 474) d_law_474 (by omega) (by omega) ?_
  refine wp_iald (pc := 475) d_law_475 (zk_s L) (by omega) (by omega) ?_
  rw [hx1]
  refine wp_aload_n (pc := 476) d_law_476 rfl ?_
  refine wp_iload_n (pc := 477) d_law_477 rfl ?_
  refine wp_iconst (pc := 478) d_law_478 rfl ?_
  refine wp_iadd (pc := 479) d_law_479 (by omega) (by omega) ?_
  refine wp_iald (pc := 480) d_law_480 (zk_s L) (by omega) (by omega) ?_
  rw [hx1]
  refine wp_callV2i (pc := 481) d_law_481 rfl rfl (zk_174 L) rfl rfl (jm_state (K.keep h467.1) P) (fun x481 M481 h481 => ?_)
  refine wp_icmp_eq (tgt := 780) (pc := 484) d_law_484 rfl (fun c484 => ?_) (fun c484 => ?_)
  · obtain ⟨s1, v1, r1, j1⟩ := h467
    obtain ⟨s2, v2, r2, j2⟩ := h481
    obtain ⟨ez, es⟩ := dQ r1 r2
    subst es
    exact hq v1 M481 (j1.keep s2) j2 (pQ P r1)
  · obtain ⟨s1, v1, r1, j1⟩ := h467
    obtain ⟨s2, v2, r2, j2⟩ := h481
    obtain ⟨ez, es⟩ := dQ r1 r2
    exact absurd ez c484
theorem law_far {Qx : Option zV → zM → Prop} (hL : L ≤ 2560) (i0 : 0 ≤ i) (i5 : i + 5 ≤ L) (hn : 0 ≤ n ∧ n ≤ 512) (J : jC xs n v M) (K : jM v M) (P : jP n v) (hq : ∀ (v' : jT) (M' : zM), jC xs (n + 1) v' M' → jM v' M' → jP (n + 1) v' → wp L 40 zm_law 780 [rV 3, rV 4, rV 174, iV i] [] M' Qx) : wp L 40 zm_law 489 [rV 3, rV 4, rV 174, iV i] [] M Qx := by
  have hxM := J.2.2.2.2
  refine wp_aload_n (pc := 489) d_law_489 rfl ?_
  refine wp_aload_n (pc := 490) d_law_490 rfl ?_
  refine wp_iload_n (pc := 491) d_law_491 rfl ?_
  refine wp_iconst (pc := 492) d_law_492 rfl ?_
  refine wp_iadd (pc := 493) d_law_493 (by omega) (by omega) ?_
  refine wp_iald (pc := 494) d_law_494 (zk_s L) (by omega) (by omega) ?_
  rw [hxM]
  refine wp_aload_n (pc := 495) d_law_495 rfl ?_
  refine wp_iload_n (pc := 496) d_law_496 rfl ?_
  refine wp_iconst (pc := 497) d_law_497 rfl ?_
  refine wp_iadd (pc := 498) d_law_498 (by omega) (by omega) ?_
  refine wp_iald (pc := 499) d_law_499 (zk_s L) (by omega) (by omega) ?_
  rw [hxM]
  refine wp_callV2i (pc := 500) d_law_500 rfl rfl (zk_4 L) rfl rfl (jc_far J) (fun x500 M500 h500 => ?_)
  have hx1 : ∀ k, M500 3 k = (xs k).toInt := fun k => (h500.1 3 (by omega) k).trans (hxM k)
  refine wp_aload_n (pc := 503) d_law_503 rfl ?_
  refine wp_aload_n (pc := 504) d_law_504 rfl ?_
  refine wp_iload_n (pc := 505) d_law_505 rfl ?_
  refine wp_iconst (pc := 506) d_law_506 rfl ?_
  refine wp_iadd (pc := 507) d_law_507 (by omega) (by omega) ?_
  refine wp_iald (pc := 508) d_law_508 (zk_s L) (by omega) (by omega) ?_
  rw [hx1]
  refine wp_aload_n (pc := 509) d_law_509 rfl ?_
  refine wp_iload_n (pc := 510) d_law_510 rfl ?_
  refine wp_iconst (pc := 511) d_law_511 rfl ?_
  refine wp_iadd (pc := 512) d_law_512 (by omega) (by omega) ?_
  refine wp_iald (pc := 513) d_law_513 (zk_s L) (by omega) (by omega) ?_
  rw [hx1]
  refine wp_callV2i (pc := 514) d_law_514 rfl rfl (zk_174 L) rfl rfl (jm_far (K.keep h500.1) P) (fun x514 M514 h514 => ?_)
  refine wp_icmp_eq (tgt := 780) (pc := 517) d_law_517 rfl (fun c517 => ?_) (fun c517 => ?_)
  · obtain ⟨s1, v1, r1, j1⟩ := h500
    obtain ⟨s2, v2, r2, j2⟩ := h514
    obtain ⟨ez, es⟩ := dQ r1 r2
    subst es
    exact hq v1 M514 (j1.keep s2) j2 (pQ P r1)
  · obtain ⟨s1, v1, r1, j1⟩ := h500
    obtain ⟨s2, v2, r2, j2⟩ := h514
    obtain ⟨ez, es⟩ := dQ r1 r2
    exact absurd ez c517
theorem law_turned {Qx : Option zV → zM → Prop} (hL : L ≤ 2560) (i0 : 0 ≤ i) (i5 : i + 5 ≤ L) (hn : 0 ≤ n ∧ n ≤ 512) (J : jC xs n v M) (K : jM v M) (P : jP n v) (hq : ∀ (v' : jT) (M' : zM), jC xs (n + 1) v' M' → jM v' M' → jP (n + 1) v' → wp L 40 zm_law 780 [rV 3, rV 4, rV 174, iV i] [] M' Qx) : wp L 40 zm_law 522 [rV 3, rV 4, rV 174, iV i] [] M Qx := by
  have hxM := J.2.2.2.2
  refine wp_aload_n (pc := 522) d_law_522 rfl ?_
  refine wp_aload_n (pc := 523) d_law_523 rfl ?_
  refine wp_iload_n (pc := 524) d_law_524 rfl ?_
  refine wp_iconst (pc := 525) d_law_525 rfl ?_
  refine wp_iadd (pc := 526) d_law_526 (by omega) (by omega) ?_
  refine wp_iald (pc := 527) d_law_527 (zk_s L) (by omega) (by omega) ?_
  rw [hxM]
  refine wp_aload_n (pc := 528) d_law_528 rfl ?_
  refine wp_iload_n (pc := 529) d_law_529 rfl ?_
  refine wp_iconst (pc := 530) d_law_530 rfl ?_
  refine wp_iadd (pc := 531) d_law_531 (by omega) (by omega) ?_
  refine wp_iald (pc := 532) d_law_532 (zk_s L) (by omega) (by omega) ?_
  rw [hxM]
  refine wp_callV2i (pc := 533) d_law_533 rfl rfl (zk_4 L) rfl rfl (jc_turned J) (fun x533 M533 h533 => ?_)
  have hx1 : ∀ k, M533 3 k = (xs k).toInt := fun k => (h533.1 3 (by omega) k).trans (hxM k)
  refine wp_aload_n (pc := 536) d_law_536 rfl ?_
  refine wp_aload_n (pc := 537) d_law_537 rfl ?_
  refine wp_iload_n (pc := 538) d_law_538 rfl ?_
  refine wp_iconst (pc := 539) d_law_539 rfl ?_
  refine wp_iadd (pc := 540) d_law_540 (by omega) (by omega) ?_
  refine wp_iald (pc := 541) d_law_541 (zk_s L) (by omega) (by omega) ?_
  rw [hx1]
  refine wp_aload_n (pc := 542) d_law_542 rfl ?_
  refine wp_iload_n (pc := 543) d_law_543 rfl ?_
  refine wp_iconst (pc := 544) d_law_544 rfl ?_
  refine wp_iadd (pc := 545) d_law_545 (by omega) (by omega) ?_
  refine wp_iald (pc := 546) d_law_546 (zk_s L) (by omega) (by omega) ?_
  rw [hx1]
  refine wp_callV2i (pc := 547) d_law_547 rfl rfl (zk_174 L) rfl rfl (jm_turned (K.keep h533.1) P) (fun x547 M547 h547 => ?_)
  refine wp_icmp_eq (tgt := 780) (pc := 550) d_law_550 rfl (fun c550 => ?_) (fun c550 => ?_)
  · obtain ⟨s1, v1, r1, j1⟩ := h533
    obtain ⟨s2, v2, r2, j2⟩ := h547
    obtain ⟨ez, es⟩ := dQ r1 r2
    subst es
    exact hq v1 M547 (j1.keep s2) j2 (pQ P r1)
  · obtain ⟨s1, v1, r1, j1⟩ := h533
    obtain ⟨s2, v2, r2, j2⟩ := h547
    obtain ⟨ez, es⟩ := dQ r1 r2
    exact absurd ez c550
theorem law_see {Qx : Option zV → zM → Prop} (hL : L ≤ 2560) (i0 : 0 ≤ i) (i5 : i + 5 ≤ L) (hn : 0 ≤ n ∧ n ≤ 512) (J : jC xs n v M) (K : jM v M) (P : jP n v) (hq : ∀ (v' : jT) (M' : zM), jC xs (n + 1) v' M' → jM v' M' → jP (n + 1) v' → wp L 40 zm_law 780 [rV 3, rV 4, rV 174, iV i] [] M' Qx) : wp L 40 zm_law 555 [rV 3, rV 4, rV 174, iV i] [] M Qx := by
  have hxM := J.2.2.2.2
  refine wp_aload_n (pc := 555) d_law_555 rfl ?_
  refine wp_aload_n (pc := 556) d_law_556 rfl ?_
  refine wp_iload_n (pc := 557) d_law_557 rfl ?_
  refine wp_iconst (pc := 558) d_law_558 rfl ?_
  refine wp_iadd (pc := 559) d_law_559 (by omega) (by omega) ?_
  refine wp_iald (pc := 560) d_law_560 (zk_s L) (by omega) (by omega) ?_
  rw [hxM]
  refine wp_aload_n (pc := 561) d_law_561 rfl ?_
  refine wp_iload_n (pc := 562) d_law_562 rfl ?_
  refine wp_iconst (pc := 563) d_law_563 rfl ?_
  refine wp_iadd (pc := 564) d_law_564 (by omega) (by omega) ?_
  refine wp_iald (pc := 565) d_law_565 (zk_s L) (by omega) (by omega) ?_
  rw [hxM]
  refine wp_aload_n (pc := 566) d_law_566 rfl ?_
  refine wp_iload_n (pc := 567) d_law_567 rfl ?_
  refine wp_iconst (pc := 568) d_law_568 rfl ?_
  refine wp_iadd (pc := 569) d_law_569 (by omega) (by omega) ?_
  refine wp_iald (pc := 570) d_law_570 (zk_s L) (by omega) (by omega) ?_
  rw [hxM]
  refine wp_aload_n (pc := 571) d_law_571 rfl ?_
  refine wp_iload_n (pc := 572) d_law_572 rfl ?_
  refine wp_iconst (pc := 573) d_law_573 rfl ?_
  refine wp_iadd (pc := 574) d_law_574 (by omega) (by omega) ?_
  refine wp_iald (pc := 575) d_law_575 (zk_s L) (by omega) (by omega) ?_
  rw [hxM]
  refine wp_callV4i (pc := 576) d_law_576 rfl rfl (zk_4 L) rfl rfl (jc_see J hn.2) (fun x576 M576 h576 => ?_)
  have hx1 : ∀ k, M576 3 k = (xs k).toInt := fun k => (h576.1 3 (by omega) k).trans (hxM k)
  refine wp_aload_n (pc := 579) d_law_579 rfl ?_
  refine wp_aload_n (pc := 580) d_law_580 rfl ?_
  refine wp_iload_n (pc := 581) d_law_581 rfl ?_
  refine wp_iconst (pc := 582) d_law_582 rfl ?_
  refine wp_iadd (pc := 583) d_law_583 (by omega) (by omega) ?_
  refine wp_iald (pc := 584) d_law_584 (zk_s L) (by omega) (by omega) ?_
  rw [hx1]
  refine wp_aload_n (pc := 585) d_law_585 rfl ?_
  refine wp_iload_n (pc := 586) d_law_586 rfl ?_
  refine wp_iconst (pc := 587) d_law_587 rfl ?_
  refine wp_iadd (pc := 588) d_law_588 (by omega) (by omega) ?_
  refine wp_iald (pc := 589) d_law_589 (zk_s L) (by omega) (by omega) ?_
  rw [hx1]
  refine wp_aload_n (pc := 590) d_law_590 rfl ?_
  refine wp_iload_n (pc := 591) d_law_591 rfl ?_
  refine wp_iconst (pc := 592) d_law_592 rfl ?_
  refine wp_iadd (pc := 593) d_law_593 (by omega) (by omega) ?_
  refine wp_iald (pc := 594) d_law_594 (zk_s L) (by omega) (by omega) ?_
  rw [hx1]
  refine wp_aload_n (pc := 595) d_law_595 rfl ?_
  refine wp_iload_n (pc := 596) d_law_596 rfl ?_
  refine wp_iconst (pc := 597) d_law_597 rfl ?_
  refine wp_iadd (pc := 598) d_law_598 (by omega) (by omega) ?_
  refine wp_iald (pc := 599) d_law_599 (zk_s L) (by omega) (by omega) ?_
  rw [hx1]
  refine wp_callV4i (pc := 600) d_law_600 rfl rfl (zk_174 L) rfl rfl (jm_see (K.keep h576.1) P) (fun x600 M600 h600 => ?_)
  refine wp_icmp_eq (tgt := 780) (pc := 603) d_law_603 rfl (fun c603 => ?_) (fun c603 => ?_)
  · obtain ⟨s1, v1, r1, j1⟩ := h576
    obtain ⟨s2, v2, r2, j2⟩ := h600
    obtain ⟨ez, es⟩ := dSe r1 r2
    subst es
    exact hq v1 M600 (j1.keep s2) j2 (pSe P r1)
  · obtain ⟨s1, v1, r1, j1⟩ := h576
    obtain ⟨s2, v2, r2, j2⟩ := h600
    obtain ⟨ez, es⟩ := dSe r1 r2
    exact absurd ez c603
theorem law_unsee {Qx : Option zV → zM → Prop} (hL : L ≤ 2560) (i0 : 0 ≤ i) (i5 : i + 5 ≤ L) (hn : 0 ≤ n ∧ n ≤ 512) (J : jC xs n v M) (K : jM v M) (P : jP n v) (hq : ∀ (v' : jT) (M' : zM), jC xs (n + 1) v' M' → jM v' M' → jP (n + 1) v' → wp L 40 zm_law 780 [rV 3, rV 4, rV 174, iV i] [] M' Qx) : wp L 40 zm_law 608 [rV 3, rV 4, rV 174, iV i] [] M Qx := by
  have hxM := J.2.2.2.2
  refine wp_aload_n (pc := 608) d_law_608 rfl ?_
  refine wp_aload_n (pc := 609) d_law_609 rfl ?_
  refine wp_iload_n (pc := 610) d_law_610 rfl ?_
  refine wp_iconst (pc := 611) d_law_611 rfl ?_
  refine wp_iadd (pc := 612) d_law_612 (by omega) (by omega) ?_
  refine wp_iald (pc := 613) d_law_613 (zk_s L) (by omega) (by omega) ?_
  rw [hxM]
  refine wp_callV1i (pc := 614) d_law_614 rfl rfl (zk_4 L) rfl rfl (jc_unsee J P hn.2) (fun x614 M614 h614 => ?_)
  have hx1 : ∀ k, M614 3 k = (xs k).toInt := fun k => (h614.1 3 (by omega) k).trans (hxM k)
  refine wp_aload_n (pc := 617) d_law_617 rfl ?_
  refine wp_aload_n (pc := 618) d_law_618 rfl ?_
  refine wp_iload_n (pc := 619) d_law_619 rfl ?_
  refine wp_iconst (pc := 620) d_law_620 rfl ?_
  refine wp_iadd (pc := 621) d_law_621 (by omega) (by omega) ?_
  refine wp_iald (pc := 622) d_law_622 (zk_s L) (by omega) (by omega) ?_
  rw [hx1]
  refine wp_callV1i (pc := 623) d_law_623 rfl rfl (zk_174 L) rfl rfl (jm_unsee (K.keep h614.1) P hn.2) (fun x623 M623 h623 => ?_)
  refine wp_icmp_eq (tgt := 780) (pc := 626) d_law_626 rfl (fun c626 => ?_) (fun c626 => ?_)
  · obtain ⟨s1, v1, r1, j1⟩ := h614
    obtain ⟨s2, v2, r2, j2⟩ := h623
    obtain ⟨ez, es⟩ := dUn r1 r2
    subst es
    exact hq v1 M623 (j1.keep s2) j2 (pUn P r1)
  · obtain ⟨s1, v1, r1, j1⟩ := h614
    obtain ⟨s2, v2, r2, j2⟩ := h623
    obtain ⟨ez, es⟩ := dUn r1 r2
    exact absurd ez c626
theorem law_seen {Qx : Option zV → zM → Prop} (hL : L ≤ 2560) (i0 : 0 ≤ i) (i5 : i + 5 ≤ L) (hn : 0 ≤ n ∧ n ≤ 512) (J : jC xs n v M) (K : jM v M) (P : jP n v) (hq : ∀ (v' : jT) (M' : zM), jC xs (n + 1) v' M' → jM v' M' → jP (n + 1) v' → wp L 40 zm_law 780 [rV 3, rV 4, rV 174, iV i] [] M' Qx) : wp L 40 zm_law 631 [rV 3, rV 4, rV 174, iV i] [] M Qx := by
  have hxM := J.2.2.2.2
  refine wp_aload_n (pc := 631) d_law_631 rfl ?_
  refine wp_aload_n (pc := 632) d_law_632 rfl ?_
  refine wp_iload_n (pc := 633) d_law_633 rfl ?_
  refine wp_iconst (pc := 634) d_law_634 rfl ?_
  refine wp_iadd (pc := 635) d_law_635 (by omega) (by omega) ?_
  refine wp_iald (pc := 636) d_law_636 (zk_s L) (by omega) (by omega) ?_
  rw [hxM]
  refine wp_aload_n (pc := 637) d_law_637 rfl ?_
  refine wp_iload_n (pc := 638) d_law_638 rfl ?_
  refine wp_iconst (pc := 639) d_law_639 rfl ?_
  refine wp_iadd (pc := 640) d_law_640 (by omega) (by omega) ?_
  refine wp_iald (pc := 641) d_law_641 (zk_s L) (by omega) (by omega) ?_
  rw [hxM]
  refine wp_callV2i (pc := 642) d_law_642 rfl rfl (zk_4 L) rfl rfl (jc_seen J) (fun x642 M642 h642 => ?_)
  have hx1 : ∀ k, M642 3 k = (xs k).toInt := fun k => (h642.1 3 (by omega) k).trans (hxM k)
  refine wp_aload_n (pc := 645) d_law_645 rfl ?_
  refine wp_aload_n (pc := 646) d_law_646 rfl ?_
  refine wp_iload_n (pc := 647) d_law_647 rfl ?_
  refine wp_iconst (pc := 648) d_law_648 rfl ?_
  refine wp_iadd (pc := 649) d_law_649 (by omega) (by omega) ?_
  refine wp_iald (pc := 650) d_law_650 (zk_s L) (by omega) (by omega) ?_
  rw [hx1]
  refine wp_aload_n (pc := 651) d_law_651 rfl ?_
  refine wp_iload_n (pc := 652) d_law_652 rfl ?_
  refine wp_iconst (pc := 653) d_law_653 rfl ?_
  refine wp_iadd (pc := 654) d_law_654 (by omega) (by omega) ?_
  refine wp_iald (pc := 655) d_law_655 (zk_s L) (by omega) (by omega) ?_
  rw [hx1]
  refine wp_callV2i (pc := 656) d_law_656 rfl rfl (zk_174 L) rfl rfl (jm_seen (K.keep h642.1) P) (fun x656 M656 h656 => ?_)
  refine wp_icmp_eq (tgt := 780) (pc := 659) d_law_659 rfl (fun c659 => ?_) (fun c659 => ?_)
  · obtain ⟨s1, v1, r1, j1⟩ := h642
    obtain ⟨s2, v2, r2, j2⟩ := h656
    obtain ⟨ez, es⟩ := dQ r1 r2
    subst es
    exact hq v1 M656 (j1.keep s2) j2 (pQ P r1)
  · obtain ⟨s1, v1, r1, j1⟩ := h642
    obtain ⟨s2, v2, r2, j2⟩ := h656
    obtain ⟨ez, es⟩ := dQ r1 r2
    exact absurd ez c659
theorem law_forme {Qx : Option zV → zM → Prop} (hL : L ≤ 2560) (i0 : 0 ≤ i) (i5 : i + 5 ≤ L) (hn : 0 ≤ n ∧ n ≤ 512) (J : jC xs n v M) (K : jM v M) (P : jP n v) (hq : ∀ (v' : jT) (M' : zM), jC xs (n + 1) v' M' → jM v' M' → jP (n + 1) v' → wp L 40 zm_law 780 [rV 3, rV 4, rV 174, iV i] [] M' Qx) : wp L 40 zm_law 664 [rV 3, rV 4, rV 174, iV i] [] M Qx := by
  have hxM := J.2.2.2.2
  refine wp_aload_n (pc := 664) d_law_664 rfl ?_
  refine wp_aload_n (pc := 665) d_law_665 rfl ?_
  refine wp_iload_n (pc := 666) d_law_666 rfl ?_
  refine wp_iconst (pc := 667) d_law_667 rfl ?_
  refine wp_iadd (pc := 668) d_law_668 (by omega) (by omega) ?_
  refine wp_iald (pc := 669) d_law_669 (zk_s L) (by omega) (by omega) ?_
  rw [hxM]
  refine wp_aload_n (pc := 670) d_law_670 rfl ?_
  refine wp_iload_n (pc := 671) d_law_671 rfl ?_
  refine wp_iconst (pc := 672) d_law_672 rfl ?_
  refine wp_iadd (pc := 673) d_law_673 (by omega) (by omega) ?_
  refine wp_iald (pc := 674) d_law_674 (zk_s L) (by omega) (by omega) ?_
  rw [hxM]
  refine wp_callV2i (pc := 675) d_law_675 rfl rfl (zk_4 L) rfl rfl (jc_forme J) (fun x675 M675 h675 => ?_)
  have hx1 : ∀ k, M675 3 k = (xs k).toInt := fun k => (h675.1 3 (by omega) k).trans (hxM k)
  refine wp_aload_n (pc := 678) d_law_678 rfl ?_
  refine wp_aload_n (pc := 679) d_law_679 rfl ?_
  refine wp_iload_n (pc := 680) d_law_680 rfl ?_
  refine wp_iconst (pc := 681) d_law_681 rfl ?_
  refine wp_iadd (pc := 682) d_law_682 (by omega) (by omega) ?_
  refine wp_iald (pc := 683) d_law_683 (zk_s L) (by omega) (by omega) ?_
  rw [hx1]
  refine wp_aload_n (pc := 684) d_law_684 rfl ?_
  refine wp_iload_n (pc := 685) d_law_685 rfl ?_
  refine wp_iconst (pc := 686) d_law_686 rfl ?_
  refine wp_iadd (pc := 687) d_law_687 (by omega) (by omega) ?_
  refine wp_iald (pc := 688) d_law_688 (zk_s L) (by omega) (by omega) ?_
  rw [hx1]
  refine wp_callV2i (pc := 689) d_law_689 rfl rfl (zk_174 L) rfl rfl (jm_forme (K.keep h675.1) P) (fun x689 M689 h689 => ?_)
  refine wp_icmp_eq (tgt := 780) (pc := 692) d_law_692 rfl (fun c692 => ?_) (fun c692 => ?_)
  · obtain ⟨s1, v1, r1, j1⟩ := h675
    obtain ⟨s2, v2, r2, j2⟩ := h689
    obtain ⟨ez, es⟩ := dQ r1 r2
    subst es
    exact hq v1 M689 (j1.keep s2) j2 (pQ P r1)
  · obtain ⟨s1, v1, r1, j1⟩ := h675
    obtain ⟨s2, v2, r2, j2⟩ := h689
    obtain ⟨ez, es⟩ := dQ r1 r2
    exact absurd ez c692
theorem law_formes {Qx : Option zV → zM → Prop} (hL : L ≤ 2560) (i0 : 0 ≤ i) (i5 : i + 5 ≤ L) (hn : 0 ≤ n ∧ n ≤ 512) (J : jC xs n v M) (K : jM v M) (P : jP n v) (hq : ∀ (v' : jT) (M' : zM), jC xs (n + 1) v' M' → jM v' M' → jP (n + 1) v' → wp L 40 zm_law 780 [rV 3, rV 4, rV 174, iV i] [] M' Qx) : wp L 40 zm_law 697 [rV 3, rV 4, rV 174, iV i] [] M Qx := by
  have hxM := J.2.2.2.2
  refine wp_aload_n (pc := 697) d_law_697 rfl ?_
  refine wp_aload_n (pc := 698) d_law_698 rfl ?_
  refine wp_iload_n (pc := 699) d_law_699 rfl ?_
  refine wp_iconst (pc := 700) d_law_700 rfl ?_
  refine wp_iadd (pc := 701) d_law_701 (by omega) (by omega) ?_
  refine wp_iald (pc := 702) d_law_702 (zk_s L) (by omega) (by omega) ?_
  rw [hxM]
  refine wp_callV1i (pc := 703) d_law_703 rfl rfl (zk_4 L) rfl rfl (jc_formes J) (fun x703 M703 h703 => ?_)
  have hx1 : ∀ k, M703 3 k = (xs k).toInt := fun k => (h703.1 3 (by omega) k).trans (hxM k)
  refine wp_aload_n (pc := 706) d_law_706 rfl ?_
  refine wp_aload_n (pc := 707) d_law_707 rfl ?_
  refine wp_iload_n (pc := 708) d_law_708 rfl ?_
  refine wp_iconst (pc := 709) d_law_709 rfl ?_
  refine wp_iadd (pc := 710) d_law_710 (by omega) (by omega) ?_
  refine wp_iald (pc := 711) d_law_711 (zk_s L) (by omega) (by omega) ?_
  rw [hx1]
  refine wp_callV1i (pc := 712) d_law_712 rfl rfl (zk_174 L) rfl rfl (jm_formes (K.keep h703.1) P) (fun x712 M712 h712 => ?_)
  refine wp_icmp_eq (tgt := 780) (pc := 715) d_law_715 rfl (fun c715 => ?_) (fun c715 => ?_)
  · obtain ⟨s1, v1, r1, j1⟩ := h703
    obtain ⟨s2, v2, r2, j2⟩ := h712
    obtain ⟨ez, es⟩ := dQ r1 r2
    subst es
    exact hq v1 M712 (j1.keep s2) j2 (pQ P r1)
  · obtain ⟨s1, v1, r1, j1⟩ := h703
    obtain ⟨s2, v2, r2, j2⟩ := h712
    obtain ⟨ez, es⟩ := dQ r1 r2
    exact absurd ez c715
theorem law_order {Qx : Option zV → zM → Prop} (hL : L ≤ 2560) (i0 : 0 ≤ i) (i5 : i + 5 ≤ L) (hn : 0 ≤ n ∧ n ≤ 512) (J : jC xs n v M) (K : jM v M) (P : jP n v) (hq : ∀ (v' : jT) (M' : zM), jC xs (n + 1) v' M' → jM v' M' → jP (n + 1) v' → wp L 40 zm_law 780 [rV 3, rV 4, rV 174, iV i] [] M' Qx) : wp L 40 zm_law 720 [rV 3, rV 4, rV 174, iV i] [] M Qx := by
  have hxM := J.2.2.2.2
  refine wp_aload_n (pc := 720) d_law_720 rfl ?_
  refine wp_aload_n (pc := 721) d_law_721 rfl ?_
  refine wp_iload_n (pc := 722) d_law_722 rfl ?_
  refine wp_iconst (pc := 723) d_law_723 rfl ?_
  refine wp_iadd (pc := 724) d_law_724 (by omega) (by omega) ?_
  refine wp_iald (pc := 725) d_law_725 (zk_s L) (by omega) (by omega) ?_
  rw [hxM]
  refine wp_callV1i (pc := 726) d_law_726 rfl rfl (zk_4 L) rfl rfl (jc_order J) (fun x726 M726 h726 => ?_)
  have hx1 : ∀ k, M726 3 k = (xs k).toInt := fun k => (h726.1 3 (by omega) k).trans (hxM k)
  refine wp_aload_n (pc := 729) d_law_729 rfl ?_
  refine wp_aload_n (pc := 730) d_law_730 rfl ?_
  refine wp_iload_n (pc := 731) d_law_731 rfl ?_
  refine wp_iconst (pc := 732) d_law_732 rfl ?_
  refine wp_iadd (pc := 733) d_law_733 (by omega) (by omega) ?_
  refine wp_iald (pc := 734) d_law_734 (zk_s L) (by omega) (by omega) ?_
  rw [hx1]
  refine wp_callV1i (pc := 735) d_law_735 rfl rfl (zk_174 L) rfl rfl (jm_order (K.keep h726.1) P) (fun x735 M735 h735 => ?_)
  refine wp_icmp_eq (tgt := 780) (pc := 738) d_law_738 rfl (fun c738 => ?_) (fun c738 => ?_)
  · obtain ⟨s1, v1, r1, j1⟩ := h726
    obtain ⟨s2, v2, r2, j2⟩ := h735
    obtain ⟨ez, es⟩ := dQ r1 r2
    subst es
    exact hq v1 M735 (j1.keep s2) j2 (pQ P r1)
  · obtain ⟨s1, v1, r1, j1⟩ := h726
    obtain ⟨s2, v2, r2, j2⟩ := h735
    obtain ⟨ez, es⟩ := dQ r1 r2
    exact absurd ez c738
theorem law_count {Qx : Option zV → zM → Prop} (hL : L ≤ 2560) (i0 : 0 ≤ i) (i5 : i + 5 ≤ L) (hn : 0 ≤ n ∧ n ≤ 512) (J : jC xs n v M) (K : jM v M) (P : jP n v) (hq : ∀ (v' : jT) (M' : zM), jC xs (n + 1) v' M' → jM v' M' → jP (n + 1) v' → wp L 40 zm_law 780 [rV 3, rV 4, rV 174, iV i] [] M' Qx) : wp L 40 zm_law 743 [rV 3, rV 4, rV 174, iV i] [] M Qx := by
  have hxM := J.2.2.2.2
  refine wp_aload_n (pc := 743) d_law_743 rfl ?_
  refine wp_aload_n (pc := 744) d_law_744 rfl ?_
  refine wp_iload_n (pc := 745) d_law_745 rfl ?_
  refine wp_iconst (pc := 746) d_law_746 rfl ?_
  refine wp_iadd (pc := 747) d_law_747 (by omega) (by omega) ?_
  refine wp_iald (pc := 748) d_law_748 (zk_s L) (by omega) (by omega) ?_
  rw [hxM]
  refine wp_callV1i (pc := 749) d_law_749 rfl rfl (zk_4 L) rfl rfl (jc_count J) (fun x749 M749 h749 => ?_)
  have hx1 : ∀ k, M749 3 k = (xs k).toInt := fun k => (h749.1 3 (by omega) k).trans (hxM k)
  refine wp_aload_n (pc := 752) d_law_752 rfl ?_
  refine wp_aload_n (pc := 753) d_law_753 rfl ?_
  refine wp_iload_n (pc := 754) d_law_754 rfl ?_
  refine wp_iconst (pc := 755) d_law_755 rfl ?_
  refine wp_iadd (pc := 756) d_law_756 (by omega) (by omega) ?_
  refine wp_iald (pc := 757) d_law_757 (zk_s L) (by omega) (by omega) ?_
  rw [hx1]
  refine wp_callV1i (pc := 758) d_law_758 rfl rfl (zk_174 L) rfl rfl (jm_count (K.keep h749.1) P) (fun x758 M758 h758 => ?_)
  refine wp_icmp_eq (tgt := 780) (pc := 761) d_law_761 rfl (fun c761 => ?_) (fun c761 => ?_)
  · obtain ⟨s1, v1, r1, j1⟩ := h749
    obtain ⟨s2, v2, r2, j2⟩ := h758
    obtain ⟨ez, es⟩ := dQ r1 r2
    subst es
    exact hq v1 M758 (j1.keep s2) j2 (pQ P r1)
  · obtain ⟨s1, v1, r1, j1⟩ := h749
    obtain ⟨s2, v2, r2, j2⟩ := h758
    obtain ⟨ez, es⟩ := dQ r1 r2
    exact absurd ez c761
theorem law_digest {Qx : Option zV → zM → Prop} (hL : L ≤ 2560) (i0 : 0 ≤ i) (i5 : i + 5 ≤ L) (hn : 0 ≤ n ∧ n ≤ 512) (J : jC xs n v M) (K : jM v M) (P : jP n v) (hq : ∀ (v' : jT) (M' : zM), jC xs (n + 1) v' M' → jM v' M' → jP (n + 1) v' → wp L 40 zm_law 780 [rV 3, rV 4, rV 174, iV i] [] M' Qx) : wp L 40 zm_law 766 [rV 3, rV 4, rV 174, iV i] [] M Qx := by
  have hxM := J.2.2.2.2
  refine wp_aload_n (pc := 766) d_law_766 rfl ?_
  refine wp_callV0l (pc := 767) d_law_767 rfl rfl (zk_4 L) rfl rfl (jc_digest J) (fun x767 M767 h767 => ?_)
  have hx1 : ∀ k, M767 3 k = (xs k).toInt := fun k => (h767.1 3 (by omega) k).trans (hxM k)
  refine wp_aload_n (pc := 770) d_law_770 rfl ?_
  refine wp_callV0l (pc := 771) d_law_771 rfl rfl (zk_174 L) rfl rfl (jm_digest (K.keep h767.1) P) (fun x771 M771 h771 => ?_)
  refine wp_lcmp (pc := 774) d_law_774 ?_
  refine wp_if_eq (tgt := 780) (pc := 775) d_law_775 rfl (fun c775 => ?_) (fun c775 => ?_)
  · obtain ⟨s1, r1, j1⟩ := h767
    obtain ⟨s2, r2, j2⟩ := h771
    exact hq v M771 (j1.keep s2) j2 P.more
  · exact absurd (lg_0 (h767.2.1.trans h771.2.1.symm)) c775
theorem lp_law (hL : L ≤ 2560) : ∀ (n9 : Nat) (i : Int) (n : Int) (v : jT) (M : zM), (L : Int) - i < n9 → (0 ≤ i) → (i = 5 * n) → (i ≤ L) → (jC xs n v M) → (jM v M) → (jP n v) → wp L 40 zm_law 18 [rV 3, rV 4, rV 174, iV i] [] M (fun r _ => r = some (iV 1)) := by
  intro n9
  induction n9 with
  | zero =>
    intro i  n  v  M  h9 g1 g2 g3 hc hm hp
    exact absurd h9 (by omega)
  | succ n9 ih =>
    intro i  n  v  M  h9 g1 g2 g3 hc hm hp
    refine wp_iload_n (pc := 18) d_law_18 rfl ?_
    refine wp_aload_n (pc := 19) d_law_19 rfl ?_
    refine wp_alen (pc := 20) d_law_20 (zk_s L) ⟨Or.inl rfl, by omega⟩ ?_
    refine wp_iconst (pc := 21) d_law_21 rfl ?_
    refine wp_isub (pc := 22) d_law_22 (by omega) (by omega) ?_
    refine wp_icmp_gt (tgt := 786) (pc := 23) d_law_23 rfl (fun c23 => ?_) (fun c23 => ?_)
    · refine wp_iconst (pc := 786) d_law_786 rfl ?_
      refine wp_zreturn (pc := 787) d_law_787 rfl (by omega) ?_
      rfl
    · have hn : 0 ≤ n ∧ n ≤ 512 := by omega
      have hq : ∀ (v' : jT) (M' : zM), jC xs (n + 1) v' M' → jM v' M' → jP (n + 1) v' → wp L 40 zm_law 780 [rV 3, rV 4, rV 174, iV i] [] M' (fun r _ => r = some (iV 1)) := fun v' M' a1 a2 a3 => by
        refine wp_iinc3 (pc := 780) d_law_780 rfl (by omega) (by omega) ?_
        refine wp_goto (tgt := 18) (pc := 783) d_law_783 rfl ?_
        exact ih (i + 5) (n + 1) v' M' (by omega) (by omega) (by omega) (by omega) a1 a2 a3
      refine wp_aload_n (pc := 26) d_law_26 rfl ?_
      refine wp_iload_n (pc := 27) d_law_27 rfl ?_
      refine wp_iald (pc := 28) d_law_28 (zk_s L) (by omega) (by omega) ?_
      refine wp_bipush (pc := 29) d_law_29 rfl ?_
      refine wp_iand (v := _) (pc := 31) d_law_31 rfl ?_
      generalize zI2 (fun x1 x2 => x1 &&& x2) (M 3 i.toNat) 31 = w9
      rcases zsw23 0 w9 with c32 | c32 | c32 | c32 | c32 | c32 | c32 | c32 | c32 | c32 | c32 | c32 | c32 | c32 | c32 | c32 | c32 | c32 | c32 | c32 | c32 | c32 | c32 | c32
      · refine wp_tableO (tgt := 780) (pc := 32) d_law_32 (by omega) rfl ?_
        exact hq v M hc.more hm hp.more
      · refine wp_tableI (tgt := 140) (off := 108) (pc := 32) d_law_32 (by omega) (by omega) (by rw [c32]; rfl) rfl ?_
        exact law_letter hL g1 (by omega) hn hc hm hp hq
      · refine wp_tableI (tgt := 163) (off := 131) (pc := 32) d_law_32 (by omega) (by omega) (by rw [c32]; rfl) rfl ?_
        exact law_blank hL g1 (by omega) hn hc hm hp hq
      · refine wp_tableI (tgt := 176) (off := 144) (pc := 32) d_law_32 (by omega) (by omega) (by rw [c32]; rfl) rfl ?_
        exact law_copy hL g1 (by omega) hn hc hm hp hq
      · refine wp_tableI (tgt := 189) (off := 157) (pc := 32) d_law_32 (by omega) (by omega) (by rw [c32]; rfl) rfl ?_
        exact law_correct hL g1 (by omega) hn hc hm hp hq
      · refine wp_tableI (tgt := 212) (off := 180) (pc := 32) d_law_32 (by omega) (by omega) (by rw [c32]; rfl) rfl ?_
        exact law_drop hL g1 (by omega) hn hc hm hp hq
      · refine wp_tableI (tgt := 225) (off := 193) (pc := 32) d_law_32 (by omega) (by omega) (by rw [c32]; rfl) rfl ?_
        exact law_band hL g1 (by omega) hn hc hm hp hq
      · refine wp_tableI (tgt := 248) (off := 216) (pc := 32) d_law_32 (by omega) (by omega) (by rw [c32]; rfl) rfl ?_
        exact law_of hL g1 (by omega) hn hc hm hp hq
      · refine wp_tableI (tgt := 281) (off := 249) (pc := 32) d_law_32 (by omega) (by omega) (by rw [c32]; rfl) rfl ?_
        exact law_sign hL g1 (by omega) hn hc hm hp hq
      · refine wp_tableI (tgt := 314) (off := 282) (pc := 32) d_law_32 (by omega) (by omega) (by rw [c32]; rfl) rfl ?_
        exact law_collate hL g1 (by omega) hn hc hm hp hq
      · refine wp_tableI (tgt := 357) (off := 325) (pc := 32) d_law_32 (by omega) (by omega) (by rw [c32]; rfl) rfl ?_
        exact law_step hL g1 (by omega) hn hc hm hp hq
      · refine wp_tableI (tgt := 400) (off := 368) (pc := 32) d_law_32 (by omega) (by omega) (by rw [c32]; rfl) rfl ?_
        exact law_reading hL g1 (by omega) hn hc hm hp hq
      · refine wp_tableI (tgt := 433) (off := 401) (pc := 32) d_law_32 (by omega) (by omega) (by rw [c32]; rfl) rfl ?_
        exact law_states hL g1 (by omega) hn hc hm hp hq
      · refine wp_tableI (tgt := 456) (off := 424) (pc := 32) d_law_32 (by omega) (by omega) (by rw [c32]; rfl) rfl ?_
        exact law_state hL g1 (by omega) hn hc hm hp hq
      · refine wp_tableI (tgt := 489) (off := 457) (pc := 32) d_law_32 (by omega) (by omega) (by rw [c32]; rfl) rfl ?_
        exact law_far hL g1 (by omega) hn hc hm hp hq
      · refine wp_tableI (tgt := 522) (off := 490) (pc := 32) d_law_32 (by omega) (by omega) (by rw [c32]; rfl) rfl ?_
        exact law_turned hL g1 (by omega) hn hc hm hp hq
      · refine wp_tableI (tgt := 555) (off := 523) (pc := 32) d_law_32 (by omega) (by omega) (by rw [c32]; rfl) rfl ?_
        exact law_see hL g1 (by omega) hn hc hm hp hq
      · refine wp_tableI (tgt := 608) (off := 576) (pc := 32) d_law_32 (by omega) (by omega) (by rw [c32]; rfl) rfl ?_
        exact law_unsee hL g1 (by omega) hn hc hm hp hq
      · refine wp_tableI (tgt := 631) (off := 599) (pc := 32) d_law_32 (by omega) (by omega) (by rw [c32]; rfl) rfl ?_
        exact law_seen hL g1 (by omega) hn hc hm hp hq
      · refine wp_tableI (tgt := 664) (off := 632) (pc := 32) d_law_32 (by omega) (by omega) (by rw [c32]; rfl) rfl ?_
        exact law_forme hL g1 (by omega) hn hc hm hp hq
      · refine wp_tableI (tgt := 697) (off := 665) (pc := 32) d_law_32 (by omega) (by omega) (by rw [c32]; rfl) rfl ?_
        exact law_formes hL g1 (by omega) hn hc hm hp hq
      · refine wp_tableI (tgt := 720) (off := 688) (pc := 32) d_law_32 (by omega) (by omega) (by rw [c32]; rfl) rfl ?_
        exact law_order hL g1 (by omega) hn hc hm hp hq
      · refine wp_tableI (tgt := 743) (off := 711) (pc := 32) d_law_32 (by omega) (by omega) (by rw [c32]; rfl) rfl ?_
        exact law_count hL g1 (by omega) hn hc hm hp hq
      · refine wp_tableI (tgt := 766) (off := 734) (pc := 32) d_law_32 (by omega) (by omega) (by rw [c32]; rfl) rfl ?_
        exact law_digest hL g1 (by omega) hn hc hm hp hq
end ZLw
