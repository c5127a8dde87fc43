/-! the law: its loop, by program wip/gen/genlaw.py -/
theorem am_31 (x : Int) : 0 ≤ (Int32.ofInt x &&& Int32.ofInt 31).toInt ∧ (Int32.ofInt x &&& Int32.ofInt 31).toInt ≤ 31 := by
  have h := pk_and (Int32.ofInt x) (m := 31) 5 (by decide)
  rw [show (Int32.ofInt 31 : Int32) = 31 from rfl, h]
  have h2 : (Int32.ofInt x).toBitVec.toNat % 2 ^ 5 < 32 := Nat.mod_lt _ (by decide)
  rw [nI_toInt (by omega)]
  omega
theorem J.n {n : Nat} {μ : am_M} (h : J n μ) : n ≤ 114 := by
  have h1 := h.2.2.1.1
  have h2 := h.2.1.2.2.2.2.2.2.1
  omega
set_option maxHeartbeats 4000000 in
theorem law_loop (sc : am_Sc) (ln : Int) (xs : Int → Int) (hsc : sc = some (ln, xs)) (hln : 0 ≤ ln ∧ ln ≤ 3072) : ∀ (d : Nat) (i : Int) (n : Nat) (μ : am_M), 0 ≤ i → i ≤ ln + 6 → ln + 6 - i ≤ (d : Int) → J n μ → AW sc 140 18 [(3, 0), (2, 0), (2, 32), (0, i)] [] n μ (fun r n' _ => r = some (0, 1) ∧ n' ≤ 114) := by
  intro d
  induction d with
  | zero =>
    intro i n μ i0 i1 hd hJ
    refine aw_iload_n (q := 19) mL_law dL_law_18 rfl rfl ?_
    refine aw_aload_s (q := 20) mL_law dL_law_19 rfl rfl ?_
    refine aw_slen hsc (q := 21) mL_law dL_law_20 rfl ?_
    refine aw_bipush (q := 23) mL_law dL_law_21 rfl rfl ?_
    refine aw_isub (q := 24) mL_law dL_law_23 rfl (by omega) (by omega) ?_
    refine aw_icmp_gt (tgt := 928) (q := 27) mL_law dL_law_24 rfl (by decide) (fun c_24 => ?_) (fun c_24 => ?_)
    · refine aw_iconst (q := 929) mL_law dL_law_928 rfl rfl ?_
      refine aw_zret mL_law dL_law_929 (by first | exact Or.inl rfl | exact Or.inr rfl | assumption | omega) ?_
      exact ⟨rfl, hJ.n⟩
    · exact absurd c_24 (by omega)
  | succ d ih =>
    intro i n μ i0 i1 hd hJ
    refine aw_iload_n (q := 19) mL_law dL_law_18 rfl rfl ?_
    refine aw_aload_s (q := 20) mL_law dL_law_19 rfl rfl ?_
    refine aw_slen hsc (q := 21) mL_law dL_law_20 rfl ?_
    refine aw_bipush (q := 23) mL_law dL_law_21 rfl rfl ?_
    refine aw_isub (q := 24) mL_law dL_law_23 rfl (by omega) (by omega) ?_
    refine aw_icmp_gt (tgt := 928) (q := 27) mL_law dL_law_24 rfl (by decide) (fun c_24 => ?_) (fun c_24 => ?_)
    · refine aw_iconst (q := 929) mL_law dL_law_928 rfl rfl ?_
      refine aw_zret mL_law dL_law_929 (by first | exact Or.inl rfl | exact Or.inr rfl | assumption | omega) ?_
      exact ⟨rfl, hJ.n⟩
    have hi : i ≤ ln - 6 := by omega
    have NX : ∀ (n2 : Nat) (μ2 : am_M), J n2 μ2 → AW sc 140 922 [(3, 0), (2, 0), (2, 32), (0, i)] [] n2 μ2 (fun r n' _ => r = some (0, 1) ∧ n' ≤ 114) := by
      intro n2 μ2 hJ2
      refine aw_iinc (q := 925) mL_law dL_law_922 rfl rfl (by decide) (by omega) (by omega) rfl ?_
      refine aw_goto (q := 18) mL_law dL_law_925 (by decide) ?_
      exact ih (i + 6) n2 μ2 (by omega) (by omega) (by omega) hJ2
    have hz := am_31 (xs i)
    refine aw_aload_s (q := 28) mL_law dL_law_27 rfl rfl ?_
    refine aw_iload_n (q := 29) mL_law dL_law_28 rfl rfl ?_
    refine aw_sld hsc (q := 30) mL_law dL_law_29 rfl (by omega) (by omega) ?_
    refine aw_bipush (q := 32) mL_law dL_law_30 rfl rfl ?_
    refine aw_iand (q := 33) mL_law dL_law_32 rfl rfl ?_
    obtain ⟨z, hzd⟩ : ∃ z, z = (Int32.ofInt (xs i) &&& Int32.ofInt 31).toInt := ⟨_, rfl⟩
    rw [← hzd] at hz ⊢
    have hzc : z = 0 ∨ z = 1 ∨ z = 2 ∨ z = 3 ∨ z = 4 ∨ z = 5 ∨ z = 6 ∨ z = 7 ∨ z = 8 ∨ z = 9 ∨ z = 10 ∨ z = 11 ∨ z = 12 ∨ z = 13 ∨ z = 14 ∨ z = 15 ∨ z = 16 ∨ z = 17 ∨ z = 18 ∨ z = 19 ∨ z = 20 ∨ z = 21 ∨ z = 22 ∨ z = 23 ∨ z = 24 ∨ z = 25 ∨ 25 < z := by omega
    rcases hzc with h | h | h | h | h | h | h | h | h | h | h | h | h | h | h | h | h | h | h | h | h | h | h | h | h | h | h
    · rw [h]
      refine aw_tableIn (q := 152) mL_law dL_law_33 (by decide) (by decide) rfl (by decide) ?_
      refine aw_aload_n (q := 153) mL_law dL_law_152 rfl rfl ?_
      refine aw_v0 (ci := 6) (q := 156) mL_law dL_law_153 rfl l8_13 k140_50 rfl kd_0 rfl rfl rfl (pr_status  hJ) (fun r n1 μ1 hq => ?_)
      obtain ⟨x, hr, hq⟩ := hq
      rw [hr]
      refine aw_aload_n (q := 157) mL_law dL_law_156 rfl rfl ?_
      refine aw_v0 (ci := 7) (q := 160) mL_law dL_law_157 rfl l8_17 k140_88 rfl kd_32 rfl rfl rfl (hq) (fun r2 n2 μ2 hq2 => ?_)
      obtain ⟨hr2, hJ2⟩ := hq2
      rw [hr2]
      refine aw_icmp_eq (tgt := 922) (q := 163) mL_law dL_law_160 rfl (by decide) (fun c_160 => ?_) (fun c_160 => ?_)
      · exact NX n2 μ2 hJ2
      · exact absurd rfl c_160
    · rw [h]
      refine aw_tableIn (q := 165) mL_law dL_law_33 (by decide) (by decide) rfl (by decide) ?_
      refine aw_aload_n (q := 166) mL_law dL_law_165 rfl rfl ?_
      refine aw_aload_s (q := 167) mL_law dL_law_166 rfl rfl ?_
      refine aw_iload_n (q := 168) mL_law dL_law_167 rfl rfl ?_
      refine aw_iconst (q := 169) mL_law dL_law_168 rfl rfl ?_
      refine aw_iadd (q := 170) mL_law dL_law_169 rfl (by omega) (by omega) ?_
      refine aw_sld hsc (q := 171) mL_law dL_law_170 rfl (by omega) (by omega) ?_
      refine aw_aload_s (q := 172) mL_law dL_law_171 rfl rfl ?_
      refine aw_iload_n (q := 173) mL_law dL_law_172 rfl rfl ?_
      refine aw_iconst (q := 174) mL_law dL_law_173 rfl rfl ?_
      refine aw_iadd (q := 175) mL_law dL_law_174 rfl (by omega) (by omega) ?_
      refine aw_sld hsc (q := 176) mL_law dL_law_175 rfl (by omega) (by omega) ?_
      refine aw_v2 (ci := 6) (q := 179) mL_law dL_law_176 rfl l8_18 k140_51 rfl kd_0 rfl rfl rfl (pr_page (xs (i + 1)) (xs (i + 2)) hJ) (fun r n1 μ1 hq => ?_)
      obtain ⟨x, hr, hq⟩ := hq
      rw [hr]
      refine aw_aload_n (q := 180) mL_law dL_law_179 rfl rfl ?_
      refine aw_aload_s (q := 181) mL_law dL_law_180 rfl rfl ?_
      refine aw_iload_n (q := 182) mL_law dL_law_181 rfl rfl ?_
      refine aw_iconst (q := 183) mL_law dL_law_182 rfl rfl ?_
      refine aw_iadd (q := 184) mL_law dL_law_183 rfl (by omega) (by omega) ?_
      refine aw_sld hsc (q := 185) mL_law dL_law_184 rfl (by omega) (by omega) ?_
      refine aw_aload_s (q := 186) mL_law dL_law_185 rfl rfl ?_
      refine aw_iload_n (q := 187) mL_law dL_law_186 rfl rfl ?_
      refine aw_iconst (q := 188) mL_law dL_law_187 rfl rfl ?_
      refine aw_iadd (q := 189) mL_law dL_law_188 rfl (by omega) (by omega) ?_
      refine aw_sld hsc (q := 190) mL_law dL_law_189 rfl (by omega) (by omega) ?_
      refine aw_v2 (ci := 7) (q := 193) mL_law dL_law_190 rfl l8_22 k140_94 rfl kd_32 rfl rfl rfl (hq) (fun r2 n2 μ2 hq2 => ?_)
      obtain ⟨hr2, hJ2⟩ := hq2
      rw [hr2]
      refine aw_icmp_eq (tgt := 922) (q := 196) mL_law dL_law_193 rfl (by decide) (fun c_193 => ?_) (fun c_193 => ?_)
      · exact NX n2 μ2 hJ2
      · exact absurd rfl c_193
    · rw [h]
      refine aw_tableIn (q := 198) mL_law dL_law_33 (by decide) (by decide) rfl (by decide) ?_
      refine aw_aload_n (q := 199) mL_law dL_law_198 rfl rfl ?_
      refine aw_aload_s (q := 200) mL_law dL_law_199 rfl rfl ?_
      refine aw_iload_n (q := 201) mL_law dL_law_200 rfl rfl ?_
      refine aw_iconst (q := 202) mL_law dL_law_201 rfl rfl ?_
      refine aw_iadd (q := 203) mL_law dL_law_202 rfl (by omega) (by omega) ?_
      refine aw_sld hsc (q := 204) mL_law dL_law_203 rfl (by omega) (by omega) ?_
      refine aw_v1 (ci := 6) (q := 207) mL_law dL_law_204 rfl l8_23 k140_52 rfl kd_0 rfl rfl rfl (pr_line (xs (i + 1)) hJ) (fun r n1 μ1 hq => ?_)
      obtain ⟨x, hr, hq⟩ := hq
      rw [hr]
      refine aw_aload_n (q := 208) mL_law dL_law_207 rfl rfl ?_
      refine aw_aload_s (q := 209) mL_law dL_law_208 rfl rfl ?_
      refine aw_iload_n (q := 210) mL_law dL_law_209 rfl rfl ?_
      refine aw_iconst (q := 211) mL_law dL_law_210 rfl rfl ?_
      refine aw_iadd (q := 212) mL_law dL_law_211 rfl (by omega) (by omega) ?_
      refine aw_sld hsc (q := 213) mL_law dL_law_212 rfl (by omega) (by omega) ?_
      refine aw_v1 (ci := 7) (q := 216) mL_law dL_law_213 rfl l8_27 k140_95 rfl kd_32 rfl rfl rfl (hq) (fun r2 n2 μ2 hq2 => ?_)
      obtain ⟨hr2, hJ2⟩ := hq2
      rw [hr2]
      refine aw_icmp_eq (tgt := 922) (q := 219) mL_law dL_law_216 rfl (by decide) (fun c_216 => ?_) (fun c_216 => ?_)
      · exact NX n2 μ2 hJ2
      · exact absurd rfl c_216
    · rw [h]
      refine aw_tableIn (q := 221) mL_law dL_law_33 (by decide) (by decide) rfl (by decide) ?_
      refine aw_aload_n (q := 222) mL_law dL_law_221 rfl rfl ?_
      refine aw_aload_s (q := 223) mL_law dL_law_222 rfl rfl ?_
      refine aw_iload_n (q := 224) mL_law dL_law_223 rfl rfl ?_
      refine aw_iconst (q := 225) mL_law dL_law_224 rfl rfl ?_
      refine aw_iadd (q := 226) mL_law dL_law_225 rfl (by omega) (by omega) ?_
      refine aw_sld hsc (q := 227) mL_law dL_law_226 rfl (by omega) (by omega) ?_
      refine aw_aload_s (q := 228) mL_law dL_law_227 rfl rfl ?_
      refine aw_iload_n (q := 229) mL_law dL_law_228 rfl rfl ?_
      refine aw_iconst (q := 230) mL_law dL_law_229 rfl rfl ?_
      refine aw_iadd (q := 231) mL_law dL_law_230 rfl (by omega) (by omega) ?_
      refine aw_sld hsc (q := 232) mL_law dL_law_231 rfl (by omega) (by omega) ?_
      refine aw_v2 (ci := 6) (q := 235) mL_law dL_law_232 rfl l8_28 k140_53 rfl kd_0 rfl rfl rfl (pr_change (xs (i + 1)) (xs (i + 2)) hJ) (fun r n1 μ1 hq => ?_)
      obtain ⟨x, hr, hq⟩ := hq
      rw [hr]
      refine aw_aload_n (q := 236) mL_law dL_law_235 rfl rfl ?_
      refine aw_aload_s (q := 237) mL_law dL_law_236 rfl rfl ?_
      refine aw_iload_n (q := 238) mL_law dL_law_237 rfl rfl ?_
      refine aw_iconst (q := 239) mL_law dL_law_238 rfl rfl ?_
      refine aw_iadd (q := 240) mL_law dL_law_239 rfl (by omega) (by omega) ?_
      refine aw_sld hsc (q := 241) mL_law dL_law_240 rfl (by omega) (by omega) ?_
      refine aw_aload_s (q := 242) mL_law dL_law_241 rfl rfl ?_
      refine aw_iload_n (q := 243) mL_law dL_law_242 rfl rfl ?_
      refine aw_iconst (q := 244) mL_law dL_law_243 rfl rfl ?_
      refine aw_iadd (q := 245) mL_law dL_law_244 rfl (by omega) (by omega) ?_
      refine aw_sld hsc (q := 246) mL_law dL_law_245 rfl (by omega) (by omega) ?_
      refine aw_v2 (ci := 7) (q := 249) mL_law dL_law_246 rfl l8_31 k140_96 rfl kd_32 rfl rfl rfl (hq) (fun r2 n2 μ2 hq2 => ?_)
      obtain ⟨hr2, hJ2⟩ := hq2
      rw [hr2]
      refine aw_icmp_eq (tgt := 922) (q := 252) mL_law dL_law_249 rfl (by decide) (fun c_249 => ?_) (fun c_249 => ?_)
      · exact NX n2 μ2 hJ2
      · exact absurd rfl c_249
    · rw [h]
      refine aw_tableIn (q := 254) mL_law dL_law_33 (by decide) (by decide) rfl (by decide) ?_
      refine aw_aload_n (q := 255) mL_law dL_law_254 rfl rfl ?_
      refine aw_aload_s (q := 256) mL_law dL_law_255 rfl rfl ?_
      refine aw_iload_n (q := 257) mL_law dL_law_256 rfl rfl ?_
      refine aw_iconst (q := 258) mL_law dL_law_257 rfl rfl ?_
      refine aw_iadd (q := 259) mL_law dL_law_258 rfl (by omega) (by omega) ?_
      refine aw_sld hsc (q := 260) mL_law dL_law_259 rfl (by omega) (by omega) ?_
      refine aw_aload_s (q := 261) mL_law dL_law_260 rfl rfl ?_
      refine aw_iload_n (q := 262) mL_law dL_law_261 rfl rfl ?_
      refine aw_iconst (q := 263) mL_law dL_law_262 rfl rfl ?_
      refine aw_iadd (q := 264) mL_law dL_law_263 rfl (by omega) (by omega) ?_
      refine aw_sld hsc (q := 265) mL_law dL_law_264 rfl (by omega) (by omega) ?_
      refine aw_aload_s (q := 266) mL_law dL_law_265 rfl rfl ?_
      refine aw_iload_n (q := 267) mL_law dL_law_266 rfl rfl ?_
      refine aw_iconst (q := 268) mL_law dL_law_267 rfl rfl ?_
      refine aw_iadd (q := 269) mL_law dL_law_268 rfl (by omega) (by omega) ?_
      refine aw_sld hsc (q := 270) mL_law dL_law_269 rfl (by omega) (by omega) ?_
      refine aw_aload_s (q := 271) mL_law dL_law_270 rfl rfl ?_
      refine aw_iload_n (q := 272) mL_law dL_law_271 rfl rfl ?_
      refine aw_iconst (q := 273) mL_law dL_law_272 rfl rfl ?_
      refine aw_iadd (q := 274) mL_law dL_law_273 rfl (by omega) (by omega) ?_
      refine aw_sld hsc (q := 275) mL_law dL_law_274 rfl (by omega) (by omega) ?_
      refine aw_aload_s (q := 276) mL_law dL_law_275 rfl rfl ?_
      refine aw_iload_n (q := 277) mL_law dL_law_276 rfl rfl ?_
      refine aw_iconst (q := 278) mL_law dL_law_277 rfl rfl ?_
      refine aw_iadd (q := 279) mL_law dL_law_278 rfl (by omega) (by omega) ?_
      refine aw_sld hsc (q := 280) mL_law dL_law_279 rfl (by omega) (by omega) ?_
      refine aw_v5 (ci := 6) (q := 283) mL_law dL_law_280 rfl l8_32 k140_54 rfl kd_0 rfl rfl rfl (pr_note (xs (i + 1)) (xs (i + 2)) (xs (i + 3)) (xs (i + 4)) (xs (i + 5)) hJ) (fun r n1 μ1 hq => ?_)
      obtain ⟨x, hr, hq⟩ := hq
      rw [hr]
      refine aw_aload_n (q := 284) mL_law dL_law_283 rfl rfl ?_
      refine aw_aload_s (q := 285) mL_law dL_law_284 rfl rfl ?_
      refine aw_iload_n (q := 286) mL_law dL_law_285 rfl rfl ?_
      refine aw_iconst (q := 287) mL_law dL_law_286 rfl rfl ?_
      refine aw_iadd (q := 288) mL_law dL_law_287 rfl (by omega) (by omega) ?_
      refine aw_sld hsc (q := 289) mL_law dL_law_288 rfl (by omega) (by omega) ?_
      refine aw_aload_s (q := 290) mL_law dL_law_289 rfl rfl ?_
      refine aw_iload_n (q := 291) mL_law dL_law_290 rfl rfl ?_
      refine aw_iconst (q := 292) mL_law dL_law_291 rfl rfl ?_
      refine aw_iadd (q := 293) mL_law dL_law_292 rfl (by omega) (by omega) ?_
      refine aw_sld hsc (q := 294) mL_law dL_law_293 rfl (by omega) (by omega) ?_
      refine aw_aload_s (q := 295) mL_law dL_law_294 rfl rfl ?_
      refine aw_iload_n (q := 296) mL_law dL_law_295 rfl rfl ?_
      refine aw_iconst (q := 297) mL_law dL_law_296 rfl rfl ?_
      refine aw_iadd (q := 298) mL_law dL_law_297 rfl (by omega) (by omega) ?_
      refine aw_sld hsc (q := 299) mL_law dL_law_298 rfl (by omega) (by omega) ?_
      refine aw_aload_s (q := 300) mL_law dL_law_299 rfl rfl ?_
      refine aw_iload_n (q := 301) mL_law dL_law_300 rfl rfl ?_
      refine aw_iconst (q := 302) mL_law dL_law_301 rfl rfl ?_
      refine aw_iadd (q := 303) mL_law dL_law_302 rfl (by omega) (by omega) ?_
      refine aw_sld hsc (q := 304) mL_law dL_law_303 rfl (by omega) (by omega) ?_
      refine aw_aload_s (q := 305) mL_law dL_law_304 rfl rfl ?_
      refine aw_iload_n (q := 306) mL_law dL_law_305 rfl rfl ?_
      refine aw_iconst (q := 307) mL_law dL_law_306 rfl rfl ?_
      refine aw_iadd (q := 308) mL_law dL_law_307 rfl (by omega) (by omega) ?_
      refine aw_sld hsc (q := 309) mL_law dL_law_308 rfl (by omega) (by omega) ?_
      refine aw_v5 (ci := 7) (q := 312) mL_law dL_law_309 rfl l8_36 k140_97 rfl kd_32 rfl rfl rfl (hq) (fun r2 n2 μ2 hq2 => ?_)
      obtain ⟨hr2, hJ2⟩ := hq2
      rw [hr2]
      refine aw_icmp_eq (tgt := 922) (q := 315) mL_law dL_law_312 rfl (by decide) (fun c_312 => ?_) (fun c_312 => ?_)
      · exact NX n2 μ2 hJ2
      · exact absurd rfl c_312
    · rw [h]
      refine aw_tableIn (q := 317) mL_law dL_law_33 (by decide) (by decide) rfl (by decide) ?_
      refine aw_aload_n (q := 318) mL_law dL_law_317 rfl rfl ?_
      refine aw_aload_s (q := 319) mL_law dL_law_318 rfl rfl ?_
      refine aw_iload_n (q := 320) mL_law dL_law_319 rfl rfl ?_
      refine aw_iconst (q := 321) mL_law dL_law_320 rfl rfl ?_
      refine aw_iadd (q := 322) mL_law dL_law_321 rfl (by omega) (by omega) ?_
      refine aw_sld hsc (q := 323) mL_law dL_law_322 rfl (by omega) (by omega) ?_
      refine aw_aload_s (q := 324) mL_law dL_law_323 rfl rfl ?_
      refine aw_iload_n (q := 325) mL_law dL_law_324 rfl rfl ?_
      refine aw_iconst (q := 326) mL_law dL_law_325 rfl rfl ?_
      refine aw_iadd (q := 327) mL_law dL_law_326 rfl (by omega) (by omega) ?_
      refine aw_sld hsc (q := 328) mL_law dL_law_327 rfl (by omega) (by omega) ?_
      refine aw_v2 (ci := 6) (q := 331) mL_law dL_law_328 rfl l8_37 k140_55 rfl kd_0 rfl rfl rfl (pr_answer (xs (i + 1)) (xs (i + 2)) hJ) (fun r n1 μ1 hq => ?_)
      obtain ⟨x, hr, hq⟩ := hq
      rw [hr]
      refine aw_aload_n (q := 332) mL_law dL_law_331 rfl rfl ?_
      refine aw_aload_s (q := 333) mL_law dL_law_332 rfl rfl ?_
      refine aw_iload_n (q := 334) mL_law dL_law_333 rfl rfl ?_
      refine aw_iconst (q := 335) mL_law dL_law_334 rfl rfl ?_
      refine aw_iadd (q := 336) mL_law dL_law_335 rfl (by omega) (by omega) ?_
      refine aw_sld hsc (q := 337) mL_law dL_law_336 rfl (by omega) (by omega) ?_
      refine aw_aload_s (q := 338) mL_law dL_law_337 rfl rfl ?_
      refine aw_iload_n (q := 339) mL_law dL_law_338 rfl rfl ?_
      refine aw_iconst (q := 340) mL_law dL_law_339 rfl rfl ?_
      refine aw_iadd (q := 341) mL_law dL_law_340 rfl (by omega) (by omega) ?_
      refine aw_sld hsc (q := 342) mL_law dL_law_341 rfl (by omega) (by omega) ?_
      refine aw_v2 (ci := 7) (q := 345) mL_law dL_law_342 rfl l8_41 k140_98 rfl kd_32 rfl rfl rfl (hq) (fun r2 n2 μ2 hq2 => ?_)
      obtain ⟨hr2, hJ2⟩ := hq2
      rw [hr2]
      refine aw_icmp_eq (tgt := 922) (q := 348) mL_law dL_law_345 rfl (by decide) (fun c_345 => ?_) (fun c_345 => ?_)
      · exact NX n2 μ2 hJ2
      · exact absurd rfl c_345
    · rw [h]
      refine aw_tableIn (q := 350) mL_law dL_law_33 (by decide) (by decide) rfl (by decide) ?_
      refine aw_aload_n (q := 351) mL_law dL_law_350 rfl rfl ?_
      refine aw_aload_s (q := 352) mL_law dL_law_351 rfl rfl ?_
      refine aw_iload_n (q := 353) mL_law dL_law_352 rfl rfl ?_
      refine aw_iconst (q := 354) mL_law dL_law_353 rfl rfl ?_
      refine aw_iadd (q := 355) mL_law dL_law_354 rfl (by omega) (by omega) ?_
      refine aw_sld hsc (q := 356) mL_law dL_law_355 rfl (by omega) (by omega) ?_
      refine aw_aload_s (q := 357) mL_law dL_law_356 rfl rfl ?_
      refine aw_iload_n (q := 358) mL_law dL_law_357 rfl rfl ?_
      refine aw_iconst (q := 359) mL_law dL_law_358 rfl rfl ?_
      refine aw_iadd (q := 360) mL_law dL_law_359 rfl (by omega) (by omega) ?_
      refine aw_sld hsc (q := 361) mL_law dL_law_360 rfl (by omega) (by omega) ?_
      refine aw_v2 (ci := 6) (q := 364) mL_law dL_law_361 rfl l8_42 k140_56 rfl kd_0 rfl rfl rfl (pr_cut (xs (i + 1)) (xs (i + 2)) hJ) (fun r n1 μ1 hq => ?_)
      obtain ⟨x, hr, hq⟩ := hq
      rw [hr]
      refine aw_aload_n (q := 365) mL_law dL_law_364 rfl rfl ?_
      refine aw_aload_s (q := 366) mL_law dL_law_365 rfl rfl ?_
      refine aw_iload_n (q := 367) mL_law dL_law_366 rfl rfl ?_
      refine aw_iconst (q := 368) mL_law dL_law_367 rfl rfl ?_
      refine aw_iadd (q := 369) mL_law dL_law_368 rfl (by omega) (by omega) ?_
      refine aw_sld hsc (q := 370) mL_law dL_law_369 rfl (by omega) (by omega) ?_
      refine aw_aload_s (q := 371) mL_law dL_law_370 rfl rfl ?_
      refine aw_iload_n (q := 372) mL_law dL_law_371 rfl rfl ?_
      refine aw_iconst (q := 373) mL_law dL_law_372 rfl rfl ?_
      refine aw_iadd (q := 374) mL_law dL_law_373 rfl (by omega) (by omega) ?_
      refine aw_sld hsc (q := 375) mL_law dL_law_374 rfl (by omega) (by omega) ?_
      refine aw_v2 (ci := 7) (q := 378) mL_law dL_law_375 rfl l8_45 k140_99 rfl kd_32 rfl rfl rfl (hq) (fun r2 n2 μ2 hq2 => ?_)
      obtain ⟨hr2, hJ2⟩ := hq2
      rw [hr2]
      refine aw_icmp_eq (tgt := 922) (q := 381) mL_law dL_law_378 rfl (by decide) (fun c_378 => ?_) (fun c_378 => ?_)
      · exact NX n2 μ2 hJ2
      · exact absurd rfl c_378
    · rw [h]
      refine aw_tableIn (q := 383) mL_law dL_law_33 (by decide) (by decide) rfl (by decide) ?_
      refine aw_aload_n (q := 384) mL_law dL_law_383 rfl rfl ?_
      refine aw_aload_s (q := 385) mL_law dL_law_384 rfl rfl ?_
      refine aw_iload_n (q := 386) mL_law dL_law_385 rfl rfl ?_
      refine aw_iconst (q := 387) mL_law dL_law_386 rfl rfl ?_
      refine aw_iadd (q := 388) mL_law dL_law_387 rfl (by omega) (by omega) ?_
      refine aw_sld hsc (q := 389) mL_law dL_law_388 rfl (by omega) (by omega) ?_
      refine aw_v1 (ci := 6) (q := 392) mL_law dL_law_389 rfl l8_46 k140_57 rfl kd_0 rfl rfl rfl (pr_cutting (xs (i + 1)) hJ) (fun r n1 μ1 hq => ?_)
      obtain ⟨x, hr, hq⟩ := hq
      rw [hr]
      refine aw_aload_n (q := 393) mL_law dL_law_392 rfl rfl ?_
      refine aw_aload_s (q := 394) mL_law dL_law_393 rfl rfl ?_
      refine aw_iload_n (q := 395) mL_law dL_law_394 rfl rfl ?_
      refine aw_iconst (q := 396) mL_law dL_law_395 rfl rfl ?_
      refine aw_iadd (q := 397) mL_law dL_law_396 rfl (by omega) (by omega) ?_
      refine aw_sld hsc (q := 398) mL_law dL_law_397 rfl (by omega) (by omega) ?_
      refine aw_v1 (ci := 7) (q := 401) mL_law dL_law_398 rfl l8_50 k140_100 rfl kd_32 rfl rfl rfl (hq) (fun r2 n2 μ2 hq2 => ?_)
      obtain ⟨hr2, hJ2⟩ := hq2
      rw [hr2]
      refine aw_icmp_eq (tgt := 922) (q := 404) mL_law dL_law_401 rfl (by decide) (fun c_401 => ?_) (fun c_401 => ?_)
      · exact NX n2 μ2 hJ2
      · exact absurd rfl c_401
    · rw [h]
      refine aw_tableIn (q := 406) mL_law dL_law_33 (by decide) (by decide) rfl (by decide) ?_
      refine aw_aload_n (q := 407) mL_law dL_law_406 rfl rfl ?_
      refine aw_aload_s (q := 408) mL_law dL_law_407 rfl rfl ?_
      refine aw_iload_n (q := 409) mL_law dL_law_408 rfl rfl ?_
      refine aw_iconst (q := 410) mL_law dL_law_409 rfl rfl ?_
      refine aw_iadd (q := 411) mL_law dL_law_410 rfl (by omega) (by omega) ?_
      refine aw_sld hsc (q := 412) mL_law dL_law_411 rfl (by omega) (by omega) ?_
      refine aw_aload_s (q := 413) mL_law dL_law_412 rfl rfl ?_
      refine aw_iload_n (q := 414) mL_law dL_law_413 rfl rfl ?_
      refine aw_iconst (q := 415) mL_law dL_law_414 rfl rfl ?_
      refine aw_iadd (q := 416) mL_law dL_law_415 rfl (by omega) (by omega) ?_
      refine aw_sld hsc (q := 417) mL_law dL_law_416 rfl (by omega) (by omega) ?_
      refine aw_v2 (ci := 6) (q := 420) mL_law dL_law_417 rfl l8_51 k140_58 rfl kd_0 rfl rfl rfl (pr_bind (xs (i + 1)) (xs (i + 2)) hJ) (fun r n1 μ1 hq => ?_)
      obtain ⟨x, hr, hq⟩ := hq
      rw [hr]
      refine aw_aload_n (q := 421) mL_law dL_law_420 rfl rfl ?_
      refine aw_aload_s (q := 422) mL_law dL_law_421 rfl rfl ?_
      refine aw_iload_n (q := 423) mL_law dL_law_422 rfl rfl ?_
      refine aw_iconst (q := 424) mL_law dL_law_423 rfl rfl ?_
      refine aw_iadd (q := 425) mL_law dL_law_424 rfl (by omega) (by omega) ?_
      refine aw_sld hsc (q := 426) mL_law dL_law_425 rfl (by omega) (by omega) ?_
      refine aw_aload_s (q := 427) mL_law dL_law_426 rfl rfl ?_
      refine aw_iload_n (q := 428) mL_law dL_law_427 rfl rfl ?_
      refine aw_iconst (q := 429) mL_law dL_law_428 rfl rfl ?_
      refine aw_iadd (q := 430) mL_law dL_law_429 rfl (by omega) (by omega) ?_
      refine aw_sld hsc (q := 431) mL_law dL_law_430 rfl (by omega) (by omega) ?_
      refine aw_v2 (ci := 7) (q := 434) mL_law dL_law_431 rfl l8_54 k140_101 rfl kd_32 rfl rfl rfl (hq) (fun r2 n2 μ2 hq2 => ?_)
      obtain ⟨hr2, hJ2⟩ := hq2
      rw [hr2]
      refine aw_icmp_eq (tgt := 922) (q := 437) mL_law dL_law_434 rfl (by decide) (fun c_434 => ?_) (fun c_434 => ?_)
      · exact NX n2 μ2 hJ2
      · exact absurd rfl c_434
    · rw [h]
      refine aw_tableIn (q := 439) mL_law dL_law_33 (by decide) (by decide) rfl (by decide) ?_
      refine aw_aload_n (q := 440) mL_law dL_law_439 rfl rfl ?_
      refine aw_aload_s (q := 441) mL_law dL_law_440 rfl rfl ?_
      refine aw_iload_n (q := 442) mL_law dL_law_441 rfl rfl ?_
      refine aw_iconst (q := 443) mL_law dL_law_442 rfl rfl ?_
      refine aw_iadd (q := 444) mL_law dL_law_443 rfl (by omega) (by omega) ?_
      refine aw_sld hsc (q := 445) mL_law dL_law_444 rfl (by omega) (by omega) ?_
      refine aw_aload_s (q := 446) mL_law dL_law_445 rfl rfl ?_
      refine aw_iload_n (q := 447) mL_law dL_law_446 rfl rfl ?_
      refine aw_iconst (q := 448) mL_law dL_law_447 rfl rfl ?_
      refine aw_iadd (q := 449) mL_law dL_law_448 rfl (by omega) (by omega) ?_
      refine aw_sld hsc (q := 450) mL_law dL_law_449 rfl (by omega) (by omega) ?_
      refine aw_v2 (ci := 6) (q := 453) mL_law dL_law_450 rfl l8_55 k140_59 rfl kd_0 rfl rfl rfl (pr_fix (xs (i + 1)) (xs (i + 2)) hJ) (fun r n1 μ1 hq => ?_)
      obtain ⟨x, hr, hq⟩ := hq
      rw [hr]
      refine aw_aload_n (q := 454) mL_law dL_law_453 rfl rfl ?_
      refine aw_aload_s (q := 455) mL_law dL_law_454 rfl rfl ?_
      refine aw_iload_n (q := 456) mL_law dL_law_455 rfl rfl ?_
      refine aw_iconst (q := 457) mL_law dL_law_456 rfl rfl ?_
      refine aw_iadd (q := 458) mL_law dL_law_457 rfl (by omega) (by omega) ?_
      refine aw_sld hsc (q := 459) mL_law dL_law_458 rfl (by omega) (by omega) ?_
      refine aw_aload_s (q := 460) mL_law dL_law_459 rfl rfl ?_
      refine aw_iload_n (q := 461) mL_law dL_law_460 rfl rfl ?_
      refine aw_iconst (q := 462) mL_law dL_law_461 rfl rfl ?_
      refine aw_iadd (q := 463) mL_law dL_law_462 rfl (by omega) (by omega) ?_
      refine aw_sld hsc (q := 464) mL_law dL_law_463 rfl (by omega) (by omega) ?_
      refine aw_v2 (ci := 7) (q := 467) mL_law dL_law_464 rfl l8_58 k140_102 rfl kd_32 rfl rfl rfl (hq) (fun r2 n2 μ2 hq2 => ?_)
      obtain ⟨hr2, hJ2⟩ := hq2
      rw [hr2]
      refine aw_icmp_eq (tgt := 922) (q := 470) mL_law dL_law_467 rfl (by decide) (fun c_467 => ?_) (fun c_467 => ?_)
      · exact NX n2 μ2 hJ2
      · exact absurd rfl c_467
    · rw [h]
      refine aw_tableIn (q := 472) mL_law dL_law_33 (by decide) (by decide) rfl (by decide) ?_
      refine aw_aload_n (q := 473) mL_law dL_law_472 rfl rfl ?_
      refine aw_aload_s (q := 474) mL_law dL_law_473 rfl rfl ?_
      refine aw_iload_n (q := 475) mL_law dL_law_474 rfl rfl ?_
      refine aw_iconst (q := 476) mL_law dL_law_475 rfl rfl ?_
      refine aw_iadd (q := 477) mL_law dL_law_476 rfl (by omega) (by omega) ?_
      refine aw_sld hsc (q := 478) mL_law dL_law_477 rfl (by omega) (by omega) ?_
      refine aw_v1 (ci := 6) (q := 481) mL_law dL_law_478 rfl l8_59 k140_60 rfl kd_0 rfl rfl rfl (pr_loose (xs (i + 1)) hJ) (fun r n1 μ1 hq => ?_)
      obtain ⟨x, hr, hq⟩ := hq
      rw [hr]
      refine aw_aload_n (q := 482) mL_law dL_law_481 rfl rfl ?_
      refine aw_aload_s (q := 483) mL_law dL_law_482 rfl rfl ?_
      refine aw_iload_n (q := 484) mL_law dL_law_483 rfl rfl ?_
      refine aw_iconst (q := 485) mL_law dL_law_484 rfl rfl ?_
      refine aw_iadd (q := 486) mL_law dL_law_485 rfl (by omega) (by omega) ?_
      refine aw_sld hsc (q := 487) mL_law dL_law_486 rfl (by omega) (by omega) ?_
      refine aw_v1 (ci := 7) (q := 490) mL_law dL_law_487 rfl l8_62 k140_103 rfl kd_32 rfl rfl rfl (hq) (fun r2 n2 μ2 hq2 => ?_)
      obtain ⟨hr2, hJ2⟩ := hq2
      rw [hr2]
      refine aw_icmp_eq (tgt := 922) (q := 493) mL_law dL_law_490 rfl (by decide) (fun c_490 => ?_) (fun c_490 => ?_)
      · exact NX n2 μ2 hJ2
      · exact absurd rfl c_490
    · rw [h]
      refine aw_tableIn (q := 495) mL_law dL_law_33 (by decide) (by decide) rfl (by decide) ?_
      refine aw_aload_n (q := 496) mL_law dL_law_495 rfl rfl ?_
      refine aw_aload_s (q := 497) mL_law dL_law_496 rfl rfl ?_
      refine aw_iload_n (q := 498) mL_law dL_law_497 rfl rfl ?_
      refine aw_iconst (q := 499) mL_law dL_law_498 rfl rfl ?_
      refine aw_iadd (q := 500) mL_law dL_law_499 rfl (by omega) (by omega) ?_
      refine aw_sld hsc (q := 501) mL_law dL_law_500 rfl (by omega) (by omega) ?_
      refine aw_aload_s (q := 502) mL_law dL_law_501 rfl rfl ?_
      refine aw_iload_n (q := 503) mL_law dL_law_502 rfl rfl ?_
      refine aw_iconst (q := 504) mL_law dL_law_503 rfl rfl ?_
      refine aw_iadd (q := 505) mL_law dL_law_504 rfl (by omega) (by omega) ?_
      refine aw_sld hsc (q := 506) mL_law dL_law_505 rfl (by omega) (by omega) ?_
      refine aw_v2 (ci := 6) (q := 509) mL_law dL_law_506 rfl l8_63 k140_61 rfl kd_0 rfl rfl rfl (pr_move (xs (i + 1)) (xs (i + 2)) hJ) (fun r n1 μ1 hq => ?_)
      obtain ⟨x, hr, hq⟩ := hq
      rw [hr]
      refine aw_aload_n (q := 510) mL_law dL_law_509 rfl rfl ?_
      refine aw_aload_s (q := 511) mL_law dL_law_510 rfl rfl ?_
      refine aw_iload_n (q := 512) mL_law dL_law_511 rfl rfl ?_
      refine aw_iconst (q := 513) mL_law dL_law_512 rfl rfl ?_
      refine aw_iadd (q := 514) mL_law dL_law_513 rfl (by omega) (by omega) ?_
      refine aw_sld hsc (q := 515) mL_law dL_law_514 rfl (by omega) (by omega) ?_
      refine aw_aload_s (q := 516) mL_law dL_law_515 rfl rfl ?_
      refine aw_iload_n (q := 517) mL_law dL_law_516 rfl rfl ?_
      refine aw_iconst (q := 518) mL_law dL_law_517 rfl rfl ?_
      refine aw_iadd (q := 519) mL_law dL_law_518 rfl (by omega) (by omega) ?_
      refine aw_sld hsc (q := 520) mL_law dL_law_519 rfl (by omega) (by omega) ?_
      refine aw_v2 (ci := 7) (q := 523) mL_law dL_law_520 rfl l8_66 k140_104 rfl kd_32 rfl rfl rfl (hq) (fun r2 n2 μ2 hq2 => ?_)
      obtain ⟨hr2, hJ2⟩ := hq2
      rw [hr2]
      refine aw_icmp_eq (tgt := 922) (q := 526) mL_law dL_law_523 rfl (by decide) (fun c_523 => ?_) (fun c_523 => ?_)
      · exact NX n2 μ2 hJ2
      · exact absurd rfl c_523
    · rw [h]
      refine aw_tableIn (q := 528) mL_law dL_law_33 (by decide) (by decide) rfl (by decide) ?_
      refine aw_aload_n (q := 529) mL_law dL_law_528 rfl rfl ?_
      refine aw_aload_s (q := 530) mL_law dL_law_529 rfl rfl ?_
      refine aw_iload_n (q := 531) mL_law dL_law_530 rfl rfl ?_
      refine aw_iconst (q := 532) mL_law dL_law_531 rfl rfl ?_
      refine aw_iadd (q := 533) mL_law dL_law_532 rfl (by omega) (by omega) ?_
      refine aw_sld hsc (q := 534) mL_law dL_law_533 rfl (by omega) (by omega) ?_
      refine aw_v1 (ci := 6) (q := 537) mL_law dL_law_534 rfl l8_67 k140_62 rfl kd_0 rfl rfl rfl (pr_show (xs (i + 1)) hJ) (fun r n1 μ1 hq => ?_)
      obtain ⟨x, hr, hq⟩ := hq
      rw [hr]
      refine aw_aload_n (q := 538) mL_law dL_law_537 rfl rfl ?_
      refine aw_aload_s (q := 539) mL_law dL_law_538 rfl rfl ?_
      refine aw_iload_n (q := 540) mL_law dL_law_539 rfl rfl ?_
      refine aw_iconst (q := 541) mL_law dL_law_540 rfl rfl ?_
      refine aw_iadd (q := 542) mL_law dL_law_541 rfl (by omega) (by omega) ?_
      refine aw_sld hsc (q := 543) mL_law dL_law_542 rfl (by omega) (by omega) ?_
      refine aw_v1 (ci := 7) (q := 546) mL_law dL_law_543 rfl l8_70 k140_105 rfl kd_32 rfl rfl rfl (hq) (fun r2 n2 μ2 hq2 => ?_)
      obtain ⟨hr2, hJ2⟩ := hq2
      rw [hr2]
      refine aw_icmp_eq (tgt := 922) (q := 549) mL_law dL_law_546 rfl (by decide) (fun c_546 => ?_) (fun c_546 => ?_)
      · exact NX n2 μ2 hJ2
      · exact absurd rfl c_546
    · rw [h]
      refine aw_tableIn (q := 551) mL_law dL_law_33 (by decide) (by decide) rfl (by decide) ?_
      refine aw_aload_n (q := 552) mL_law dL_law_551 rfl rfl ?_
      refine aw_aload_s (q := 553) mL_law dL_law_552 rfl rfl ?_
      refine aw_iload_n (q := 554) mL_law dL_law_553 rfl rfl ?_
      refine aw_iconst (q := 555) mL_law dL_law_554 rfl rfl ?_
      refine aw_iadd (q := 556) mL_law dL_law_555 rfl (by omega) (by omega) ?_
      refine aw_sld hsc (q := 557) mL_law dL_law_556 rfl (by omega) (by omega) ?_
      refine aw_if_eq (tgt := 564) (q := 560) mL_law dL_law_557 rfl (by decide) (fun c_557 => ?_) (fun c_557 => ?_)
      · refine aw_iconst (q := 565) mL_law dL_law_564 rfl rfl ?_
        refine aw_v1 (ci := 6) (q := 568) mL_law dL_law_565 rfl l8_71 k140_63 rfl kd_0 rfl rfl rfl (pr_keep 0 (by omega) hJ) (fun r n1 μ1 hq => ?_)
        obtain ⟨x, hr, hq⟩ := hq
        rw [hr]
        refine aw_aload_n (q := 569) mL_law dL_law_568 rfl rfl ?_
        refine aw_aload_s (q := 570) mL_law dL_law_569 rfl rfl ?_
        refine aw_iload_n (q := 571) mL_law dL_law_570 rfl rfl ?_
        refine aw_iconst (q := 572) mL_law dL_law_571 rfl rfl ?_
        refine aw_iadd (q := 573) mL_law dL_law_572 rfl (by omega) (by omega) ?_
        refine aw_sld hsc (q := 574) mL_law dL_law_573 rfl (by omega) (by omega) ?_
        refine aw_if_eq (tgt := 581) (q := 577) mL_law dL_law_574 rfl (by decide) (fun c_574 => ?_) (fun c_574 => ?_)
        · refine aw_iconst (q := 582) mL_law dL_law_581 rfl rfl ?_
          refine aw_v1 (ci := 7) (q := 585) mL_law dL_law_582 rfl l8_75 k140_106 rfl kd_32 rfl rfl rfl (hq) (fun r2 n2 μ2 hq2 => ?_)
          obtain ⟨hr2, hJ2⟩ := hq2
          rw [hr2]
          refine aw_icmp_eq (tgt := 922) (q := 588) mL_law dL_law_585 rfl (by decide) (fun c_585 => ?_) (fun c_585 => ?_)
          · exact NX n2 μ2 hJ2
          · exact absurd rfl c_585
        · exact absurd c_557 c_574
      · refine aw_iconst (q := 561) mL_law dL_law_560 rfl rfl ?_
        refine aw_goto (q := 565) mL_law dL_law_561 (by decide) ?_
        refine aw_v1 (ci := 6) (q := 568) mL_law dL_law_565 rfl l8_71 k140_63 rfl kd_0 rfl rfl rfl (pr_keep 1 (by omega) hJ) (fun r n1 μ1 hq => ?_)
        obtain ⟨x, hr, hq⟩ := hq
        rw [hr]
        refine aw_aload_n (q := 569) mL_law dL_law_568 rfl rfl ?_
        refine aw_aload_s (q := 570) mL_law dL_law_569 rfl rfl ?_
        refine aw_iload_n (q := 571) mL_law dL_law_570 rfl rfl ?_
        refine aw_iconst (q := 572) mL_law dL_law_571 rfl rfl ?_
        refine aw_iadd (q := 573) mL_law dL_law_572 rfl (by omega) (by omega) ?_
        refine aw_sld hsc (q := 574) mL_law dL_law_573 rfl (by omega) (by omega) ?_
        refine aw_if_eq (tgt := 581) (q := 577) mL_law dL_law_574 rfl (by decide) (fun c_574 => ?_) (fun c_574 => ?_)
        · exact absurd c_574 c_557
        · refine aw_iconst (q := 578) mL_law dL_law_577 rfl rfl ?_
          refine aw_goto (q := 582) mL_law dL_law_578 (by decide) ?_
          refine aw_v1 (ci := 7) (q := 585) mL_law dL_law_582 rfl l8_75 k140_106 rfl kd_32 rfl rfl rfl (hq) (fun r2 n2 μ2 hq2 => ?_)
          obtain ⟨hr2, hJ2⟩ := hq2
          rw [hr2]
          refine aw_icmp_eq (tgt := 922) (q := 588) mL_law dL_law_585 rfl (by decide) (fun c_585 => ?_) (fun c_585 => ?_)
          · exact NX n2 μ2 hJ2
          · exact absurd rfl c_585
    · rw [h]
      refine aw_tableIn (q := 590) mL_law dL_law_33 (by decide) (by decide) rfl (by decide) ?_
      refine aw_aload_n (q := 591) mL_law dL_law_590 rfl rfl ?_
      refine aw_aload_s (q := 592) mL_law dL_law_591 rfl rfl ?_
      refine aw_iload_n (q := 593) mL_law dL_law_592 rfl rfl ?_
      refine aw_iconst (q := 594) mL_law dL_law_593 rfl rfl ?_
      refine aw_iadd (q := 595) mL_law dL_law_594 rfl (by omega) (by omega) ?_
      refine aw_sld hsc (q := 596) mL_law dL_law_595 rfl (by omega) (by omega) ?_
      refine aw_aload_s (q := 597) mL_law dL_law_596 rfl rfl ?_
      refine aw_iload_n (q := 598) mL_law dL_law_597 rfl rfl ?_
      refine aw_iconst (q := 599) mL_law dL_law_598 rfl rfl ?_
      refine aw_iadd (q := 600) mL_law dL_law_599 rfl (by omega) (by omega) ?_
      refine aw_sld hsc (q := 601) mL_law dL_law_600 rfl (by omega) (by omega) ?_
      refine aw_v2 (ci := 6) (q := 604) mL_law dL_law_601 rfl l8_76 k140_64 rfl kd_0 rfl rfl rfl (pr_told (xs (i + 1)) (xs (i + 2)) hJ) (fun r n1 μ1 hq => ?_)
      obtain ⟨x, hr, hq⟩ := hq
      rw [hr]
      refine aw_aload_n (q := 605) mL_law dL_law_604 rfl rfl ?_
      refine aw_aload_s (q := 606) mL_law dL_law_605 rfl rfl ?_
      refine aw_iload_n (q := 607) mL_law dL_law_606 rfl rfl ?_
      refine aw_iconst (q := 608) mL_law dL_law_607 rfl rfl ?_
      refine aw_iadd (q := 609) mL_law dL_law_608 rfl (by omega) (by omega) ?_
      refine aw_sld hsc (q := 610) mL_law dL_law_609 rfl (by omega) (by omega) ?_
      refine aw_aload_s (q := 611) mL_law dL_law_610 rfl rfl ?_
      refine aw_iload_n (q := 612) mL_law dL_law_611 rfl rfl ?_
      refine aw_iconst (q := 613) mL_law dL_law_612 rfl rfl ?_
      refine aw_iadd (q := 614) mL_law dL_law_613 rfl (by omega) (by omega) ?_
      refine aw_sld hsc (q := 615) mL_law dL_law_614 rfl (by omega) (by omega) ?_
      refine aw_v2 (ci := 7) (q := 618) mL_law dL_law_615 rfl l8_79 k140_109 rfl kd_32 rfl rfl rfl (hq) (fun r2 n2 μ2 hq2 => ?_)
      obtain ⟨hr2, hJ2⟩ := hq2
      rw [hr2]
      refine aw_icmp_eq (tgt := 922) (q := 621) mL_law dL_law_618 rfl (by decide) (fun c_618 => ?_) (fun c_618 => ?_)
      · exact NX n2 μ2 hJ2
      · exact absurd rfl c_618
    · rw [h]
      refine aw_tableIn (q := 623) mL_law dL_law_33 (by decide) (by decide) rfl (by decide) ?_
      refine aw_aload_n (q := 624) mL_law dL_law_623 rfl rfl ?_
      refine aw_v0 (ci := 6) (q := 627) mL_law dL_law_624 rfl l8_80 k140_65 rfl kd_0 rfl rfl rfl (pr_pages  hJ) (fun r n1 μ1 hq => ?_)
      obtain ⟨x, hr, hq⟩ := hq
      rw [hr]
      refine aw_aload_n (q := 628) mL_law dL_law_627 rfl rfl ?_
      refine aw_v0 (ci := 7) (q := 631) mL_law dL_law_628 rfl l8_83 k140_125 rfl kd_32 rfl rfl rfl (hq) (fun r2 n2 μ2 hq2 => ?_)
      obtain ⟨hr2, hJ2⟩ := hq2
      rw [hr2]
      refine aw_icmp_eq (tgt := 922) (q := 634) mL_law dL_law_631 rfl (by decide) (fun c_631 => ?_) (fun c_631 => ?_)
      · exact NX n2 μ2 hJ2
      · exact absurd rfl c_631
    · rw [h]
      refine aw_tableIn (q := 636) mL_law dL_law_33 (by decide) (by decide) rfl (by decide) ?_
      refine aw_aload_n (q := 637) mL_law dL_law_636 rfl rfl ?_
      refine aw_aload_s (q := 638) mL_law dL_law_637 rfl rfl ?_
      refine aw_iload_n (q := 639) mL_law dL_law_638 rfl rfl ?_
      refine aw_iconst (q := 640) mL_law dL_law_639 rfl rfl ?_
      refine aw_iadd (q := 641) mL_law dL_law_640 rfl (by omega) (by omega) ?_
      refine aw_sld hsc (q := 642) mL_law dL_law_641 rfl (by omega) (by omega) ?_
      refine aw_v1 (ci := 6) (q := 645) mL_law dL_law_642 rfl l8_84 k140_66 rfl kd_0 rfl rfl rfl (pr_pageOf (xs (i + 1)) hJ) (fun r n1 μ1 hq => ?_)
      obtain ⟨x, hr, hq⟩ := hq
      rw [hr]
      refine aw_aload_n (q := 646) mL_law dL_law_645 rfl rfl ?_
      refine aw_aload_s (q := 647) mL_law dL_law_646 rfl rfl ?_
      refine aw_iload_n (q := 648) mL_law dL_law_647 rfl rfl ?_
      refine aw_iconst (q := 649) mL_law dL_law_648 rfl rfl ?_
      refine aw_iadd (q := 650) mL_law dL_law_649 rfl (by omega) (by omega) ?_
      refine aw_sld hsc (q := 651) mL_law dL_law_650 rfl (by omega) (by omega) ?_
      refine aw_v1 (ci := 7) (q := 654) mL_law dL_law_651 rfl l8_87 k140_126 rfl kd_32 rfl rfl rfl (hq) (fun r2 n2 μ2 hq2 => ?_)
      obtain ⟨hr2, hJ2⟩ := hq2
      rw [hr2]
      refine aw_icmp_eq (tgt := 922) (q := 657) mL_law dL_law_654 rfl (by decide) (fun c_654 => ?_) (fun c_654 => ?_)
      · exact NX n2 μ2 hJ2
      · exact absurd rfl c_654
    · rw [h]
      refine aw_tableIn (q := 659) mL_law dL_law_33 (by decide) (by decide) rfl (by decide) ?_
      refine aw_aload_n (q := 660) mL_law dL_law_659 rfl rfl ?_
      refine aw_aload_s (q := 661) mL_law dL_law_660 rfl rfl ?_
      refine aw_iload_n (q := 662) mL_law dL_law_661 rfl rfl ?_
      refine aw_iconst (q := 663) mL_law dL_law_662 rfl rfl ?_
      refine aw_iadd (q := 664) mL_law dL_law_663 rfl (by omega) (by omega) ?_
      refine aw_sld hsc (q := 665) mL_law dL_law_664 rfl (by omega) (by omega) ?_
      refine aw_v1 (ci := 6) (q := 668) mL_law dL_law_665 rfl l8_88 k140_67 rfl kd_0 rfl rfl rfl (pr_top (xs (i + 1)) hJ) (fun r n1 μ1 hq => ?_)
      obtain ⟨x, hr, hq⟩ := hq
      rw [hr]
      refine aw_aload_n (q := 669) mL_law dL_law_668 rfl rfl ?_
      refine aw_aload_s (q := 670) mL_law dL_law_669 rfl rfl ?_
      refine aw_iload_n (q := 671) mL_law dL_law_670 rfl rfl ?_
      refine aw_iconst (q := 672) mL_law dL_law_671 rfl rfl ?_
      refine aw_iadd (q := 673) mL_law dL_law_672 rfl (by omega) (by omega) ?_
      refine aw_sld hsc (q := 674) mL_law dL_law_673 rfl (by omega) (by omega) ?_
      refine aw_v1 (ci := 7) (q := 677) mL_law dL_law_674 rfl l8_91 k140_127 rfl kd_32 rfl rfl rfl (hq) (fun r2 n2 μ2 hq2 => ?_)
      obtain ⟨hr2, hJ2⟩ := hq2
      rw [hr2]
      refine aw_icmp_eq (tgt := 922) (q := 680) mL_law dL_law_677 rfl (by decide) (fun c_677 => ?_) (fun c_677 => ?_)
      · exact NX n2 μ2 hJ2
      · exact absurd rfl c_677
    · rw [h]
      refine aw_tableIn (q := 682) mL_law dL_law_33 (by decide) (by decide) rfl (by decide) ?_
      refine aw_aload_n (q := 683) mL_law dL_law_682 rfl rfl ?_
      refine aw_aload_s (q := 684) mL_law dL_law_683 rfl rfl ?_
      refine aw_iload_n (q := 685) mL_law dL_law_684 rfl rfl ?_
      refine aw_iconst (q := 686) mL_law dL_law_685 rfl rfl ?_
      refine aw_iadd (q := 687) mL_law dL_law_686 rfl (by omega) (by omega) ?_
      refine aw_sld hsc (q := 688) mL_law dL_law_687 rfl (by omega) (by omega) ?_
      refine aw_v1 (ci := 6) (q := 691) mL_law dL_law_688 rfl l8_92 k140_68 rfl kd_0 rfl rfl rfl (pr_side (xs (i + 1)) hJ) (fun r n1 μ1 hq => ?_)
      obtain ⟨x, hr, hq⟩ := hq
      rw [hr]
      refine aw_aload_n (q := 692) mL_law dL_law_691 rfl rfl ?_
      refine aw_aload_s (q := 693) mL_law dL_law_692 rfl rfl ?_
      refine aw_iload_n (q := 694) mL_law dL_law_693 rfl rfl ?_
      refine aw_iconst (q := 695) mL_law dL_law_694 rfl rfl ?_
      refine aw_iadd (q := 696) mL_law dL_law_695 rfl (by omega) (by omega) ?_
      refine aw_sld hsc (q := 697) mL_law dL_law_696 rfl (by omega) (by omega) ?_
      refine aw_v1 (ci := 7) (q := 700) mL_law dL_law_697 rfl l8_95 k140_129 rfl kd_32 rfl rfl rfl (hq) (fun r2 n2 μ2 hq2 => ?_)
      obtain ⟨hr2, hJ2⟩ := hq2
      rw [hr2]
      refine aw_icmp_eq (tgt := 922) (q := 703) mL_law dL_law_700 rfl (by decide) (fun c_700 => ?_) (fun c_700 => ?_)
      · exact NX n2 μ2 hJ2
      · exact absurd rfl c_700
    · rw [h]
      refine aw_tableIn (q := 705) mL_law dL_law_33 (by decide) (by decide) rfl (by decide) ?_
      refine aw_aload_n (q := 706) mL_law dL_law_705 rfl rfl ?_
      refine aw_aload_s (q := 707) mL_law dL_law_706 rfl rfl ?_
      refine aw_iload_n (q := 708) mL_law dL_law_707 rfl rfl ?_
      refine aw_iconst (q := 709) mL_law dL_law_708 rfl rfl ?_
      refine aw_iadd (q := 710) mL_law dL_law_709 rfl (by omega) (by omega) ?_
      refine aw_sld hsc (q := 711) mL_law dL_law_710 rfl (by omega) (by omega) ?_
      refine aw_v1 (ci := 6) (q := 714) mL_law dL_law_711 rfl l8_96 k140_69 rfl kd_0 rfl rfl rfl (pr_place (xs (i + 1)) hJ) (fun r n1 μ1 hq => ?_)
      obtain ⟨x, hr, hq⟩ := hq
      rw [hr]
      refine aw_aload_n (q := 715) mL_law dL_law_714 rfl rfl ?_
      refine aw_aload_s (q := 716) mL_law dL_law_715 rfl rfl ?_
      refine aw_iload_n (q := 717) mL_law dL_law_716 rfl rfl ?_
      refine aw_iconst (q := 718) mL_law dL_law_717 rfl rfl ?_
      refine aw_iadd (q := 719) mL_law dL_law_718 rfl (by omega) (by omega) ?_
      refine aw_sld hsc (q := 720) mL_law dL_law_719 rfl (by omega) (by omega) ?_
      refine aw_v1 (ci := 7) (q := 723) mL_law dL_law_720 rfl l8_99 k140_130 rfl kd_32 rfl rfl rfl (hq) (fun r2 n2 μ2 hq2 => ?_)
      obtain ⟨hr2, hJ2⟩ := hq2
      rw [hr2]
      refine aw_icmp_eq (tgt := 922) (q := 726) mL_law dL_law_723 rfl (by decide) (fun c_723 => ?_) (fun c_723 => ?_)
      · exact NX n2 μ2 hJ2
      · exact absurd rfl c_723
    · rw [h]
      refine aw_tableIn (q := 728) mL_law dL_law_33 (by decide) (by decide) rfl (by decide) ?_
      refine aw_aload_n (q := 729) mL_law dL_law_728 rfl rfl ?_
      refine aw_aload_s (q := 730) mL_law dL_law_729 rfl rfl ?_
      refine aw_iload_n (q := 731) mL_law dL_law_730 rfl rfl ?_
      refine aw_iconst (q := 732) mL_law dL_law_731 rfl rfl ?_
      refine aw_iadd (q := 733) mL_law dL_law_732 rfl (by omega) (by omega) ?_
      refine aw_sld hsc (q := 734) mL_law dL_law_733 rfl (by omega) (by omega) ?_
      refine aw_v1 (ci := 6) (q := 737) mL_law dL_law_734 rfl l8_100 k140_70 rfl kd_0 rfl rfl rfl (pr_rest (xs (i + 1)) hJ) (fun r n1 μ1 hq => ?_)
      obtain ⟨x, hr, hq⟩ := hq
      rw [hr]
      refine aw_aload_n (q := 738) mL_law dL_law_737 rfl rfl ?_
      refine aw_aload_s (q := 739) mL_law dL_law_738 rfl rfl ?_
      refine aw_iload_n (q := 740) mL_law dL_law_739 rfl rfl ?_
      refine aw_iconst (q := 741) mL_law dL_law_740 rfl rfl ?_
      refine aw_iadd (q := 742) mL_law dL_law_741 rfl (by omega) (by omega) ?_
      refine aw_sld hsc (q := 743) mL_law dL_law_742 rfl (by omega) (by omega) ?_
      refine aw_v1 (ci := 7) (q := 746) mL_law dL_law_743 rfl l8_103 k140_131 rfl kd_32 rfl rfl rfl (hq) (fun r2 n2 μ2 hq2 => ?_)
      obtain ⟨hr2, hJ2⟩ := hq2
      rw [hr2]
      refine aw_icmp_eq (tgt := 922) (q := 749) mL_law dL_law_746 rfl (by decide) (fun c_746 => ?_) (fun c_746 => ?_)
      · exact NX n2 μ2 hJ2
      · exact absurd rfl c_746
    · rw [h]
      refine aw_tableIn (q := 751) mL_law dL_law_33 (by decide) (by decide) rfl (by decide) ?_
      refine aw_aload_n (q := 752) mL_law dL_law_751 rfl rfl ?_
      refine aw_aload_s (q := 753) mL_law dL_law_752 rfl rfl ?_
      refine aw_iload_n (q := 754) mL_law dL_law_753 rfl rfl ?_
      refine aw_iconst (q := 755) mL_law dL_law_754 rfl rfl ?_
      refine aw_iadd (q := 756) mL_law dL_law_755 rfl (by omega) (by omega) ?_
      refine aw_sld hsc (q := 757) mL_law dL_law_756 rfl (by omega) (by omega) ?_
      refine aw_aload_s (q := 758) mL_law dL_law_757 rfl rfl ?_
      refine aw_iload_n (q := 759) mL_law dL_law_758 rfl rfl ?_
      refine aw_iconst (q := 760) mL_law dL_law_759 rfl rfl ?_
      refine aw_iadd (q := 761) mL_law dL_law_760 rfl (by omega) (by omega) ?_
      refine aw_sld hsc (q := 762) mL_law dL_law_761 rfl (by omega) (by omega) ?_
      refine aw_v2 (ci := 6) (q := 765) mL_law dL_law_762 rfl l8_104 k140_71 rfl kd_0 rfl rfl rfl (pr_column (xs (i + 1)) (xs (i + 2)) hJ) (fun r n1 μ1 hq => ?_)
      obtain ⟨x, hr, hq⟩ := hq
      rw [hr]
      refine aw_aload_n (q := 766) mL_law dL_law_765 rfl rfl ?_
      refine aw_aload_s (q := 767) mL_law dL_law_766 rfl rfl ?_
      refine aw_iload_n (q := 768) mL_law dL_law_767 rfl rfl ?_
      refine aw_iconst (q := 769) mL_law dL_law_768 rfl rfl ?_
      refine aw_iadd (q := 770) mL_law dL_law_769 rfl (by omega) (by omega) ?_
      refine aw_sld hsc (q := 771) mL_law dL_law_770 rfl (by omega) (by omega) ?_
      refine aw_aload_s (q := 772) mL_law dL_law_771 rfl rfl ?_
      refine aw_iload_n (q := 773) mL_law dL_law_772 rfl rfl ?_
      refine aw_iconst (q := 774) mL_law dL_law_773 rfl rfl ?_
      refine aw_iadd (q := 775) mL_law dL_law_774 rfl (by omega) (by omega) ?_
      refine aw_sld hsc (q := 776) mL_law dL_law_775 rfl (by omega) (by omega) ?_
      refine aw_v2 (ci := 7) (q := 779) mL_law dL_law_776 rfl l8_107 k140_135 rfl kd_32 rfl rfl rfl (hq) (fun r2 n2 μ2 hq2 => ?_)
      obtain ⟨hr2, hJ2⟩ := hq2
      rw [hr2]
      refine aw_icmp_eq (tgt := 922) (q := 782) mL_law dL_law_779 rfl (by decide) (fun c_779 => ?_) (fun c_779 => ?_)
      · exact NX n2 μ2 hJ2
      · exact absurd rfl c_779
    · rw [h]
      refine aw_tableIn (q := 784) mL_law dL_law_33 (by decide) (by decide) rfl (by decide) ?_
      refine aw_aload_n (q := 785) mL_law dL_law_784 rfl rfl ?_
      refine aw_aload_s (q := 786) mL_law dL_law_785 rfl rfl ?_
      refine aw_iload_n (q := 787) mL_law dL_law_786 rfl rfl ?_
      refine aw_iconst (q := 788) mL_law dL_law_787 rfl rfl ?_
      refine aw_iadd (q := 789) mL_law dL_law_788 rfl (by omega) (by omega) ?_
      refine aw_sld hsc (q := 790) mL_law dL_law_789 rfl (by omega) (by omega) ?_
      refine aw_aload_s (q := 791) mL_law dL_law_790 rfl rfl ?_
      refine aw_iload_n (q := 792) mL_law dL_law_791 rfl rfl ?_
      refine aw_iconst (q := 793) mL_law dL_law_792 rfl rfl ?_
      refine aw_iadd (q := 794) mL_law dL_law_793 rfl (by omega) (by omega) ?_
      refine aw_sld hsc (q := 795) mL_law dL_law_794 rfl (by omega) (by omega) ?_
      refine aw_aload_s (q := 796) mL_law dL_law_795 rfl rfl ?_
      refine aw_iload_n (q := 797) mL_law dL_law_796 rfl rfl ?_
      refine aw_iconst (q := 798) mL_law dL_law_797 rfl rfl ?_
      refine aw_iadd (q := 799) mL_law dL_law_798 rfl (by omega) (by omega) ?_
      refine aw_sld hsc (q := 800) mL_law dL_law_799 rfl (by omega) (by omega) ?_
      refine aw_if_eq (tgt := 807) (q := 803) mL_law dL_law_800 rfl (by decide) (fun c_800 => ?_) (fun c_800 => ?_)
      · refine aw_iconst (q := 808) mL_law dL_law_807 rfl rfl ?_
        refine aw_v3 (ci := 6) (q := 811) mL_law dL_law_808 rfl l8_108 k140_72 rfl kd_0 rfl rfl rfl (pr_bracket (xs (i + 1)) (xs (i + 2)) 0 (by omega) hJ) (fun r n1 μ1 hq => ?_)
        obtain ⟨x, hr, hq⟩ := hq
        rw [hr]
        refine aw_aload_n (q := 812) mL_law dL_law_811 rfl rfl ?_
        refine aw_aload_s (q := 813) mL_law dL_law_812 rfl rfl ?_
        refine aw_iload_n (q := 814) mL_law dL_law_813 rfl rfl ?_
        refine aw_iconst (q := 815) mL_law dL_law_814 rfl rfl ?_
        refine aw_iadd (q := 816) mL_law dL_law_815 rfl (by omega) (by omega) ?_
        refine aw_sld hsc (q := 817) mL_law dL_law_816 rfl (by omega) (by omega) ?_
        refine aw_aload_s (q := 818) mL_law dL_law_817 rfl rfl ?_
        refine aw_iload_n (q := 819) mL_law dL_law_818 rfl rfl ?_
        refine aw_iconst (q := 820) mL_law dL_law_819 rfl rfl ?_
        refine aw_iadd (q := 821) mL_law dL_law_820 rfl (by omega) (by omega) ?_
        refine aw_sld hsc (q := 822) mL_law dL_law_821 rfl (by omega) (by omega) ?_
        refine aw_aload_s (q := 823) mL_law dL_law_822 rfl rfl ?_
        refine aw_iload_n (q := 824) mL_law dL_law_823 rfl rfl ?_
        refine aw_iconst (q := 825) mL_law dL_law_824 rfl rfl ?_
        refine aw_iadd (q := 826) mL_law dL_law_825 rfl (by omega) (by omega) ?_
        refine aw_sld hsc (q := 827) mL_law dL_law_826 rfl (by omega) (by omega) ?_
        refine aw_if_eq (tgt := 834) (q := 830) mL_law dL_law_827 rfl (by decide) (fun c_827 => ?_) (fun c_827 => ?_)
        · refine aw_iconst (q := 835) mL_law dL_law_834 rfl rfl ?_
          refine aw_v3 (ci := 7) (q := 838) mL_law dL_law_835 rfl l8_112 k140_136 rfl kd_32 rfl rfl rfl (hq) (fun r2 n2 μ2 hq2 => ?_)
          obtain ⟨hr2, hJ2⟩ := hq2
          rw [hr2]
          refine aw_icmp_eq (tgt := 922) (q := 841) mL_law dL_law_838 rfl (by decide) (fun c_838 => ?_) (fun c_838 => ?_)
          · exact NX n2 μ2 hJ2
          · exact absurd rfl c_838
        · exact absurd c_800 c_827
      · refine aw_iconst (q := 804) mL_law dL_law_803 rfl rfl ?_
        refine aw_goto (q := 808) mL_law dL_law_804 (by decide) ?_
        refine aw_v3 (ci := 6) (q := 811) mL_law dL_law_808 rfl l8_108 k140_72 rfl kd_0 rfl rfl rfl (pr_bracket (xs (i + 1)) (xs (i + 2)) 1 (by omega) hJ) (fun r n1 μ1 hq => ?_)
        obtain ⟨x, hr, hq⟩ := hq
        rw [hr]
        refine aw_aload_n (q := 812) mL_law dL_law_811 rfl rfl ?_
        refine aw_aload_s (q := 813) mL_law dL_law_812 rfl rfl ?_
        refine aw_iload_n (q := 814) mL_law dL_law_813 rfl rfl ?_
        refine aw_iconst (q := 815) mL_law dL_law_814 rfl rfl ?_
        refine aw_iadd (q := 816) mL_law dL_law_815 rfl (by omega) (by omega) ?_
        refine aw_sld hsc (q := 817) mL_law dL_law_816 rfl (by omega) (by omega) ?_
        refine aw_aload_s (q := 818) mL_law dL_law_817 rfl rfl ?_
        refine aw_iload_n (q := 819) mL_law dL_law_818 rfl rfl ?_
        refine aw_iconst (q := 820) mL_law dL_law_819 rfl rfl ?_
        refine aw_iadd (q := 821) mL_law dL_law_820 rfl (by omega) (by omega) ?_
        refine aw_sld hsc (q := 822) mL_law dL_law_821 rfl (by omega) (by omega) ?_
        refine aw_aload_s (q := 823) mL_law dL_law_822 rfl rfl ?_
        refine aw_iload_n (q := 824) mL_law dL_law_823 rfl rfl ?_
        refine aw_iconst (q := 825) mL_law dL_law_824 rfl rfl ?_
        refine aw_iadd (q := 826) mL_law dL_law_825 rfl (by omega) (by omega) ?_
        refine aw_sld hsc (q := 827) mL_law dL_law_826 rfl (by omega) (by omega) ?_
        refine aw_if_eq (tgt := 834) (q := 830) mL_law dL_law_827 rfl (by decide) (fun c_827 => ?_) (fun c_827 => ?_)
        · exact absurd c_827 c_800
        · refine aw_iconst (q := 831) mL_law dL_law_830 rfl rfl ?_
          refine aw_goto (q := 835) mL_law dL_law_831 (by decide) ?_
          refine aw_v3 (ci := 7) (q := 838) mL_law dL_law_835 rfl l8_112 k140_136 rfl kd_32 rfl rfl rfl (hq) (fun r2 n2 μ2 hq2 => ?_)
          obtain ⟨hr2, hJ2⟩ := hq2
          rw [hr2]
          refine aw_icmp_eq (tgt := 922) (q := 841) mL_law dL_law_838 rfl (by decide) (fun c_838 => ?_) (fun c_838 => ?_)
          · exact NX n2 μ2 hJ2
          · exact absurd rfl c_838
    · rw [h]
      refine aw_tableIn (q := 843) mL_law dL_law_33 (by decide) (by decide) rfl (by decide) ?_
      refine aw_aload_n (q := 844) mL_law dL_law_843 rfl rfl ?_
      refine aw_aload_s (q := 845) mL_law dL_law_844 rfl rfl ?_
      refine aw_iload_n (q := 846) mL_law dL_law_845 rfl rfl ?_
      refine aw_iconst (q := 847) mL_law dL_law_846 rfl rfl ?_
      refine aw_iadd (q := 848) mL_law dL_law_847 rfl (by omega) (by omega) ?_
      refine aw_sld hsc (q := 849) mL_law dL_law_848 rfl (by omega) (by omega) ?_
      refine aw_v1 (ci := 6) (q := 852) mL_law dL_law_849 rfl l8_113 k140_73 rfl kd_0 rfl rfl rfl (pr_cost (xs (i + 1)) hJ) (fun r n1 μ1 hq => ?_)
      obtain ⟨x, hr, hq⟩ := hq
      rw [hr]
      refine aw_aload_n (q := 853) mL_law dL_law_852 rfl rfl ?_
      refine aw_aload_s (q := 854) mL_law dL_law_853 rfl rfl ?_
      refine aw_iload_n (q := 855) mL_law dL_law_854 rfl rfl ?_
      refine aw_iconst (q := 856) mL_law dL_law_855 rfl rfl ?_
      refine aw_iadd (q := 857) mL_law dL_law_856 rfl (by omega) (by omega) ?_
      refine aw_sld hsc (q := 858) mL_law dL_law_857 rfl (by omega) (by omega) ?_
      refine aw_v1 (ci := 7) (q := 861) mL_law dL_law_858 rfl l8_116 k140_137 rfl kd_32 rfl rfl rfl (hq) (fun r2 n2 μ2 hq2 => ?_)
      obtain ⟨hr2, hJ2⟩ := hq2
      rw [hr2]
      refine aw_icmp_eq (tgt := 922) (q := 864) mL_law dL_law_861 rfl (by decide) (fun c_861 => ?_) (fun c_861 => ?_)
      · exact NX n2 μ2 hJ2
      · exact absurd rfl c_861
    · rw [h]
      refine aw_tableIn (q := 866) mL_law dL_law_33 (by decide) (by decide) rfl (by decide) ?_
      refine aw_aload_n (q := 867) mL_law dL_law_866 rfl rfl ?_
      refine aw_aload_s (q := 868) mL_law dL_law_867 rfl rfl ?_
      refine aw_iload_n (q := 869) mL_law dL_law_868 rfl rfl ?_
      refine aw_iconst (q := 870) mL_law dL_law_869 rfl rfl ?_
      refine aw_iadd (q := 871) mL_law dL_law_870 rfl (by omega) (by omega) ?_
      refine aw_sld hsc (q := 872) mL_law dL_law_871 rfl (by omega) (by omega) ?_
      refine aw_aload_s (q := 873) mL_law dL_law_872 rfl rfl ?_
      refine aw_iload_n (q := 874) mL_law dL_law_873 rfl rfl ?_
      refine aw_iconst (q := 875) mL_law dL_law_874 rfl rfl ?_
      refine aw_iadd (q := 876) mL_law dL_law_875 rfl (by omega) (by omega) ?_
      refine aw_sld hsc (q := 877) mL_law dL_law_876 rfl (by omega) (by omega) ?_
      refine aw_v2 (ci := 6) (q := 880) mL_law dL_law_877 rfl l8_117 k140_74 rfl kd_0 rfl rfl rfl (pr_runs (xs (i + 1)) (xs (i + 2)) hJ) (fun r n1 μ1 hq => ?_)
      obtain ⟨x, hr, hq⟩ := hq
      rw [hr]
      refine aw_aload_n (q := 881) mL_law dL_law_880 rfl rfl ?_
      refine aw_aload_s (q := 882) mL_law dL_law_881 rfl rfl ?_
      refine aw_iload_n (q := 883) mL_law dL_law_882 rfl rfl ?_
      refine aw_iconst (q := 884) mL_law dL_law_883 rfl rfl ?_
      refine aw_iadd (q := 885) mL_law dL_law_884 rfl (by omega) (by omega) ?_
      refine aw_sld hsc (q := 886) mL_law dL_law_885 rfl (by omega) (by omega) ?_
      refine aw_aload_s (q := 887) mL_law dL_law_886 rfl rfl ?_
      refine aw_iload_n (q := 888) mL_law dL_law_887 rfl rfl ?_
      refine aw_iconst (q := 889) mL_law dL_law_888 rfl rfl ?_
      refine aw_iadd (q := 890) mL_law dL_law_889 rfl (by omega) (by omega) ?_
      refine aw_sld hsc (q := 891) mL_law dL_law_890 rfl (by omega) (by omega) ?_
      refine aw_v2 (ci := 7) (q := 894) mL_law dL_law_891 rfl l8_120 k140_138 rfl kd_32 rfl rfl rfl (hq) (fun r2 n2 μ2 hq2 => ?_)
      obtain ⟨hr2, hJ2⟩ := hq2
      rw [hr2]
      refine aw_icmp_eq (tgt := 922) (q := 897) mL_law dL_law_894 rfl (by decide) (fun c_894 => ?_) (fun c_894 => ?_)
      · exact NX n2 μ2 hJ2
      · exact absurd rfl c_894
    · rw [h]
      refine aw_tableIn (q := 899) mL_law dL_law_33 (by decide) (by decide) rfl (by decide) ?_
      refine aw_aload_n (q := 900) mL_law dL_law_899 rfl rfl ?_
      refine aw_aload_s (q := 901) mL_law dL_law_900 rfl rfl ?_
      refine aw_iload_n (q := 902) mL_law dL_law_901 rfl rfl ?_
      refine aw_iconst (q := 903) mL_law dL_law_902 rfl rfl ?_
      refine aw_iadd (q := 904) mL_law dL_law_903 rfl (by omega) (by omega) ?_
      refine aw_sld hsc (q := 905) mL_law dL_law_904 rfl (by omega) (by omega) ?_
      refine aw_v1 (ci := 6) (q := 908) mL_law dL_law_905 rfl l8_121 k140_75 rfl kd_0 rfl rfl rfl (pr_moved (xs (i + 1)) hJ) (fun r n1 μ1 hq => ?_)
      obtain ⟨x, hr, hq⟩ := hq
      rw [hr]
      refine aw_aload_n (q := 909) mL_law dL_law_908 rfl rfl ?_
      refine aw_aload_s (q := 910) mL_law dL_law_909 rfl rfl ?_
      refine aw_iload_n (q := 911) mL_law dL_law_910 rfl rfl ?_
      refine aw_iconst (q := 912) mL_law dL_law_911 rfl rfl ?_
      refine aw_iadd (q := 913) mL_law dL_law_912 rfl (by omega) (by omega) ?_
      refine aw_sld hsc (q := 914) mL_law dL_law_913 rfl (by omega) (by omega) ?_
      refine aw_v1 (ci := 7) (q := 917) mL_law dL_law_914 rfl l8_124 k140_139 rfl kd_32 rfl rfl rfl (hq) (fun r2 n2 μ2 hq2 => ?_)
      obtain ⟨hr2, hJ2⟩ := hq2
      rw [hr2]
      refine aw_icmp_eq (tgt := 922) (q := 920) mL_law dL_law_917 rfl (by decide) (fun c_917 => ?_) (fun c_917 => ?_)
      · exact NX n2 μ2 hJ2
      · exact absurd rfl c_917
    · refine aw_tableOut (q := 922) mL_law dL_law_33 (Or.inr h) (by decide) ?_
      exact NX n μ hJ
