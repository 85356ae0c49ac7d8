/-! ===== the law's cases ===== -/
section Cases
variable {g : gp_T} {A A1 : List va_E} {G : Gr} {T : Tx} {th : Nat} {Y : Ya} {W : Wa} {R : Ra} {Z : Za} {U : Ua} {L : La} {h : Int64} {O O1 : Oa} {N : Gr → Tx → Ya → Wa → Prop} {j kc ns k : Nat}
theorem q_setNodes (hj : 3 * j + 2 < g.2.2.2.2.2.1) (hL : g.2.2.2.2.2.1 ≤ 1536) (hkc : kc + 1 ≤ 1098) (hns : ns + 6 ≤ 10013) (hk : k < 3) (h1 : Ct g mL_setNodes [.ref (g.1 + 0), .int (g.2.2.2.2.2.2 (3 * j + 1))] 0 A (BM g G T th Y W R Z U L h O) 1 6 (rP (some (.int (nI k))) A1 (BM g G T th Y W R Z U L h O1)) noX) (h2 : Ct g mX9_setNodes [.ref (g.2.1 + 0), .int (g.2.2.2.2.2.2 (3 * j + 1))] 0 A1 (BM g G T th Y W R Z U L h O1) 0 0 (rM g none A1 k O1 N) noX) (next : ∀ G T Y W R Z U L h, N G T Y W → lwK g j (kc + 1) (ns + 6) A1 (BM g G T k Y W R Z U L h O1)) (L6 L7 L8 : Option Value) : AW g mL_law 1098 10013 lwP noX kc ns 168 [some (.ref g.2.2.2.2.1), some (.ref (g.1 + 0)), some (.ref (g.2.1 + 0)), some (.ref (g.2.1 + 23)), some (.ref (g.2.1 + 24)), some (.int (nI (3 * j))), L6, L7, L8] [] 0 A (BM g G T th Y W R Z U L h O) := by
  refine a_aload_n (q := 169) dL_law_168 rfl rfl rfl ?_
  refine a_aload_n (q := 170) dL_law_169 rfl rfl rfl ?_
  refine a_iload (q := 172) dL_law_170 rfl rfl ?_
  refine a_iconst (q := 173) (nI 1) dL_law_172 (by decide) rfl ?_
  refine a_iaddN (q := 174) dL_law_173 rfl ?_
  refine a_sldN (q := 175) dL_law_174 (by omega) hL rfl ?_
  refine a_cHv (q := 178) _ dL_law_175 kL_84 (h1) rfl rfl (Nat.le_of_ble_eq_true rfl) ⟨(Nat.le_of_ble_eq_true rfl), (Nat.le_of_ble_eq_true rfl)⟩ ⟨by omega, by omega⟩ rfl ?_
  refine a_istore (q := 180) dL_law_178 (Nat.le_of_ble_eq_true rfl) rfl rfl ?_
  refine a_aload_n (q := 181) dL_law_180 rfl rfl rfl ?_
  refine a_aload_n (q := 182) dL_law_181 rfl rfl rfl ?_
  refine a_iload (q := 184) dL_law_182 rfl rfl ?_
  refine a_iconst (q := 185) (nI 1) dL_law_184 (by decide) rfl ?_
  refine a_iaddN (q := 186) dL_law_185 rfl ?_
  refine a_sldN (q := 187) dL_law_186 (by omega) hL rfl ?_
  refine a_callVB (q := 190) _ dL_law_187 kL_89 (h2) rfl rfl rfl (Nat.le_of_ble_eq_true rfl) ⟨(Nat.le_of_ble_eq_true rfl), (Nat.le_of_ble_eq_true rfl)⟩ ⟨by omega, by omega⟩ rfl (fun v9 z9 A9 B9 h9 => ?_) (fun E9 z9 A9 B9 h9 => h9.elim)
  obtain ⟨rfl, rfl, rfl, G9, T9, Y9, W9, R9, Z9, U9, L9, q9, rfl, n2⟩ := h9
  show AW _ _ _ _ _ _ _ _ _ _ [] _ _ _
  refine a_aload_n (q := 191) dL_law_190 rfl rfl rfl ?_
  refine a_cVBv (q := 194) _ dL_law_191 kL_90 (m_thrown) rfl rfl rfl (Nat.le_of_ble_eq_true rfl) ⟨(Nat.le_of_ble_eq_true rfl), (Nat.le_of_ble_eq_true rfl)⟩ ⟨by omega, by omega⟩ rfl ?_
  refine a_iload (q := 196) dL_law_194 rfl rfl ?_
  refine a_icmp_eq (q := 199) 201 dL_law_196 (by decide) rfl (fun c196 => ?_) (fun c196 => ?_)
  · skip
    refine a_goto 1425 dL_law_201 (by decide) ?_
    exact next _ _ _ _ _ _ _ _ _ n2 _ _ _
  · exact absurd rfl c196
theorem q_addEdge (r : Int32) (hj : 3 * j + 2 < g.2.2.2.2.2.1) (hL : g.2.2.2.2.2.1 ≤ 1536) (hkc : kc + 1 ≤ 1098) (hns : ns + 6 ≤ 10013) (hk : k < 3) (h1 : Ct g mL_addEdge [.ref (g.1 + 0), .int (g.2.2.2.2.2.2 (3 * j + 1)), .int (g.2.2.2.2.2.2 (3 * j + 2)), .ref (g.2.1 + 23)] 0 A (BM g G T th Y W R Z U L h O) 1 6 (rP (some (.int (nI k))) A1 (BM g G T th Y W R Z U L h O1)) noX) (h2 : Ct g mX9_addEdge [.ref (g.2.1 + 0), .int (g.2.2.2.2.2.2 (3 * j + 1)), .int (g.2.2.2.2.2.2 (3 * j + 2))] 0 A1 (BM g G T th Y W R Z U L h O1) 0 0 (rM g (some (.int r)) A1 k O1 N) noX) (h3 : k = 0 → O1.1 (nI 0).toNatClampNeg = r.toInt64) (next : ∀ G T Y W R Z U L h, N G T Y W → lwK g j (kc + 1) (ns + 6) A1 (BM g G T k Y W R Z U L h O1)) (L6 L7 L8 : Option Value) : AW g mL_law 1098 10013 lwP noX kc ns 204 [some (.ref g.2.2.2.2.1), some (.ref (g.1 + 0)), some (.ref (g.2.1 + 0)), some (.ref (g.2.1 + 23)), some (.ref (g.2.1 + 24)), some (.int (nI (3 * j))), L6, L7, L8] [] 0 A (BM g G T th Y W R Z U L h O) := by
  refine a_aload_n (q := 205) dL_law_204 rfl rfl rfl ?_
  refine a_aload_n (q := 206) dL_law_205 rfl rfl rfl ?_
  refine a_iload (q := 208) dL_law_206 rfl rfl ?_
  refine a_iconst (q := 209) (nI 1) dL_law_208 (by decide) rfl ?_
  refine a_iaddN (q := 210) dL_law_209 rfl ?_
  refine a_sldN (q := 211) dL_law_210 (by omega) hL rfl ?_
  refine a_aload_n (q := 212) dL_law_211 rfl rfl rfl ?_
  refine a_iload (q := 214) dL_law_212 rfl rfl ?_
  refine a_iconst (q := 215) (nI 2) dL_law_214 (by decide) rfl ?_
  refine a_iaddN (q := 216) dL_law_215 rfl ?_
  refine a_sldN (q := 217) dL_law_216 (by omega) hL rfl ?_
  refine a_aload_n (q := 218) dL_law_217 rfl rfl rfl ?_
  refine a_cHv (q := 221) _ dL_law_218 kL_93 (h1) rfl rfl (Nat.le_of_ble_eq_true rfl) ⟨(Nat.le_of_ble_eq_true rfl), (Nat.le_of_ble_eq_true rfl)⟩ ⟨by omega, by omega⟩ rfl ?_
  refine a_istore (q := 223) dL_law_221 (Nat.le_of_ble_eq_true rfl) rfl rfl ?_
  refine a_aload_n (q := 224) dL_law_223 rfl rfl rfl ?_
  refine a_aload_n (q := 225) dL_law_224 rfl rfl rfl ?_
  refine a_iload (q := 227) dL_law_225 rfl rfl ?_
  refine a_iconst (q := 228) (nI 1) dL_law_227 (by decide) rfl ?_
  refine a_iaddN (q := 229) dL_law_228 rfl ?_
  refine a_sldN (q := 230) dL_law_229 (by omega) hL rfl ?_
  refine a_aload_n (q := 231) dL_law_230 rfl rfl rfl ?_
  refine a_iload (q := 233) dL_law_231 rfl rfl ?_
  refine a_iconst (q := 234) (nI 2) dL_law_233 (by decide) rfl ?_
  refine a_iaddN (q := 235) dL_law_234 rfl ?_
  refine a_sldN (q := 236) dL_law_235 (by omega) hL rfl ?_
  refine a_callVB (q := 239) _ dL_law_236 kL_96 (h2) rfl rfl rfl (Nat.le_of_ble_eq_true rfl) ⟨(Nat.le_of_ble_eq_true rfl), (Nat.le_of_ble_eq_true rfl)⟩ ⟨by omega, by omega⟩ rfl (fun v9 z9 A9 B9 h9 => ?_) (fun E9 z9 A9 B9 h9 => h9.elim)
  obtain ⟨rfl, rfl, rfl, G9, T9, Y9, W9, R9, Z9, U9, L9, q9, rfl, n2⟩ := h9
  show AW _ _ _ _ _ _ _ _ _ _ (_ :: _) _ _ _
  refine a_istore (q := 241) dL_law_239 (Nat.le_of_ble_eq_true rfl) rfl rfl ?_
  refine a_aload_n (q := 242) dL_law_241 rfl rfl rfl ?_
  refine a_cVBv (q := 245) _ dL_law_242 kL_90 (m_thrown) rfl rfl rfl (Nat.le_of_ble_eq_true rfl) ⟨(Nat.le_of_ble_eq_true rfl), (Nat.le_of_ble_eq_true rfl)⟩ ⟨by omega, by omega⟩ rfl ?_
  refine a_iload (q := 247) dL_law_245 rfl rfl ?_
  refine a_icmp_eq (q := 250) 252 dL_law_247 (by decide) rfl (fun c247 => ?_) (fun c247 => ?_)
  · skip
    refine a_iload (q := 254) dL_law_252 rfl rfl ?_
    refine a_if_ne (q := 257) 269 dL_law_254 (by decide) rfl (fun c254 => ?_) (fun c254 => ?_)
    · skip
      refine a_goto 1425 dL_law_269 (by decide) ?_
      exact next _ _ _ _ _ _ _ _ _ n2 _ _ _
    · skip
      refine a_aload_n (q := 258) dL_law_257 rfl rfl rfl ?_
      refine a_iconst (q := 259) (nI 0) dL_law_258 (by decide) rfl ?_
      refine a_laldB (q := 260) dL_law_259 rfl vp_in01 rfl ?_
      refine a_iload (q := 262) dL_law_260 rfl rfl ?_
      refine a_i2l (q := 263) dL_law_262 rfl ?_
      refine a_lcmp (q := 264) dL_law_263 rfl ?_
      refine a_if_eq (q := 267) 269 dL_law_264 (by decide) rfl (fun c264 => ?_) (fun c264 => ?_)
      · skip
        refine a_goto 1425 dL_law_269 (by decide) ?_
        exact next _ _ _ _ _ _ _ _ _ n2 _ _ _
      · exact absurd ((lg_cmp_eq _ _).mpr (h3 (nI_z c254 hk))) c264
  · exact absurd rfl c247
theorem q_setWeight (r : Int32) (hj : 3 * j + 2 < g.2.2.2.2.2.1) (hL : g.2.2.2.2.2.1 ≤ 1536) (hkc : kc + 1 ≤ 1098) (hns : ns + 6 ≤ 10013) (hk : k < 3) (h1 : Ct g mL_setWeight [.ref (g.1 + 0), .int (g.2.2.2.2.2.2 (3 * j + 1)), .int (g.2.2.2.2.2.2 (3 * j + 2)), .ref (g.2.1 + 23)] 0 A (BM g G T th Y W R Z U L h O) 1 6 (rP (some (.int (nI k))) A1 (BM g G T th Y W R Z U L h O1)) noX) (h2 : Ct g mX9_setWeight [.ref (g.2.1 + 0), .int (g.2.2.2.2.2.2 (3 * j + 1)), .int (g.2.2.2.2.2.2 (3 * j + 2))] 0 A1 (BM g G T th Y W R Z U L h O1) 0 0 (rM g (some (.int r)) A1 k O1 N) noX) (h3 : k = 0 → O1.1 (nI 0).toNatClampNeg = r.toInt64) (next : ∀ G T Y W R Z U L h, N G T Y W → lwK g j (kc + 1) (ns + 6) A1 (BM g G T k Y W R Z U L h O1)) (L6 L7 L8 : Option Value) : AW g mL_law 1098 10013 lwP noX kc ns 272 [some (.ref g.2.2.2.2.1), some (.ref (g.1 + 0)), some (.ref (g.2.1 + 0)), some (.ref (g.2.1 + 23)), some (.ref (g.2.1 + 24)), some (.int (nI (3 * j))), L6, L7, L8] [] 0 A (BM g G T th Y W R Z U L h O) := by
  refine a_aload_n (q := 273) dL_law_272 rfl rfl rfl ?_
  refine a_aload_n (q := 274) dL_law_273 rfl rfl rfl ?_
  refine a_iload (q := 276) dL_law_274 rfl rfl ?_
  refine a_iconst (q := 277) (nI 1) dL_law_276 (by decide) rfl ?_
  refine a_iaddN (q := 278) dL_law_277 rfl ?_
  refine a_sldN (q := 279) dL_law_278 (by omega) hL rfl ?_
  refine a_aload_n (q := 280) dL_law_279 rfl rfl rfl ?_
  refine a_iload (q := 282) dL_law_280 rfl rfl ?_
  refine a_iconst (q := 283) (nI 2) dL_law_282 (by decide) rfl ?_
  refine a_iaddN (q := 284) dL_law_283 rfl ?_
  refine a_sldN (q := 285) dL_law_284 (by omega) hL rfl ?_
  refine a_aload_n (q := 286) dL_law_285 rfl rfl rfl ?_
  refine a_cHv (q := 289) _ dL_law_286 kL_97 (h1) rfl rfl (Nat.le_of_ble_eq_true rfl) ⟨(Nat.le_of_ble_eq_true rfl), (Nat.le_of_ble_eq_true rfl)⟩ ⟨by omega, by omega⟩ rfl ?_
  refine a_istore (q := 291) dL_law_289 (Nat.le_of_ble_eq_true rfl) rfl rfl ?_
  refine a_aload_n (q := 292) dL_law_291 rfl rfl rfl ?_
  refine a_aload_n (q := 293) dL_law_292 rfl rfl rfl ?_
  refine a_iload (q := 295) dL_law_293 rfl rfl ?_
  refine a_iconst (q := 296) (nI 1) dL_law_295 (by decide) rfl ?_
  refine a_iaddN (q := 297) dL_law_296 rfl ?_
  refine a_sldN (q := 298) dL_law_297 (by omega) hL rfl ?_
  refine a_aload_n (q := 299) dL_law_298 rfl rfl rfl ?_
  refine a_iload (q := 301) dL_law_299 rfl rfl ?_
  refine a_iconst (q := 302) (nI 2) dL_law_301 (by decide) rfl ?_
  refine a_iaddN (q := 303) dL_law_302 rfl ?_
  refine a_sldN (q := 304) dL_law_303 (by omega) hL rfl ?_
  refine a_callVB (q := 307) _ dL_law_304 kL_99 (h2) rfl rfl rfl (Nat.le_of_ble_eq_true rfl) ⟨(Nat.le_of_ble_eq_true rfl), (Nat.le_of_ble_eq_true rfl)⟩ ⟨by omega, by omega⟩ rfl (fun v9 z9 A9 B9 h9 => ?_) (fun E9 z9 A9 B9 h9 => h9.elim)
  obtain ⟨rfl, rfl, rfl, G9, T9, Y9, W9, R9, Z9, U9, L9, q9, rfl, n2⟩ := h9
  show AW _ _ _ _ _ _ _ _ _ _ (_ :: _) _ _ _
  refine a_istore (q := 309) dL_law_307 (Nat.le_of_ble_eq_true rfl) rfl rfl ?_
  refine a_aload_n (q := 310) dL_law_309 rfl rfl rfl ?_
  refine a_cVBv (q := 313) _ dL_law_310 kL_90 (m_thrown) rfl rfl rfl (Nat.le_of_ble_eq_true rfl) ⟨(Nat.le_of_ble_eq_true rfl), (Nat.le_of_ble_eq_true rfl)⟩ ⟨by omega, by omega⟩ rfl ?_
  refine a_iload (q := 315) dL_law_313 rfl rfl ?_
  refine a_icmp_eq (q := 318) 320 dL_law_315 (by decide) rfl (fun c315 => ?_) (fun c315 => ?_)
  · skip
    refine a_iload (q := 322) dL_law_320 rfl rfl ?_
    refine a_if_ne (q := 325) 337 dL_law_322 (by decide) rfl (fun c322 => ?_) (fun c322 => ?_)
    · skip
      refine a_goto 1425 dL_law_337 (by decide) ?_
      exact next _ _ _ _ _ _ _ _ _ n2 _ _ _
    · skip
      refine a_aload_n (q := 326) dL_law_325 rfl rfl rfl ?_
      refine a_iconst (q := 327) (nI 0) dL_law_326 (by decide) rfl ?_
      refine a_laldB (q := 328) dL_law_327 rfl vp_in01 rfl ?_
      refine a_iload (q := 330) dL_law_328 rfl rfl ?_
      refine a_i2l (q := 331) dL_law_330 rfl ?_
      refine a_lcmp (q := 332) dL_law_331 rfl ?_
      refine a_if_eq (q := 335) 337 dL_law_332 (by decide) rfl (fun c332 => ?_) (fun c332 => ?_)
      · skip
        refine a_goto 1425 dL_law_337 (by decide) ?_
        exact next _ _ _ _ _ _ _ _ _ n2 _ _ _
      · exact absurd ((lg_cmp_eq _ _).mpr (h3 (nI_z c322 hk))) c332
  · exact absurd rfl c315
theorem q_edgeCount {Nc : List va_E → Prop} {fs : List Value} (r : Int32) (hA : A[0]? = some (.inr (8, fs))) (hkc : kc ≤ 1098) (hns : ns ≤ 10013) (h1 : Ct g mX8_edgeCount [.ref (g.1 + 0)] 0 A (BM g G T th Y W R Z U L h O) 0 0 (rC (some (.int r)) (BM g G T th Y W R Z U L h O) Nc) noX) (h2 : ∀ A1, Nc A1 → Ct g mX9_edgeCount [.ref (g.2.1 + 0)] 0 A1 (BM g G T th Y W R Z U L h O) 0 0 (rM g (some (.int r)) A1 0 O N) noX) (next : ∀ A1 G T Y W R Z U L h, Nc A1 → N G T Y W → lwK g j kc ns A1 (BM g G T 0 Y W R Z U L h O)) (L6 L7 L8 : Option Value) : AW g mL_law 1098 10013 lwP noX kc ns 340 [some (.ref g.2.2.2.2.1), some (.ref (g.1 + 0)), some (.ref (g.2.1 + 0)), some (.ref (g.2.1 + 23)), some (.ref (g.2.1 + 24)), some (.int (nI (3 * j))), L6, L7, L8] [] 0 A (BM g G T th Y W R Z U L h O) := by
  refine a_aload_n (q := 341) dL_law_340 rfl rfl rfl ?_
  refine a_callVA (q := 344) _ dL_law_341 kL_100 (h1) hA rfl rfl (Nat.le_of_ble_eq_true rfl) ⟨(Nat.le_of_ble_eq_true rfl), (Nat.le_of_ble_eq_true rfl)⟩ ⟨by omega, by omega⟩ rfl (fun v9 z9 A9 B9 h9 => ?_) (fun E9 z9 A9 B9 h9 => h9.elim)
  obtain ⟨rfl, rfl, rfl, n1⟩ := h9
  show AW _ _ _ _ _ _ _ _ _ _ (_ :: _) _ _ _
  refine a_aload_n (q := 345) dL_law_344 rfl rfl rfl ?_
  refine a_callVB (q := 348) _ dL_law_345 kL_103 (h2 _ n1) rfl rfl rfl (Nat.le_of_ble_eq_true rfl) ⟨(Nat.le_of_ble_eq_true rfl), (Nat.le_of_ble_eq_true rfl)⟩ ⟨by omega, by omega⟩ rfl (fun v9 z9 A9 B9 h9 => ?_) (fun E9 z9 A9 B9 h9 => h9.elim)
  obtain ⟨rfl, rfl, rfl, G9, T9, Y9, W9, R9, Z9, U9, L9, q9, rfl, n2⟩ := h9
  show AW _ _ _ _ _ _ _ _ _ _ (_ :: _) _ _ _
  refine a_icmp_eq (q := 351) 1425 dL_law_348 (by decide) rfl (fun c348 => ?_) (fun c348 => ?_)
  · skip
    exact next _ _ _ _ _ _ _ _ _ _ n1 n2 _ _ _
  · exact absurd rfl c348
theorem q_append (r : Int32) (hj : 3 * j + 2 < g.2.2.2.2.2.1) (hL : g.2.2.2.2.2.1 ≤ 1536) (hkc : kc + 1 ≤ 1098) (hns : ns + 6 ≤ 10013) (hk : k < 3) (h1 : Ct g mL_append [.ref (g.1 + 0), .int (g.2.2.2.2.2.2 (3 * j + 1)), .ref (g.2.1 + 23)] 0 A (BM g G T th Y W R Z U L h O) 1 6 (rP (some (.int (nI k))) A1 (BM g G T th Y W R Z U L h O1)) noX) (h2 : Ct g mX9_append [.ref (g.2.1 + 0), .int (g.2.2.2.2.2.2 (3 * j + 1))] 0 A1 (BM g G T th Y W R Z U L h O1) 0 0 (rM g (some (.int r)) A1 k O1 N) noX) (h3 : k = 0 → O1.1 (nI 0).toNatClampNeg = r.toInt64) (next : ∀ G T Y W R Z U L h, N G T Y W → lwK g j (kc + 1) (ns + 6) A1 (BM g G T k Y W R Z U L h O1)) (L6 L7 L8 : Option Value) : AW g mL_law 1098 10013 lwP noX kc ns 353 [some (.ref g.2.2.2.2.1), some (.ref (g.1 + 0)), some (.ref (g.2.1 + 0)), some (.ref (g.2.1 + 23)), some (.ref (g.2.1 + 24)), some (.int (nI (3 * j))), L6, L7, L8] [] 0 A (BM g G T th Y W R Z U L h O) := by
  refine a_aload_n (q := 354) dL_law_353 rfl rfl rfl ?_
  refine a_aload_n (q := 355) dL_law_354 rfl rfl rfl ?_
  refine a_iload (q := 357) dL_law_355 rfl rfl ?_
  refine a_iconst (q := 358) (nI 1) dL_law_357 (by decide) rfl ?_
  refine a_iaddN (q := 359) dL_law_358 rfl ?_
  refine a_sldN (q := 360) dL_law_359 (by omega) hL rfl ?_
  refine a_aload_n (q := 361) dL_law_360 rfl rfl rfl ?_
  refine a_cHv (q := 364) _ dL_law_361 kL_104 (h1) rfl rfl (Nat.le_of_ble_eq_true rfl) ⟨(Nat.le_of_ble_eq_true rfl), (Nat.le_of_ble_eq_true rfl)⟩ ⟨by omega, by omega⟩ rfl ?_
  refine a_istore (q := 366) dL_law_364 (Nat.le_of_ble_eq_true rfl) rfl rfl ?_
  refine a_aload_n (q := 367) dL_law_366 rfl rfl rfl ?_
  refine a_aload_n (q := 368) dL_law_367 rfl rfl rfl ?_
  refine a_iload (q := 370) dL_law_368 rfl rfl ?_
  refine a_iconst (q := 371) (nI 1) dL_law_370 (by decide) rfl ?_
  refine a_iaddN (q := 372) dL_law_371 rfl ?_
  refine a_sldN (q := 373) dL_law_372 (by omega) hL rfl ?_
  refine a_callVB (q := 376) _ dL_law_373 kL_107 (h2) rfl rfl rfl (Nat.le_of_ble_eq_true rfl) ⟨(Nat.le_of_ble_eq_true rfl), (Nat.le_of_ble_eq_true rfl)⟩ ⟨by omega, by omega⟩ rfl (fun v9 z9 A9 B9 h9 => ?_) (fun E9 z9 A9 B9 h9 => h9.elim)
  obtain ⟨rfl, rfl, rfl, G9, T9, Y9, W9, R9, Z9, U9, L9, q9, rfl, n2⟩ := h9
  show AW _ _ _ _ _ _ _ _ _ _ (_ :: _) _ _ _
  refine a_istore (q := 378) dL_law_376 (Nat.le_of_ble_eq_true rfl) rfl rfl ?_
  refine a_aload_n (q := 379) dL_law_378 rfl rfl rfl ?_
  refine a_cVBv (q := 382) _ dL_law_379 kL_90 (m_thrown) rfl rfl rfl (Nat.le_of_ble_eq_true rfl) ⟨(Nat.le_of_ble_eq_true rfl), (Nat.le_of_ble_eq_true rfl)⟩ ⟨by omega, by omega⟩ rfl ?_
  refine a_iload (q := 384) dL_law_382 rfl rfl ?_
  refine a_icmp_eq (q := 387) 389 dL_law_384 (by decide) rfl (fun c384 => ?_) (fun c384 => ?_)
  · skip
    refine a_iload (q := 391) dL_law_389 rfl rfl ?_
    refine a_if_ne (q := 394) 406 dL_law_391 (by decide) rfl (fun c391 => ?_) (fun c391 => ?_)
    · skip
      refine a_goto 1425 dL_law_406 (by decide) ?_
      exact next _ _ _ _ _ _ _ _ _ n2 _ _ _
    · skip
      refine a_aload_n (q := 395) dL_law_394 rfl rfl rfl ?_
      refine a_iconst (q := 396) (nI 0) dL_law_395 (by decide) rfl ?_
      refine a_laldB (q := 397) dL_law_396 rfl vp_in01 rfl ?_
      refine a_iload (q := 399) dL_law_397 rfl rfl ?_
      refine a_i2l (q := 400) dL_law_399 rfl ?_
      refine a_lcmp (q := 401) dL_law_400 rfl ?_
      refine a_if_eq (q := 404) 406 dL_law_401 (by decide) rfl (fun c401 => ?_) (fun c401 => ?_)
      · skip
        refine a_goto 1425 dL_law_406 (by decide) ?_
        exact next _ _ _ _ _ _ _ _ _ n2 _ _ _
      · exact absurd ((lg_cmp_eq _ _).mpr (h3 (nI_z c391 hk))) c401
  · exact absurd rfl c384
theorem q_clearInput {Nc : List va_E → Prop} {fs : List Value} (r : Int32) (hA : A[0]? = some (.inr (8, fs))) (hkc : kc ≤ 1098) (hns : ns ≤ 10013) (h1 : Ct g mX8_clearInput [.ref (g.1 + 0)] 0 A (BM g G T th Y W R Z U L h O) 0 0 (rC (some (.int r)) (BM g G T th Y W R Z U L h O) Nc) noX) (h2 : ∀ A1, Nc A1 → Ct g mX9_clearInput [.ref (g.2.1 + 0)] 0 A1 (BM g G T th Y W R Z U L h O) 0 0 (rM g (some (.int r)) A1 0 O N) noX) (next : ∀ A1 G T Y W R Z U L h, Nc A1 → N G T Y W → lwK g j kc ns A1 (BM g G T 0 Y W R Z U L h O)) (L6 L7 L8 : Option Value) : AW g mL_law 1098 10013 lwP noX kc ns 409 [some (.ref g.2.2.2.2.1), some (.ref (g.1 + 0)), some (.ref (g.2.1 + 0)), some (.ref (g.2.1 + 23)), some (.ref (g.2.1 + 24)), some (.int (nI (3 * j))), L6, L7, L8] [] 0 A (BM g G T th Y W R Z U L h O) := by
  refine a_aload_n (q := 410) dL_law_409 rfl rfl rfl ?_
  refine a_callVA (q := 413) _ dL_law_410 kL_108 (h1) hA rfl rfl (Nat.le_of_ble_eq_true rfl) ⟨(Nat.le_of_ble_eq_true rfl), (Nat.le_of_ble_eq_true rfl)⟩ ⟨by omega, by omega⟩ rfl (fun v9 z9 A9 B9 h9 => ?_) (fun E9 z9 A9 B9 h9 => h9.elim)
  obtain ⟨rfl, rfl, rfl, n1⟩ := h9
  show AW _ _ _ _ _ _ _ _ _ _ (_ :: _) _ _ _
  refine a_aload_n (q := 414) dL_law_413 rfl rfl rfl ?_
  refine a_callVB (q := 417) _ dL_law_414 kL_111 (h2 _ n1) rfl rfl rfl (Nat.le_of_ble_eq_true rfl) ⟨(Nat.le_of_ble_eq_true rfl), (Nat.le_of_ble_eq_true rfl)⟩ ⟨by omega, by omega⟩ rfl (fun v9 z9 A9 B9 h9 => ?_) (fun E9 z9 A9 B9 h9 => h9.elim)
  obtain ⟨rfl, rfl, rfl, G9, T9, Y9, W9, R9, Z9, U9, L9, q9, rfl, n2⟩ := h9
  show AW _ _ _ _ _ _ _ _ _ _ (_ :: _) _ _ _
  refine a_icmp_eq (q := 420) 1425 dL_law_417 (by decide) rfl (fun c417 => ?_) (fun c417 => ?_)
  · skip
    exact next _ _ _ _ _ _ _ _ _ _ n1 n2 _ _ _
  · exact absurd rfl c417
theorem q_firstError {Nc : List va_E → Prop} {fs : List Value} (r : Int32) (hA : A[0]? = some (.inr (8, fs))) (hkc : kc ≤ 1098) (hns : ns ≤ 10013) (h1 : Ct g mX8_firstError [.ref (g.1 + 0)] 0 A (BM g G T th Y W R Z U L h O) 0 0 (rC (some (.int r)) (BM g G T th Y W R Z U L h O) Nc) noX) (h2 : ∀ A1, Nc A1 → Ct g mX9_firstError [.ref (g.2.1 + 0)] 0 A1 (BM g G T th Y W R Z U L h O) 0 0 (rM g (some (.int r)) A1 0 O N) noX) (next : ∀ A1 G T Y W R Z U L h, Nc A1 → N G T Y W → lwK g j kc ns A1 (BM g G T 0 Y W R Z U L h O)) (L6 L7 L8 : Option Value) : AW g mL_law 1098 10013 lwP noX kc ns 422 [some (.ref g.2.2.2.2.1), some (.ref (g.1 + 0)), some (.ref (g.2.1 + 0)), some (.ref (g.2.1 + 23)), some (.ref (g.2.1 + 24)), some (.int (nI (3 * j))), L6, L7, L8] [] 0 A (BM g G T th Y W R Z U L h O) := by
  refine a_aload_n (q := 423) dL_law_422 rfl rfl rfl ?_
  refine a_callVA (q := 426) _ dL_law_423 kL_112 (h1) hA rfl rfl (Nat.le_of_ble_eq_true rfl) ⟨(Nat.le_of_ble_eq_true rfl), (Nat.le_of_ble_eq_true rfl)⟩ ⟨by omega, by omega⟩ rfl (fun v9 z9 A9 B9 h9 => ?_) (fun E9 z9 A9 B9 h9 => h9.elim)
  obtain ⟨rfl, rfl, rfl, n1⟩ := h9
  show AW _ _ _ _ _ _ _ _ _ _ (_ :: _) _ _ _
  refine a_aload_n (q := 427) dL_law_426 rfl rfl rfl ?_
  refine a_callVB (q := 430) _ dL_law_427 kL_115 (h2 _ n1) rfl rfl rfl (Nat.le_of_ble_eq_true rfl) ⟨(Nat.le_of_ble_eq_true rfl), (Nat.le_of_ble_eq_true rfl)⟩ ⟨by omega, by omega⟩ rfl (fun v9 z9 A9 B9 h9 => ?_) (fun E9 z9 A9 B9 h9 => h9.elim)
  obtain ⟨rfl, rfl, rfl, G9, T9, Y9, W9, R9, Z9, U9, L9, q9, rfl, n2⟩ := h9
  show AW _ _ _ _ _ _ _ _ _ _ (_ :: _) _ _ _
  refine a_icmp_eq (q := 433) 1425 dL_law_430 (by decide) rfl (fun c430 => ?_) (fun c430 => ?_)
  · skip
    exact next _ _ _ _ _ _ _ _ _ _ n1 n2 _ _ _
  · exact absurd rfl c430
theorem q_load (r : Int32) (hj : 3 * j + 2 < g.2.2.2.2.2.1) (hL : g.2.2.2.2.2.1 ≤ 1536) (hkc : kc + 1 ≤ 1098) (hns : ns + 6 ≤ 10013) (hk : k < 3) (h1 : Ct g mL_load [.ref (g.1 + 0), .ref (g.2.1 + 23)] 0 A (BM g G T th Y W R Z U L h O) 1 6 (rP (some (.int (nI k))) A1 (BM g G T th Y W R Z U L h O1)) noX) (h2 : Ct g mX9_load [.ref (g.2.1 + 0)] 0 A1 (BM g G T th Y W R Z U L h O1) 0 0 (rM g (some (.int r)) A1 k O1 N) noX) (h3 : k = 0 → O1.1 (nI 0).toNatClampNeg = r.toInt64) (next : ∀ G T Y W R Z U L h, N G T Y W → lwK g j (kc + 1) (ns + 6) A1 (BM g G T k Y W R Z U L h O1)) (L6 L7 L8 : Option Value) : AW g mL_law 1098 10013 lwP noX kc ns 435 [some (.ref g.2.2.2.2.1), some (.ref (g.1 + 0)), some (.ref (g.2.1 + 0)), some (.ref (g.2.1 + 23)), some (.ref (g.2.1 + 24)), some (.int (nI (3 * j))), L6, L7, L8] [] 0 A (BM g G T th Y W R Z U L h O) := by
  refine a_aload_n (q := 436) dL_law_435 rfl rfl rfl ?_
  refine a_aload_n (q := 437) dL_law_436 rfl rfl rfl ?_
  refine a_cHv (q := 440) _ dL_law_437 kL_116 (h1) rfl rfl (Nat.le_of_ble_eq_true rfl) ⟨(Nat.le_of_ble_eq_true rfl), (Nat.le_of_ble_eq_true rfl)⟩ ⟨by omega, by omega⟩ rfl ?_
  refine a_istore (q := 442) dL_law_440 (Nat.le_of_ble_eq_true rfl) rfl rfl ?_
  refine a_aload_n (q := 443) dL_law_442 rfl rfl rfl ?_
  refine a_callVB (q := 446) _ dL_law_443 kL_119 (h2) rfl rfl rfl (Nat.le_of_ble_eq_true rfl) ⟨(Nat.le_of_ble_eq_true rfl), (Nat.le_of_ble_eq_true rfl)⟩ ⟨by omega, by omega⟩ rfl (fun v9 z9 A9 B9 h9 => ?_) (fun E9 z9 A9 B9 h9 => h9.elim)
  obtain ⟨rfl, rfl, rfl, G9, T9, Y9, W9, R9, Z9, U9, L9, q9, rfl, n2⟩ := h9
  show AW _ _ _ _ _ _ _ _ _ _ (_ :: _) _ _ _
  refine a_istore (q := 448) dL_law_446 (Nat.le_of_ble_eq_true rfl) rfl rfl ?_
  refine a_aload_n (q := 449) dL_law_448 rfl rfl rfl ?_
  refine a_cVBv (q := 452) _ dL_law_449 kL_90 (m_thrown) rfl rfl rfl (Nat.le_of_ble_eq_true rfl) ⟨(Nat.le_of_ble_eq_true rfl), (Nat.le_of_ble_eq_true rfl)⟩ ⟨by omega, by omega⟩ rfl ?_
  refine a_iload (q := 454) dL_law_452 rfl rfl ?_
  refine a_icmp_eq (q := 457) 459 dL_law_454 (by decide) rfl (fun c454 => ?_) (fun c454 => ?_)
  · skip
    refine a_iload (q := 461) dL_law_459 rfl rfl ?_
    refine a_if_ne (q := 464) 476 dL_law_461 (by decide) rfl (fun c461 => ?_) (fun c461 => ?_)
    · skip
      refine a_goto 1425 dL_law_476 (by decide) ?_
      exact next _ _ _ _ _ _ _ _ _ n2 _ _ _
    · skip
      refine a_aload_n (q := 465) dL_law_464 rfl rfl rfl ?_
      refine a_iconst (q := 466) (nI 0) dL_law_465 (by decide) rfl ?_
      refine a_laldB (q := 467) dL_law_466 rfl vp_in01 rfl ?_
      refine a_iload (q := 469) dL_law_467 rfl rfl ?_
      refine a_i2l (q := 470) dL_law_469 rfl ?_
      refine a_lcmp (q := 471) dL_law_470 rfl ?_
      refine a_if_eq (q := 474) 476 dL_law_471 (by decide) rfl (fun c471 => ?_) (fun c471 => ?_)
      · skip
        refine a_goto 1425 dL_law_476 (by decide) ?_
        exact next _ _ _ _ _ _ _ _ _ n2 _ _ _
      · exact absurd ((lg_cmp_eq _ _).mpr (h3 (nI_z c461 hk))) c471
  · exact absurd rfl c454
theorem q_analyse {Nc : List va_E → Prop} {fs : List Value} (r : Int32) (hA : A[0]? = some (.inr (8, fs))) (hkc : kc ≤ 1098) (hns : ns ≤ 10013) (h1 : Ct g mX8_analyse [.ref (g.1 + 0)] 0 A (BM g G T th Y W R Z U L h O) 0 0 (rC (some (.int r)) (BM g G T th Y W R Z U L h O) Nc) noX) (h2 : ∀ A1, Nc A1 → Ct g mX9_analyse [.ref (g.2.1 + 0)] 0 A1 (BM g G T th Y W R Z U L h O) 0 0 (rM g (some (.int r)) A1 0 O N) noX) (next : ∀ A1 G T Y W R Z U L h, Nc A1 → N G T Y W → lwK g j kc ns A1 (BM g G T 0 Y W R Z U L h O)) (L6 L7 L8 : Option Value) : AW g mL_law 1098 10013 lwP noX kc ns 479 [some (.ref g.2.2.2.2.1), some (.ref (g.1 + 0)), some (.ref (g.2.1 + 0)), some (.ref (g.2.1 + 23)), some (.ref (g.2.1 + 24)), some (.int (nI (3 * j))), L6, L7, L8] [] 0 A (BM g G T th Y W R Z U L h O) := by
  refine a_aload_n (q := 480) dL_law_479 rfl rfl rfl ?_
  refine a_callVA (q := 483) _ dL_law_480 kL_120 (h1) hA rfl rfl (Nat.le_of_ble_eq_true rfl) ⟨(Nat.le_of_ble_eq_true rfl), (Nat.le_of_ble_eq_true rfl)⟩ ⟨by omega, by omega⟩ rfl (fun v9 z9 A9 B9 h9 => ?_) (fun E9 z9 A9 B9 h9 => h9.elim)
  obtain ⟨rfl, rfl, rfl, n1⟩ := h9
  show AW _ _ _ _ _ _ _ _ _ _ (_ :: _) _ _ _
  refine a_aload_n (q := 484) dL_law_483 rfl rfl rfl ?_
  refine a_callVB (q := 487) _ dL_law_484 kL_123 (h2 _ n1) rfl rfl rfl (Nat.le_of_ble_eq_true rfl) ⟨(Nat.le_of_ble_eq_true rfl), (Nat.le_of_ble_eq_true rfl)⟩ ⟨by omega, by omega⟩ rfl (fun v9 z9 A9 B9 h9 => ?_) (fun E9 z9 A9 B9 h9 => h9.elim)
  obtain ⟨rfl, rfl, rfl, G9, T9, Y9, W9, R9, Z9, U9, L9, q9, rfl, n2⟩ := h9
  show AW _ _ _ _ _ _ _ _ _ _ (_ :: _) _ _ _
  refine a_icmp_eq (q := 490) 1425 dL_law_487 (by decide) rfl (fun c487 => ?_) (fun c487 => ?_)
  · skip
    exact next _ _ _ _ _ _ _ _ _ _ n1 n2 _ _ _
  · exact absurd rfl c487
theorem q_pathsFrom (r : Int32) (hj : 3 * j + 2 < g.2.2.2.2.2.1) (hL : g.2.2.2.2.2.1 ≤ 1536) (hkc : kc + 1 ≤ 1098) (hns : ns + 6 ≤ 10013) (hk : k < 3) (h1 : Ct g mL_pathsFrom [.ref (g.1 + 0), .int (g.2.2.2.2.2.2 (3 * j + 1)), .ref (g.2.1 + 23)] 0 A (BM g G T th Y W R Z U L h O) 1 6 (rP (some (.int (nI k))) A1 (BM g G T th Y W R Z U L h O1)) noX) (h2 : Ct g mX9_pathsFrom [.ref (g.2.1 + 0), .int (g.2.2.2.2.2.2 (3 * j + 1))] 0 A1 (BM g G T th Y W R Z U L h O1) 0 0 (rM g (some (.int r)) A1 k O1 N) noX) (h3 : k = 0 → O1.1 (nI 0).toNatClampNeg = r.toInt64) (next : ∀ G T Y W R Z U L h, N G T Y W → lwK g j (kc + 1) (ns + 6) A1 (BM g G T k Y W R Z U L h O1)) (L6 L7 L8 : Option Value) : AW g mL_law 1098 10013 lwP noX kc ns 492 [some (.ref g.2.2.2.2.1), some (.ref (g.1 + 0)), some (.ref (g.2.1 + 0)), some (.ref (g.2.1 + 23)), some (.ref (g.2.1 + 24)), some (.int (nI (3 * j))), L6, L7, L8] [] 0 A (BM g G T th Y W R Z U L h O) := by
  refine a_aload_n (q := 493) dL_law_492 rfl rfl rfl ?_
  refine a_aload_n (q := 494) dL_law_493 rfl rfl rfl ?_
  refine a_iload (q := 496) dL_law_494 rfl rfl ?_
  refine a_iconst (q := 497) (nI 1) dL_law_496 (by decide) rfl ?_
  refine a_iaddN (q := 498) dL_law_497 rfl ?_
  refine a_sldN (q := 499) dL_law_498 (by omega) hL rfl ?_
  refine a_aload_n (q := 500) dL_law_499 rfl rfl rfl ?_
  refine a_cHv (q := 503) _ dL_law_500 kL_124 (h1) rfl rfl (Nat.le_of_ble_eq_true rfl) ⟨(Nat.le_of_ble_eq_true rfl), (Nat.le_of_ble_eq_true rfl)⟩ ⟨by omega, by omega⟩ rfl ?_
  refine a_istore (q := 505) dL_law_503 (Nat.le_of_ble_eq_true rfl) rfl rfl ?_
  refine a_aload_n (q := 506) dL_law_505 rfl rfl rfl ?_
  refine a_aload_n (q := 507) dL_law_506 rfl rfl rfl ?_
  refine a_iload (q := 509) dL_law_507 rfl rfl ?_
  refine a_iconst (q := 510) (nI 1) dL_law_509 (by decide) rfl ?_
  refine a_iaddN (q := 511) dL_law_510 rfl ?_
  refine a_sldN (q := 512) dL_law_511 (by omega) hL rfl ?_
  refine a_callVB (q := 515) _ dL_law_512 kL_126 (h2) rfl rfl rfl (Nat.le_of_ble_eq_true rfl) ⟨(Nat.le_of_ble_eq_true rfl), (Nat.le_of_ble_eq_true rfl)⟩ ⟨by omega, by omega⟩ rfl (fun v9 z9 A9 B9 h9 => ?_) (fun E9 z9 A9 B9 h9 => h9.elim)
  obtain ⟨rfl, rfl, rfl, G9, T9, Y9, W9, R9, Z9, U9, L9, q9, rfl, n2⟩ := h9
  show AW _ _ _ _ _ _ _ _ _ _ (_ :: _) _ _ _
  refine a_istore (q := 517) dL_law_515 (Nat.le_of_ble_eq_true rfl) rfl rfl ?_
  refine a_aload_n (q := 518) dL_law_517 rfl rfl rfl ?_
  refine a_cVBv (q := 521) _ dL_law_518 kL_90 (m_thrown) rfl rfl rfl (Nat.le_of_ble_eq_true rfl) ⟨(Nat.le_of_ble_eq_true rfl), (Nat.le_of_ble_eq_true rfl)⟩ ⟨by omega, by omega⟩ rfl ?_
  refine a_iload (q := 523) dL_law_521 rfl rfl ?_
  refine a_icmp_eq (q := 526) 528 dL_law_523 (by decide) rfl (fun c523 => ?_) (fun c523 => ?_)
  · skip
    refine a_iload (q := 530) dL_law_528 rfl rfl ?_
    refine a_if_ne (q := 533) 545 dL_law_530 (by decide) rfl (fun c530 => ?_) (fun c530 => ?_)
    · skip
      refine a_goto 1425 dL_law_545 (by decide) ?_
      exact next _ _ _ _ _ _ _ _ _ n2 _ _ _
    · skip
      refine a_aload_n (q := 534) dL_law_533 rfl rfl rfl ?_
      refine a_iconst (q := 535) (nI 0) dL_law_534 (by decide) rfl ?_
      refine a_laldB (q := 536) dL_law_535 rfl vp_in01 rfl ?_
      refine a_iload (q := 538) dL_law_536 rfl rfl ?_
      refine a_i2l (q := 539) dL_law_538 rfl ?_
      refine a_lcmp (q := 540) dL_law_539 rfl ?_
      refine a_if_eq (q := 543) 545 dL_law_540 (by decide) rfl (fun c540 => ?_) (fun c540 => ?_)
      · skip
        refine a_goto 1425 dL_law_545 (by decide) ?_
        exact next _ _ _ _ _ _ _ _ _ n2 _ _ _
      · exact absurd ((lg_cmp_eq _ _).mpr (h3 (nI_z c530 hk))) c540
  · exact absurd rfl c523
theorem q_isBack (r : Bool) (hj : 3 * j + 2 < g.2.2.2.2.2.1) (hL : g.2.2.2.2.2.1 ≤ 1536) (hkc : kc + 1 ≤ 1098) (hns : ns + 6 ≤ 10013) (hk : k < 3) (h1 : Ct g mL_isBack [.ref (g.1 + 0), .int (g.2.2.2.2.2.2 (3 * j + 1)), .ref (g.2.1 + 23)] 0 A (BM g G T th Y W R Z U L h O) 1 6 (rP (some (.int (nI k))) A1 (BM g G T th Y W R Z U L h O1)) noX) (h2 : Ct g mX9_isBack [.ref (g.2.1 + 0), .int (g.2.2.2.2.2.2 (3 * j + 1))] 0 A1 (BM g G T th Y W R Z U L h O1) 0 0 (rM g (some (.int (b2 r))) A1 k O1 N) noX) (h3 : k = 0 → O1.1 (nI 0).toNatClampNeg = bL r) (next : ∀ G T Y W R Z U L h, N G T Y W → lwK g j (kc + 1) (ns + 6) A1 (BM g G T k Y W R Z U L h O1)) (L6 L7 L8 : Option Value) : AW g mL_law 1098 10013 lwP noX kc ns 548 [some (.ref g.2.2.2.2.1), some (.ref (g.1 + 0)), some (.ref (g.2.1 + 0)), some (.ref (g.2.1 + 23)), some (.ref (g.2.1 + 24)), some (.int (nI (3 * j))), L6, L7, L8] [] 0 A (BM g G T th Y W R Z U L h O) := by
  refine a_aload_n (q := 549) dL_law_548 rfl rfl rfl ?_
  refine a_aload_n (q := 550) dL_law_549 rfl rfl rfl ?_
  refine a_iload (q := 552) dL_law_550 rfl rfl ?_
  refine a_iconst (q := 553) (nI 1) dL_law_552 (by decide) rfl ?_
  refine a_iaddN (q := 554) dL_law_553 rfl ?_
  refine a_sldN (q := 555) dL_law_554 (by omega) hL rfl ?_
  refine a_aload_n (q := 556) dL_law_555 rfl rfl rfl ?_
  refine a_cHv (q := 559) _ dL_law_556 kL_127 (h1) rfl rfl (Nat.le_of_ble_eq_true rfl) ⟨(Nat.le_of_ble_eq_true rfl), (Nat.le_of_ble_eq_true rfl)⟩ ⟨by omega, by omega⟩ rfl ?_
  refine a_istore (q := 561) dL_law_559 (Nat.le_of_ble_eq_true rfl) rfl rfl ?_
  refine a_aload_n (q := 562) dL_law_561 rfl rfl rfl ?_
  refine a_aload_n (q := 563) dL_law_562 rfl rfl rfl ?_
  refine a_iload (q := 565) dL_law_563 rfl rfl ?_
  refine a_iconst (q := 566) (nI 1) dL_law_565 (by decide) rfl ?_
  refine a_iaddN (q := 567) dL_law_566 rfl ?_
  refine a_sldN (q := 568) dL_law_567 (by omega) hL rfl ?_
  refine a_callVB (q := 571) _ dL_law_568 kL_129 (h2) rfl rfl rfl (Nat.le_of_ble_eq_true rfl) ⟨(Nat.le_of_ble_eq_true rfl), (Nat.le_of_ble_eq_true rfl)⟩ ⟨by omega, by omega⟩ rfl (fun v9 z9 A9 B9 h9 => ?_) (fun E9 z9 A9 B9 h9 => h9.elim)
  obtain ⟨rfl, rfl, rfl, G9, T9, Y9, W9, R9, Z9, U9, L9, q9, rfl, n2⟩ := h9
  show AW _ _ _ _ _ _ _ _ _ _ (_ :: _) _ _ _
  refine a_istore (q := 573) dL_law_571 (Nat.le_of_ble_eq_true rfl) rfl rfl ?_
  refine a_aload_n (q := 574) dL_law_573 rfl rfl rfl ?_
  refine a_cVBv (q := 577) _ dL_law_574 kL_90 (m_thrown) rfl rfl rfl (Nat.le_of_ble_eq_true rfl) ⟨(Nat.le_of_ble_eq_true rfl), (Nat.le_of_ble_eq_true rfl)⟩ ⟨by omega, by omega⟩ rfl ?_
  refine a_iload (q := 579) dL_law_577 rfl rfl ?_
  refine a_icmp_eq (q := 582) 584 dL_law_579 (by decide) rfl (fun c579 => ?_) (fun c579 => ?_)
  · skip
    refine a_iload (q := 586) dL_law_584 rfl rfl ?_
    refine a_if_ne (q := 589) 608 dL_law_586 (by decide) rfl (fun c586 => ?_) (fun c586 => ?_)
    · skip
      refine a_goto 1425 dL_law_608 (by decide) ?_
      exact next _ _ _ _ _ _ _ _ _ n2 _ _ _
    · skip
      refine a_aload_n (q := 590) dL_law_589 rfl rfl rfl ?_
      refine a_iconst (q := 591) (nI 0) dL_law_590 (by decide) rfl ?_
      refine a_laldB (q := 592) dL_law_591 rfl vp_in01 rfl ?_
      refine a_iload (q := 594) dL_law_592 rfl rfl ?_
      refine a_if_eqZ (q := 597) 601 dL_law_594 (by decide) rfl (fun c594 => ?_) (fun c594 => ?_)
      · skip
        refine a_lconst (q := 602) 0 dL_law_601 (by decide) rfl ?_
        refine a_lcmp (q := 603) dL_law_602 rfl ?_
        refine a_if_eq (q := 606) 608 dL_law_603 (by decide) rfl (fun c603 => ?_) (fun c603 => ?_)
        · skip
          refine a_goto 1425 dL_law_608 (by decide) ?_
          exact next _ _ _ _ _ _ _ _ _ n2 _ _ _
        · exact absurd ((lg_cmp_eq _ _).mpr (by rw [h3 (nI_z c586 hk), c594]; rfl)) c603
      · skip
        refine a_lconst (q := 598) 1 dL_law_597 (by decide) rfl ?_
        refine a_goto 602 dL_law_598 (by decide) ?_
        refine a_lcmp (q := 603) dL_law_602 rfl ?_
        refine a_if_eq (q := 606) 608 dL_law_603 (by decide) rfl (fun c603 => ?_) (fun c603 => ?_)
        · skip
          refine a_goto 1425 dL_law_608 (by decide) ?_
          exact next _ _ _ _ _ _ _ _ _ n2 _ _ _
        · exact absurd ((lg_cmp_eq _ _).mpr (by rw [h3 (nI_z c586 hk), c594]; rfl)) c603
  · exact absurd rfl c579
theorem q_value (r : Int32) (b : Bool) (hb : b = decide (¬ (g.2.2.2.2.2.2 (3 * j + 2)) = 0)) (hj : 3 * j + 2 < g.2.2.2.2.2.1) (hL : g.2.2.2.2.2.1 ≤ 1536) (hkc : kc + 1 ≤ 1098) (hns : ns + 6 ≤ 10013) (hk : k < 3) (h1 : Ct g mL_value [.ref (g.1 + 0), .int (g.2.2.2.2.2.2 (3 * j + 1)), .int (b2 b), .ref (g.2.1 + 23)] 0 A (BM g G T th Y W R Z U L h O) 1 6 (rP (some (.int (nI k))) A1 (BM g G T th Y W R Z U L h O1)) noX) (h2 : Ct g mX9_value [.ref (g.2.1 + 0), .int (g.2.2.2.2.2.2 (3 * j + 1)), .int (b2 b)] 0 A1 (BM g G T th Y W R Z U L h O1) 0 0 (rM g (some (.int r)) A1 k O1 N) noX) (h3 : k = 0 → O1.1 (nI 0).toNatClampNeg = r.toInt64) (next : ∀ G T Y W R Z U L h, N G T Y W → lwK g j (kc + 1) (ns + 6) A1 (BM g G T k Y W R Z U L h O1)) (L6 L7 L8 : Option Value) : AW g mL_law 1098 10013 lwP noX kc ns 611 [some (.ref g.2.2.2.2.1), some (.ref (g.1 + 0)), some (.ref (g.2.1 + 0)), some (.ref (g.2.1 + 23)), some (.ref (g.2.1 + 24)), some (.int (nI (3 * j))), L6, L7, L8] [] 0 A (BM g G T th Y W R Z U L h O) := by
  cases b with
  | true =>
    refine a_aload_n (q := 612) dL_law_611 rfl rfl rfl ?_
    refine a_aload_n (q := 613) dL_law_612 rfl rfl rfl ?_
    refine a_iload (q := 615) dL_law_613 rfl rfl ?_
    refine a_iconst (q := 616) (nI 1) dL_law_615 (by decide) rfl ?_
    refine a_iaddN (q := 617) dL_law_616 rfl ?_
    refine a_sldN (q := 618) dL_law_617 (by omega) hL rfl ?_
    refine a_aload_n (q := 619) dL_law_618 rfl rfl rfl ?_
    refine a_iload (q := 621) dL_law_619 rfl rfl ?_
    refine a_iconst (q := 622) (nI 2) dL_law_621 (by decide) rfl ?_
    refine a_iaddN (q := 623) dL_law_622 rfl ?_
    refine a_sldN (q := 624) dL_law_623 (by omega) hL rfl ?_
    refine a_if_eq (q := 627) 631 dL_law_624 (by decide) rfl (fun c624 => ?_) (fun c624 => ?_)
    · exact absurd c624 (of_decide_eq_true hb.symm)
    · skip
      refine a_iconst (q := 628) (b2 true) dL_law_627 (by decide) rfl ?_
      refine a_goto 632 dL_law_628 (by decide) ?_
      refine a_aload_n (q := 633) dL_law_632 rfl rfl rfl ?_
      refine a_cHv (q := 636) _ dL_law_633 kL_130 (h1) rfl rfl (Nat.le_of_ble_eq_true rfl) ⟨(Nat.le_of_ble_eq_true rfl), (Nat.le_of_ble_eq_true rfl)⟩ ⟨by omega, by omega⟩ rfl ?_
      refine a_istore (q := 638) dL_law_636 (Nat.le_of_ble_eq_true rfl) rfl rfl ?_
      refine a_aload_n (q := 639) dL_law_638 rfl rfl rfl ?_
      refine a_aload_n (q := 640) dL_law_639 rfl rfl rfl ?_
      refine a_iload (q := 642) dL_law_640 rfl rfl ?_
      refine a_iconst (q := 643) (nI 1) dL_law_642 (by decide) rfl ?_
      refine a_iaddN (q := 644) dL_law_643 rfl ?_
      refine a_sldN (q := 645) dL_law_644 (by omega) hL rfl ?_
      refine a_aload_n (q := 646) dL_law_645 rfl rfl rfl ?_
      refine a_iload (q := 648) dL_law_646 rfl rfl ?_
      refine a_iconst (q := 649) (nI 2) dL_law_648 (by decide) rfl ?_
      refine a_iaddN (q := 650) dL_law_649 rfl ?_
      refine a_sldN (q := 651) dL_law_650 (by omega) hL rfl ?_
      refine a_if_eq (q := 654) 658 dL_law_651 (by decide) rfl (fun c651 => ?_) (fun c651 => ?_)
      · exact absurd c651 (of_decide_eq_true hb.symm)
      · skip
        refine a_iconst (q := 655) (b2 true) dL_law_654 (by decide) rfl ?_
        refine a_goto 659 dL_law_655 (by decide) ?_
        refine a_callVB (q := 662) _ dL_law_659 kL_133 (h2) rfl rfl rfl (Nat.le_of_ble_eq_true rfl) ⟨(Nat.le_of_ble_eq_true rfl), (Nat.le_of_ble_eq_true rfl)⟩ ⟨by omega, by omega⟩ rfl (fun v9 z9 A9 B9 h9 => ?_) (fun E9 z9 A9 B9 h9 => h9.elim)
        obtain ⟨rfl, rfl, rfl, G9, T9, Y9, W9, R9, Z9, U9, L9, q9, rfl, n2⟩ := h9
        show AW _ _ _ _ _ _ _ _ _ _ (_ :: _) _ _ _
        refine a_istore (q := 664) dL_law_662 (Nat.le_of_ble_eq_true rfl) rfl rfl ?_
        refine a_aload_n (q := 665) dL_law_664 rfl rfl rfl ?_
        refine a_cVBv (q := 668) _ dL_law_665 kL_90 (m_thrown) rfl rfl rfl (Nat.le_of_ble_eq_true rfl) ⟨(Nat.le_of_ble_eq_true rfl), (Nat.le_of_ble_eq_true rfl)⟩ ⟨by omega, by omega⟩ rfl ?_
        refine a_iload (q := 670) dL_law_668 rfl rfl ?_
        refine a_icmp_eq (q := 673) 675 dL_law_670 (by decide) rfl (fun c670 => ?_) (fun c670 => ?_)
        · skip
          refine a_iload (q := 677) dL_law_675 rfl rfl ?_
          refine a_if_ne (q := 680) 692 dL_law_677 (by decide) rfl (fun c677 => ?_) (fun c677 => ?_)
          · skip
            refine a_goto 1425 dL_law_692 (by decide) ?_
            exact next _ _ _ _ _ _ _ _ _ n2 _ _ _
          · skip
            refine a_aload_n (q := 681) dL_law_680 rfl rfl rfl ?_
            refine a_iconst (q := 682) (nI 0) dL_law_681 (by decide) rfl ?_
            refine a_laldB (q := 683) dL_law_682 rfl vp_in01 rfl ?_
            refine a_iload (q := 685) dL_law_683 rfl rfl ?_
            refine a_i2l (q := 686) dL_law_685 rfl ?_
            refine a_lcmp (q := 687) dL_law_686 rfl ?_
            refine a_if_eq (q := 690) 692 dL_law_687 (by decide) rfl (fun c687 => ?_) (fun c687 => ?_)
            · skip
              refine a_goto 1425 dL_law_692 (by decide) ?_
              exact next _ _ _ _ _ _ _ _ _ n2 _ _ _
            · exact absurd ((lg_cmp_eq _ _).mpr (h3 (nI_z c677 hk))) c687
        · exact absurd rfl c670
  | false =>
    refine a_aload_n (q := 612) dL_law_611 rfl rfl rfl ?_
    refine a_aload_n (q := 613) dL_law_612 rfl rfl rfl ?_
    refine a_iload (q := 615) dL_law_613 rfl rfl ?_
    refine a_iconst (q := 616) (nI 1) dL_law_615 (by decide) rfl ?_
    refine a_iaddN (q := 617) dL_law_616 rfl ?_
    refine a_sldN (q := 618) dL_law_617 (by omega) hL rfl ?_
    refine a_aload_n (q := 619) dL_law_618 rfl rfl rfl ?_
    refine a_iload (q := 621) dL_law_619 rfl rfl ?_
    refine a_iconst (q := 622) (nI 2) dL_law_621 (by decide) rfl ?_
    refine a_iaddN (q := 623) dL_law_622 rfl ?_
    refine a_sldN (q := 624) dL_law_623 (by omega) hL rfl ?_
    refine a_if_eq (q := 627) 631 dL_law_624 (by decide) rfl (fun c624 => ?_) (fun c624 => ?_)
    · skip
      refine a_iconst (q := 632) (b2 false) dL_law_631 (by decide) rfl ?_
      refine a_aload_n (q := 633) dL_law_632 rfl rfl rfl ?_
      refine a_cHv (q := 636) _ dL_law_633 kL_130 (h1) rfl rfl (Nat.le_of_ble_eq_true rfl) ⟨(Nat.le_of_ble_eq_true rfl), (Nat.le_of_ble_eq_true rfl)⟩ ⟨by omega, by omega⟩ rfl ?_
      refine a_istore (q := 638) dL_law_636 (Nat.le_of_ble_eq_true rfl) rfl rfl ?_
      refine a_aload_n (q := 639) dL_law_638 rfl rfl rfl ?_
      refine a_aload_n (q := 640) dL_law_639 rfl rfl rfl ?_
      refine a_iload (q := 642) dL_law_640 rfl rfl ?_
      refine a_iconst (q := 643) (nI 1) dL_law_642 (by decide) rfl ?_
      refine a_iaddN (q := 644) dL_law_643 rfl ?_
      refine a_sldN (q := 645) dL_law_644 (by omega) hL rfl ?_
      refine a_aload_n (q := 646) dL_law_645 rfl rfl rfl ?_
      refine a_iload (q := 648) dL_law_646 rfl rfl ?_
      refine a_iconst (q := 649) (nI 2) dL_law_648 (by decide) rfl ?_
      refine a_iaddN (q := 650) dL_law_649 rfl ?_
      refine a_sldN (q := 651) dL_law_650 (by omega) hL rfl ?_
      refine a_if_eq (q := 654) 658 dL_law_651 (by decide) rfl (fun c651 => ?_) (fun c651 => ?_)
      · skip
        refine a_iconst (q := 659) (b2 false) dL_law_658 (by decide) rfl ?_
        refine a_callVB (q := 662) _ dL_law_659 kL_133 (h2) rfl rfl rfl (Nat.le_of_ble_eq_true rfl) ⟨(Nat.le_of_ble_eq_true rfl), (Nat.le_of_ble_eq_true rfl)⟩ ⟨by omega, by omega⟩ rfl (fun v9 z9 A9 B9 h9 => ?_) (fun E9 z9 A9 B9 h9 => h9.elim)
        obtain ⟨rfl, rfl, rfl, G9, T9, Y9, W9, R9, Z9, U9, L9, q9, rfl, n2⟩ := h9
        show AW _ _ _ _ _ _ _ _ _ _ (_ :: _) _ _ _
        refine a_istore (q := 664) dL_law_662 (Nat.le_of_ble_eq_true rfl) rfl rfl ?_
        refine a_aload_n (q := 665) dL_law_664 rfl rfl rfl ?_
        refine a_cVBv (q := 668) _ dL_law_665 kL_90 (m_thrown) rfl rfl rfl (Nat.le_of_ble_eq_true rfl) ⟨(Nat.le_of_ble_eq_true rfl), (Nat.le_of_ble_eq_true rfl)⟩ ⟨by omega, by omega⟩ rfl ?_
        refine a_iload (q := 670) dL_law_668 rfl rfl ?_
        refine a_icmp_eq (q := 673) 675 dL_law_670 (by decide) rfl (fun c670 => ?_) (fun c670 => ?_)
        · skip
          refine a_iload (q := 677) dL_law_675 rfl rfl ?_
          refine a_if_ne (q := 680) 692 dL_law_677 (by decide) rfl (fun c677 => ?_) (fun c677 => ?_)
          · skip
            refine a_goto 1425 dL_law_692 (by decide) ?_
            exact next _ _ _ _ _ _ _ _ _ n2 _ _ _
          · skip
            refine a_aload_n (q := 681) dL_law_680 rfl rfl rfl ?_
            refine a_iconst (q := 682) (nI 0) dL_law_681 (by decide) rfl ?_
            refine a_laldB (q := 683) dL_law_682 rfl vp_in01 rfl ?_
            refine a_iload (q := 685) dL_law_683 rfl rfl ?_
            refine a_i2l (q := 686) dL_law_685 rfl ?_
            refine a_lcmp (q := 687) dL_law_686 rfl ?_
            refine a_if_eq (q := 690) 692 dL_law_687 (by decide) rfl (fun c687 => ?_) (fun c687 => ?_)
            · skip
              refine a_goto 1425 dL_law_692 (by decide) ?_
              exact next _ _ _ _ _ _ _ _ _ n2 _ _ _
            · exact absurd ((lg_cmp_eq _ _).mpr (h3 (nI_z c677 hk))) c687
        · exact absurd rfl c670
      · exact absurd c651 (fun e9 => (of_decide_eq_false hb.symm) e9)
    · exact absurd c624 (fun e9 => (of_decide_eq_false hb.symm) e9)
theorem q_increment (r : Int32) (b : Bool) (hb : b = decide (¬ (g.2.2.2.2.2.2 (3 * j + 2)) = 0)) (hj : 3 * j + 2 < g.2.2.2.2.2.1) (hL : g.2.2.2.2.2.1 ≤ 1536) (hkc : kc + 1 ≤ 1098) (hns : ns + 6 ≤ 10013) (hk : k < 3) (h1 : Ct g mL_increment [.ref (g.1 + 0), .int (g.2.2.2.2.2.2 (3 * j + 1)), .int (b2 b), .ref (g.2.1 + 23)] 0 A (BM g G T th Y W R Z U L h O) 1 6 (rP (some (.int (nI k))) A1 (BM g G T th Y W R Z U L h O1)) noX) (h2 : Ct g mX9_increment [.ref (g.2.1 + 0), .int (g.2.2.2.2.2.2 (3 * j + 1)), .int (b2 b)] 0 A1 (BM g G T th Y W R Z U L h O1) 0 0 (rM g (some (.int r)) A1 k O1 N) noX) (h3 : k = 0 → O1.1 (nI 0).toNatClampNeg = r.toInt64) (next : ∀ G T Y W R Z U L h, N G T Y W → lwK g j (kc + 1) (ns + 6) A1 (BM g G T k Y W R Z U L h O1)) (L6 L7 L8 : Option Value) : AW g mL_law 1098 10013 lwP noX kc ns 695 [some (.ref g.2.2.2.2.1), some (.ref (g.1 + 0)), some (.ref (g.2.1 + 0)), some (.ref (g.2.1 + 23)), some (.ref (g.2.1 + 24)), some (.int (nI (3 * j))), L6, L7, L8] [] 0 A (BM g G T th Y W R Z U L h O) := by
  cases b with
  | true =>
    refine a_aload_n (q := 696) dL_law_695 rfl rfl rfl ?_
    refine a_aload_n (q := 697) dL_law_696 rfl rfl rfl ?_
    refine a_iload (q := 699) dL_law_697 rfl rfl ?_
    refine a_iconst (q := 700) (nI 1) dL_law_699 (by decide) rfl ?_
    refine a_iaddN (q := 701) dL_law_700 rfl ?_
    refine a_sldN (q := 702) dL_law_701 (by omega) hL rfl ?_
    refine a_aload_n (q := 703) dL_law_702 rfl rfl rfl ?_
    refine a_iload (q := 705) dL_law_703 rfl rfl ?_
    refine a_iconst (q := 706) (nI 2) dL_law_705 (by decide) rfl ?_
    refine a_iaddN (q := 707) dL_law_706 rfl ?_
    refine a_sldN (q := 708) dL_law_707 (by omega) hL rfl ?_
    refine a_if_eq (q := 711) 715 dL_law_708 (by decide) rfl (fun c708 => ?_) (fun c708 => ?_)
    · exact absurd c708 (of_decide_eq_true hb.symm)
    · skip
      refine a_iconst (q := 712) (b2 true) dL_law_711 (by decide) rfl ?_
      refine a_goto 716 dL_law_712 (by decide) ?_
      refine a_aload_n (q := 717) dL_law_716 rfl rfl rfl ?_
      refine a_cHv (q := 720) _ dL_law_717 kL_134 (h1) rfl rfl (Nat.le_of_ble_eq_true rfl) ⟨(Nat.le_of_ble_eq_true rfl), (Nat.le_of_ble_eq_true rfl)⟩ ⟨by omega, by omega⟩ rfl ?_
      refine a_istore (q := 722) dL_law_720 (Nat.le_of_ble_eq_true rfl) rfl rfl ?_
      refine a_aload_n (q := 723) dL_law_722 rfl rfl rfl ?_
      refine a_aload_n (q := 724) dL_law_723 rfl rfl rfl ?_
      refine a_iload (q := 726) dL_law_724 rfl rfl ?_
      refine a_iconst (q := 727) (nI 1) dL_law_726 (by decide) rfl ?_
      refine a_iaddN (q := 728) dL_law_727 rfl ?_
      refine a_sldN (q := 729) dL_law_728 (by omega) hL rfl ?_
      refine a_aload_n (q := 730) dL_law_729 rfl rfl rfl ?_
      refine a_iload (q := 732) dL_law_730 rfl rfl ?_
      refine a_iconst (q := 733) (nI 2) dL_law_732 (by decide) rfl ?_
      refine a_iaddN (q := 734) dL_law_733 rfl ?_
      refine a_sldN (q := 735) dL_law_734 (by omega) hL rfl ?_
      refine a_if_eq (q := 738) 742 dL_law_735 (by decide) rfl (fun c735 => ?_) (fun c735 => ?_)
      · exact absurd c735 (of_decide_eq_true hb.symm)
      · skip
        refine a_iconst (q := 739) (b2 true) dL_law_738 (by decide) rfl ?_
        refine a_goto 743 dL_law_739 (by decide) ?_
        refine a_callVB (q := 746) _ dL_law_743 kL_136 (h2) rfl rfl rfl (Nat.le_of_ble_eq_true rfl) ⟨(Nat.le_of_ble_eq_true rfl), (Nat.le_of_ble_eq_true rfl)⟩ ⟨by omega, by omega⟩ rfl (fun v9 z9 A9 B9 h9 => ?_) (fun E9 z9 A9 B9 h9 => h9.elim)
        obtain ⟨rfl, rfl, rfl, G9, T9, Y9, W9, R9, Z9, U9, L9, q9, rfl, n2⟩ := h9
        show AW _ _ _ _ _ _ _ _ _ _ (_ :: _) _ _ _
        refine a_istore (q := 748) dL_law_746 (Nat.le_of_ble_eq_true rfl) rfl rfl ?_
        refine a_aload_n (q := 749) dL_law_748 rfl rfl rfl ?_
        refine a_cVBv (q := 752) _ dL_law_749 kL_90 (m_thrown) rfl rfl rfl (Nat.le_of_ble_eq_true rfl) ⟨(Nat.le_of_ble_eq_true rfl), (Nat.le_of_ble_eq_true rfl)⟩ ⟨by omega, by omega⟩ rfl ?_
        refine a_iload (q := 754) dL_law_752 rfl rfl ?_
        refine a_icmp_eq (q := 757) 759 dL_law_754 (by decide) rfl (fun c754 => ?_) (fun c754 => ?_)
        · skip
          refine a_iload (q := 761) dL_law_759 rfl rfl ?_
          refine a_if_ne (q := 764) 776 dL_law_761 (by decide) rfl (fun c761 => ?_) (fun c761 => ?_)
          · skip
            refine a_goto 1425 dL_law_776 (by decide) ?_
            exact next _ _ _ _ _ _ _ _ _ n2 _ _ _
          · skip
            refine a_aload_n (q := 765) dL_law_764 rfl rfl rfl ?_
            refine a_iconst (q := 766) (nI 0) dL_law_765 (by decide) rfl ?_
            refine a_laldB (q := 767) dL_law_766 rfl vp_in01 rfl ?_
            refine a_iload (q := 769) dL_law_767 rfl rfl ?_
            refine a_i2l (q := 770) dL_law_769 rfl ?_
            refine a_lcmp (q := 771) dL_law_770 rfl ?_
            refine a_if_eq (q := 774) 776 dL_law_771 (by decide) rfl (fun c771 => ?_) (fun c771 => ?_)
            · skip
              refine a_goto 1425 dL_law_776 (by decide) ?_
              exact next _ _ _ _ _ _ _ _ _ n2 _ _ _
            · exact absurd ((lg_cmp_eq _ _).mpr (h3 (nI_z c761 hk))) c771
        · exact absurd rfl c754
  | false =>
    refine a_aload_n (q := 696) dL_law_695 rfl rfl rfl ?_
    refine a_aload_n (q := 697) dL_law_696 rfl rfl rfl ?_
    refine a_iload (q := 699) dL_law_697 rfl rfl ?_
    refine a_iconst (q := 700) (nI 1) dL_law_699 (by decide) rfl ?_
    refine a_iaddN (q := 701) dL_law_700 rfl ?_
    refine a_sldN (q := 702) dL_law_701 (by omega) hL rfl ?_
    refine a_aload_n (q := 703) dL_law_702 rfl rfl rfl ?_
    refine a_iload (q := 705) dL_law_703 rfl rfl ?_
    refine a_iconst (q := 706) (nI 2) dL_law_705 (by decide) rfl ?_
    refine a_iaddN (q := 707) dL_law_706 rfl ?_
    refine a_sldN (q := 708) dL_law_707 (by omega) hL rfl ?_
    refine a_if_eq (q := 711) 715 dL_law_708 (by decide) rfl (fun c708 => ?_) (fun c708 => ?_)
    · skip
      refine a_iconst (q := 716) (b2 false) dL_law_715 (by decide) rfl ?_
      refine a_aload_n (q := 717) dL_law_716 rfl rfl rfl ?_
      refine a_cHv (q := 720) _ dL_law_717 kL_134 (h1) rfl rfl (Nat.le_of_ble_eq_true rfl) ⟨(Nat.le_of_ble_eq_true rfl), (Nat.le_of_ble_eq_true rfl)⟩ ⟨by omega, by omega⟩ rfl ?_
      refine a_istore (q := 722) dL_law_720 (Nat.le_of_ble_eq_true rfl) rfl rfl ?_
      refine a_aload_n (q := 723) dL_law_722 rfl rfl rfl ?_
      refine a_aload_n (q := 724) dL_law_723 rfl rfl rfl ?_
      refine a_iload (q := 726) dL_law_724 rfl rfl ?_
      refine a_iconst (q := 727) (nI 1) dL_law_726 (by decide) rfl ?_
      refine a_iaddN (q := 728) dL_law_727 rfl ?_
      refine a_sldN (q := 729) dL_law_728 (by omega) hL rfl ?_
      refine a_aload_n (q := 730) dL_law_729 rfl rfl rfl ?_
      refine a_iload (q := 732) dL_law_730 rfl rfl ?_
      refine a_iconst (q := 733) (nI 2) dL_law_732 (by decide) rfl ?_
      refine a_iaddN (q := 734) dL_law_733 rfl ?_
      refine a_sldN (q := 735) dL_law_734 (by omega) hL rfl ?_
      refine a_if_eq (q := 738) 742 dL_law_735 (by decide) rfl (fun c735 => ?_) (fun c735 => ?_)
      · skip
        refine a_iconst (q := 743) (b2 false) dL_law_742 (by decide) rfl ?_
        refine a_callVB (q := 746) _ dL_law_743 kL_136 (h2) rfl rfl rfl (Nat.le_of_ble_eq_true rfl) ⟨(Nat.le_of_ble_eq_true rfl), (Nat.le_of_ble_eq_true rfl)⟩ ⟨by omega, by omega⟩ rfl (fun v9 z9 A9 B9 h9 => ?_) (fun E9 z9 A9 B9 h9 => h9.elim)
        obtain ⟨rfl, rfl, rfl, G9, T9, Y9, W9, R9, Z9, U9, L9, q9, rfl, n2⟩ := h9
        show AW _ _ _ _ _ _ _ _ _ _ (_ :: _) _ _ _
        refine a_istore (q := 748) dL_law_746 (Nat.le_of_ble_eq_true rfl) rfl rfl ?_
        refine a_aload_n (q := 749) dL_law_748 rfl rfl rfl ?_
        refine a_cVBv (q := 752) _ dL_law_749 kL_90 (m_thrown) rfl rfl rfl (Nat.le_of_ble_eq_true rfl) ⟨(Nat.le_of_ble_eq_true rfl), (Nat.le_of_ble_eq_true rfl)⟩ ⟨by omega, by omega⟩ rfl ?_
        refine a_iload (q := 754) dL_law_752 rfl rfl ?_
        refine a_icmp_eq (q := 757) 759 dL_law_754 (by decide) rfl (fun c754 => ?_) (fun c754 => ?_)
        · skip
          refine a_iload (q := 761) dL_law_759 rfl rfl ?_
          refine a_if_ne (q := 764) 776 dL_law_761 (by decide) rfl (fun c761 => ?_) (fun c761 => ?_)
          · skip
            refine a_goto 1425 dL_law_776 (by decide) ?_
            exact next _ _ _ _ _ _ _ _ _ n2 _ _ _
          · skip
            refine a_aload_n (q := 765) dL_law_764 rfl rfl rfl ?_
            refine a_iconst (q := 766) (nI 0) dL_law_765 (by decide) rfl ?_
            refine a_laldB (q := 767) dL_law_766 rfl vp_in01 rfl ?_
            refine a_iload (q := 769) dL_law_767 rfl rfl ?_
            refine a_i2l (q := 770) dL_law_769 rfl ?_
            refine a_lcmp (q := 771) dL_law_770 rfl ?_
            refine a_if_eq (q := 774) 776 dL_law_771 (by decide) rfl (fun c771 => ?_) (fun c771 => ?_)
            · skip
              refine a_goto 1425 dL_law_776 (by decide) ?_
              exact next _ _ _ _ _ _ _ _ _ n2 _ _ _
            · exact absurd ((lg_cmp_eq _ _).mpr (h3 (nI_z c761 hk))) c771
        · exact absurd rfl c754
      · exact absurd c735 (fun e9 => (of_decide_eq_false hb.symm) e9)
    · exact absurd c708 (fun e9 => (of_decide_eq_false hb.symm) e9)
theorem q_chords (r : Int32) (b : Bool) (hb : b = decide (¬ (g.2.2.2.2.2.2 (3 * j + 1)) = 0)) (hj : 3 * j + 2 < g.2.2.2.2.2.1) (hL : g.2.2.2.2.2.1 ≤ 1536) (hkc : kc + 1 ≤ 1098) (hns : ns + 6 ≤ 10013) (hk : k < 3) (h1 : Ct g mL_chords [.ref (g.1 + 0), .int (b2 b), .ref (g.2.1 + 23)] 0 A (BM g G T th Y W R Z U L h O) 1 6 (rP (some (.int (nI k))) A1 (BM g G T th Y W R Z U L h O1)) noX) (h2 : Ct g mX9_chords [.ref (g.2.1 + 0), .int (b2 b)] 0 A1 (BM g G T th Y W R Z U L h O1) 0 0 (rM g (some (.int r)) A1 k O1 N) noX) (h3 : k = 0 → O1.1 (nI 0).toNatClampNeg = r.toInt64) (next : ∀ G T Y W R Z U L h, N G T Y W → lwK g j (kc + 1) (ns + 6) A1 (BM g G T k Y W R Z U L h O1)) (L6 L7 L8 : Option Value) : AW g mL_law 1098 10013 lwP noX kc ns 779 [some (.ref g.2.2.2.2.1), some (.ref (g.1 + 0)), some (.ref (g.2.1 + 0)), some (.ref (g.2.1 + 23)), some (.ref (g.2.1 + 24)), some (.int (nI (3 * j))), L6, L7, L8] [] 0 A (BM g G T th Y W R Z U L h O) := by
  cases b with
  | true =>
    refine a_aload_n (q := 780) dL_law_779 rfl rfl rfl ?_
    refine a_aload_n (q := 781) dL_law_780 rfl rfl rfl ?_
    refine a_iload (q := 783) dL_law_781 rfl rfl ?_
    refine a_iconst (q := 784) (nI 1) dL_law_783 (by decide) rfl ?_
    refine a_iaddN (q := 785) dL_law_784 rfl ?_
    refine a_sldN (q := 786) dL_law_785 (by omega) hL rfl ?_
    refine a_if_eq (q := 789) 793 dL_law_786 (by decide) rfl (fun c786 => ?_) (fun c786 => ?_)
    · exact absurd c786 (of_decide_eq_true hb.symm)
    · skip
      refine a_iconst (q := 790) (b2 true) dL_law_789 (by decide) rfl ?_
      refine a_goto 794 dL_law_790 (by decide) ?_
      refine a_aload_n (q := 795) dL_law_794 rfl rfl rfl ?_
      refine a_cHv (q := 798) _ dL_law_795 kL_137 (h1) rfl rfl (Nat.le_of_ble_eq_true rfl) ⟨(Nat.le_of_ble_eq_true rfl), (Nat.le_of_ble_eq_true rfl)⟩ ⟨by omega, by omega⟩ rfl ?_
      refine a_istore (q := 800) dL_law_798 (Nat.le_of_ble_eq_true rfl) rfl rfl ?_
      refine a_aload_n (q := 801) dL_law_800 rfl rfl rfl ?_
      refine a_aload_n (q := 802) dL_law_801 rfl rfl rfl ?_
      refine a_iload (q := 804) dL_law_802 rfl rfl ?_
      refine a_iconst (q := 805) (nI 1) dL_law_804 (by decide) rfl ?_
      refine a_iaddN (q := 806) dL_law_805 rfl ?_
      refine a_sldN (q := 807) dL_law_806 (by omega) hL rfl ?_
      refine a_if_eq (q := 810) 814 dL_law_807 (by decide) rfl (fun c807 => ?_) (fun c807 => ?_)
      · exact absurd c807 (of_decide_eq_true hb.symm)
      · skip
        refine a_iconst (q := 811) (b2 true) dL_law_810 (by decide) rfl ?_
        refine a_goto 815 dL_law_811 (by decide) ?_
        refine a_callVB (q := 818) _ dL_law_815 kL_140 (h2) rfl rfl rfl (Nat.le_of_ble_eq_true rfl) ⟨(Nat.le_of_ble_eq_true rfl), (Nat.le_of_ble_eq_true rfl)⟩ ⟨by omega, by omega⟩ rfl (fun v9 z9 A9 B9 h9 => ?_) (fun E9 z9 A9 B9 h9 => h9.elim)
        obtain ⟨rfl, rfl, rfl, G9, T9, Y9, W9, R9, Z9, U9, L9, q9, rfl, n2⟩ := h9
        show AW _ _ _ _ _ _ _ _ _ _ (_ :: _) _ _ _
        refine a_istore (q := 820) dL_law_818 (Nat.le_of_ble_eq_true rfl) rfl rfl ?_
        refine a_aload_n (q := 821) dL_law_820 rfl rfl rfl ?_
        refine a_cVBv (q := 824) _ dL_law_821 kL_90 (m_thrown) rfl rfl rfl (Nat.le_of_ble_eq_true rfl) ⟨(Nat.le_of_ble_eq_true rfl), (Nat.le_of_ble_eq_true rfl)⟩ ⟨by omega, by omega⟩ rfl ?_
        refine a_iload (q := 826) dL_law_824 rfl rfl ?_
        refine a_icmp_eq (q := 829) 831 dL_law_826 (by decide) rfl (fun c826 => ?_) (fun c826 => ?_)
        · skip
          refine a_iload (q := 833) dL_law_831 rfl rfl ?_
          refine a_if_ne (q := 836) 848 dL_law_833 (by decide) rfl (fun c833 => ?_) (fun c833 => ?_)
          · skip
            refine a_goto 1425 dL_law_848 (by decide) ?_
            exact next _ _ _ _ _ _ _ _ _ n2 _ _ _
          · skip
            refine a_aload_n (q := 837) dL_law_836 rfl rfl rfl ?_
            refine a_iconst (q := 838) (nI 0) dL_law_837 (by decide) rfl ?_
            refine a_laldB (q := 839) dL_law_838 rfl vp_in01 rfl ?_
            refine a_iload (q := 841) dL_law_839 rfl rfl ?_
            refine a_i2l (q := 842) dL_law_841 rfl ?_
            refine a_lcmp (q := 843) dL_law_842 rfl ?_
            refine a_if_eq (q := 846) 848 dL_law_843 (by decide) rfl (fun c843 => ?_) (fun c843 => ?_)
            · skip
              refine a_goto 1425 dL_law_848 (by decide) ?_
              exact next _ _ _ _ _ _ _ _ _ n2 _ _ _
            · exact absurd ((lg_cmp_eq _ _).mpr (h3 (nI_z c833 hk))) c843
        · exact absurd rfl c826
  | false =>
    refine a_aload_n (q := 780) dL_law_779 rfl rfl rfl ?_
    refine a_aload_n (q := 781) dL_law_780 rfl rfl rfl ?_
    refine a_iload (q := 783) dL_law_781 rfl rfl ?_
    refine a_iconst (q := 784) (nI 1) dL_law_783 (by decide) rfl ?_
    refine a_iaddN (q := 785) dL_law_784 rfl ?_
    refine a_sldN (q := 786) dL_law_785 (by omega) hL rfl ?_
    refine a_if_eq (q := 789) 793 dL_law_786 (by decide) rfl (fun c786 => ?_) (fun c786 => ?_)
    · skip
      refine a_iconst (q := 794) (b2 false) dL_law_793 (by decide) rfl ?_
      refine a_aload_n (q := 795) dL_law_794 rfl rfl rfl ?_
      refine a_cHv (q := 798) _ dL_law_795 kL_137 (h1) rfl rfl (Nat.le_of_ble_eq_true rfl) ⟨(Nat.le_of_ble_eq_true rfl), (Nat.le_of_ble_eq_true rfl)⟩ ⟨by omega, by omega⟩ rfl ?_
      refine a_istore (q := 800) dL_law_798 (Nat.le_of_ble_eq_true rfl) rfl rfl ?_
      refine a_aload_n (q := 801) dL_law_800 rfl rfl rfl ?_
      refine a_aload_n (q := 802) dL_law_801 rfl rfl rfl ?_
      refine a_iload (q := 804) dL_law_802 rfl rfl ?_
      refine a_iconst (q := 805) (nI 1) dL_law_804 (by decide) rfl ?_
      refine a_iaddN (q := 806) dL_law_805 rfl ?_
      refine a_sldN (q := 807) dL_law_806 (by omega) hL rfl ?_
      refine a_if_eq (q := 810) 814 dL_law_807 (by decide) rfl (fun c807 => ?_) (fun c807 => ?_)
      · skip
        refine a_iconst (q := 815) (b2 false) dL_law_814 (by decide) rfl ?_
        refine a_callVB (q := 818) _ dL_law_815 kL_140 (h2) rfl rfl rfl (Nat.le_of_ble_eq_true rfl) ⟨(Nat.le_of_ble_eq_true rfl), (Nat.le_of_ble_eq_true rfl)⟩ ⟨by omega, by omega⟩ rfl (fun v9 z9 A9 B9 h9 => ?_) (fun E9 z9 A9 B9 h9 => h9.elim)
        obtain ⟨rfl, rfl, rfl, G9, T9, Y9, W9, R9, Z9, U9, L9, q9, rfl, n2⟩ := h9
        show AW _ _ _ _ _ _ _ _ _ _ (_ :: _) _ _ _
        refine a_istore (q := 820) dL_law_818 (Nat.le_of_ble_eq_true rfl) rfl rfl ?_
        refine a_aload_n (q := 821) dL_law_820 rfl rfl rfl ?_
        refine a_cVBv (q := 824) _ dL_law_821 kL_90 (m_thrown) rfl rfl rfl (Nat.le_of_ble_eq_true rfl) ⟨(Nat.le_of_ble_eq_true rfl), (Nat.le_of_ble_eq_true rfl)⟩ ⟨by omega, by omega⟩ rfl ?_
        refine a_iload (q := 826) dL_law_824 rfl rfl ?_
        refine a_icmp_eq (q := 829) 831 dL_law_826 (by decide) rfl (fun c826 => ?_) (fun c826 => ?_)
        · skip
          refine a_iload (q := 833) dL_law_831 rfl rfl ?_
          refine a_if_ne (q := 836) 848 dL_law_833 (by decide) rfl (fun c833 => ?_) (fun c833 => ?_)
          · skip
            refine a_goto 1425 dL_law_848 (by decide) ?_
            exact next _ _ _ _ _ _ _ _ _ n2 _ _ _
          · skip
            refine a_aload_n (q := 837) dL_law_836 rfl rfl rfl ?_
            refine a_iconst (q := 838) (nI 0) dL_law_837 (by decide) rfl ?_
            refine a_laldB (q := 839) dL_law_838 rfl vp_in01 rfl ?_
            refine a_iload (q := 841) dL_law_839 rfl rfl ?_
            refine a_i2l (q := 842) dL_law_841 rfl ?_
            refine a_lcmp (q := 843) dL_law_842 rfl ?_
            refine a_if_eq (q := 846) 848 dL_law_843 (by decide) rfl (fun c843 => ?_) (fun c843 => ?_)
            · skip
              refine a_goto 1425 dL_law_848 (by decide) ?_
              exact next _ _ _ _ _ _ _ _ _ n2 _ _ _
            · exact absurd ((lg_cmp_eq _ _).mpr (h3 (nI_z c833 hk))) c843
        · exact absurd rfl c826
      · exact absurd c807 (fun e9 => (of_decide_eq_false hb.symm) e9)
    · exact absurd c786 (fun e9 => (of_decide_eq_false hb.symm) e9)
theorem q_pathLength (r : Int32) (hj : 3 * j + 2 < g.2.2.2.2.2.1) (hL : g.2.2.2.2.2.1 ≤ 1536) (hkc : kc + 1 ≤ 1098) (hns : ns + 6 ≤ 10013) (hk : k < 3) (h1 : Ct g mL_pathLength [.ref (g.1 + 0), .int (g.2.2.2.2.2.2 (3 * j + 1)), .ref (g.2.1 + 23)] 0 A (BM g G T th Y W R Z U L h O) 1 6 (rP (some (.int (nI k))) A1 (BM g G T th Y W R Z U L h O1)) noX) (h2 : Ct g mX9_pathLength [.ref (g.2.1 + 0), .int (g.2.2.2.2.2.2 (3 * j + 1))] 0 A1 (BM g G T th Y W R Z U L h O1) 0 0 (rM g (some (.int r)) A1 k O1 N) noX) (h3 : k = 0 → O1.1 (nI 0).toNatClampNeg = r.toInt64) (next : ∀ G T Y W R Z U L h, N G T Y W → lwK g j (kc + 1) (ns + 6) A1 (BM g G T k Y W R Z U L h O1)) (L6 L7 L8 : Option Value) : AW g mL_law 1098 10013 lwP noX kc ns 851 [some (.ref g.2.2.2.2.1), some (.ref (g.1 + 0)), some (.ref (g.2.1 + 0)), some (.ref (g.2.1 + 23)), some (.ref (g.2.1 + 24)), some (.int (nI (3 * j))), L6, L7, L8] [] 0 A (BM g G T th Y W R Z U L h O) := by
  refine a_aload_n (q := 852) dL_law_851 rfl rfl rfl ?_
  refine a_aload_n (q := 853) dL_law_852 rfl rfl rfl ?_
  refine a_iload (q := 855) dL_law_853 rfl rfl ?_
  refine a_iconst (q := 856) (nI 1) dL_law_855 (by decide) rfl ?_
  refine a_iaddN (q := 857) dL_law_856 rfl ?_
  refine a_sldN (q := 858) dL_law_857 (by omega) hL rfl ?_
  refine a_aload_n (q := 859) dL_law_858 rfl rfl rfl ?_
  refine a_cHv (q := 862) _ dL_law_859 kL_141 (h1) rfl rfl (Nat.le_of_ble_eq_true rfl) ⟨(Nat.le_of_ble_eq_true rfl), (Nat.le_of_ble_eq_true rfl)⟩ ⟨by omega, by omega⟩ rfl ?_
  refine a_istore (q := 864) dL_law_862 (Nat.le_of_ble_eq_true rfl) rfl rfl ?_
  refine a_aload_n (q := 865) dL_law_864 rfl rfl rfl ?_
  refine a_aload_n (q := 866) dL_law_865 rfl rfl rfl ?_
  refine a_iload (q := 868) dL_law_866 rfl rfl ?_
  refine a_iconst (q := 869) (nI 1) dL_law_868 (by decide) rfl ?_
  refine a_iaddN (q := 870) dL_law_869 rfl ?_
  refine a_sldN (q := 871) dL_law_870 (by omega) hL rfl ?_
  refine a_callVB (q := 874) _ dL_law_871 kL_143 (h2) rfl rfl rfl (Nat.le_of_ble_eq_true rfl) ⟨(Nat.le_of_ble_eq_true rfl), (Nat.le_of_ble_eq_true rfl)⟩ ⟨by omega, by omega⟩ rfl (fun v9 z9 A9 B9 h9 => ?_) (fun E9 z9 A9 B9 h9 => h9.elim)
  obtain ⟨rfl, rfl, rfl, G9, T9, Y9, W9, R9, Z9, U9, L9, q9, rfl, n2⟩ := h9
  show AW _ _ _ _ _ _ _ _ _ _ (_ :: _) _ _ _
  refine a_istore (q := 876) dL_law_874 (Nat.le_of_ble_eq_true rfl) rfl rfl ?_
  refine a_aload_n (q := 877) dL_law_876 rfl rfl rfl ?_
  refine a_cVBv (q := 880) _ dL_law_877 kL_90 (m_thrown) rfl rfl rfl (Nat.le_of_ble_eq_true rfl) ⟨(Nat.le_of_ble_eq_true rfl), (Nat.le_of_ble_eq_true rfl)⟩ ⟨by omega, by omega⟩ rfl ?_
  refine a_iload (q := 882) dL_law_880 rfl rfl ?_
  refine a_icmp_eq (q := 885) 887 dL_law_882 (by decide) rfl (fun c882 => ?_) (fun c882 => ?_)
  · skip
    refine a_iload (q := 889) dL_law_887 rfl rfl ?_
    refine a_if_ne (q := 892) 904 dL_law_889 (by decide) rfl (fun c889 => ?_) (fun c889 => ?_)
    · skip
      refine a_goto 1425 dL_law_904 (by decide) ?_
      exact next _ _ _ _ _ _ _ _ _ n2 _ _ _
    · skip
      refine a_aload_n (q := 893) dL_law_892 rfl rfl rfl ?_
      refine a_iconst (q := 894) (nI 0) dL_law_893 (by decide) rfl ?_
      refine a_laldB (q := 895) dL_law_894 rfl vp_in01 rfl ?_
      refine a_iload (q := 897) dL_law_895 rfl rfl ?_
      refine a_i2l (q := 898) dL_law_897 rfl ?_
      refine a_lcmp (q := 899) dL_law_898 rfl ?_
      refine a_if_eq (q := 902) 904 dL_law_899 (by decide) rfl (fun c899 => ?_) (fun c899 => ?_)
      · skip
        refine a_goto 1425 dL_law_904 (by decide) ?_
        exact next _ _ _ _ _ _ _ _ _ n2 _ _ _
      · exact absurd ((lg_cmp_eq _ _).mpr (h3 (nI_z c889 hk))) c899
  · exact absurd rfl c882
theorem q_pathNode (r : Int32) (hj : 3 * j + 2 < g.2.2.2.2.2.1) (hL : g.2.2.2.2.2.1 ≤ 1536) (hkc : kc + 1 ≤ 1098) (hns : ns + 6 ≤ 10013) (hk : k < 3) (h1 : Ct g mL_pathNode [.ref (g.1 + 0), .int (g.2.2.2.2.2.2 (3 * j + 1)), .int (g.2.2.2.2.2.2 (3 * j + 2)), .ref (g.2.1 + 23)] 0 A (BM g G T th Y W R Z U L h O) 1 6 (rP (some (.int (nI k))) A1 (BM g G T th Y W R Z U L h O1)) noX) (h2 : Ct g mX9_pathNode [.ref (g.2.1 + 0), .int (g.2.2.2.2.2.2 (3 * j + 1)), .int (g.2.2.2.2.2.2 (3 * j + 2))] 0 A1 (BM g G T th Y W R Z U L h O1) 0 0 (rM g (some (.int r)) A1 k O1 N) noX) (h3 : k = 0 → O1.1 (nI 0).toNatClampNeg = r.toInt64) (next : ∀ G T Y W R Z U L h, N G T Y W → lwK g j (kc + 1) (ns + 6) A1 (BM g G T k Y W R Z U L h O1)) (L6 L7 L8 : Option Value) : AW g mL_law 1098 10013 lwP noX kc ns 907 [some (.ref g.2.2.2.2.1), some (.ref (g.1 + 0)), some (.ref (g.2.1 + 0)), some (.ref (g.2.1 + 23)), some (.ref (g.2.1 + 24)), some (.int (nI (3 * j))), L6, L7, L8] [] 0 A (BM g G T th Y W R Z U L h O) := by
  refine a_aload_n (q := 908) dL_law_907 rfl rfl rfl ?_
  refine a_aload_n (q := 909) dL_law_908 rfl rfl rfl ?_
  refine a_iload (q := 911) dL_law_909 rfl rfl ?_
  refine a_iconst (q := 912) (nI 1) dL_law_911 (by decide) rfl ?_
  refine a_iaddN (q := 913) dL_law_912 rfl ?_
  refine a_sldN (q := 914) dL_law_913 (by omega) hL rfl ?_
  refine a_aload_n (q := 915) dL_law_914 rfl rfl rfl ?_
  refine a_iload (q := 917) dL_law_915 rfl rfl ?_
  refine a_iconst (q := 918) (nI 2) dL_law_917 (by decide) rfl ?_
  refine a_iaddN (q := 919) dL_law_918 rfl ?_
  refine a_sldN (q := 920) dL_law_919 (by omega) hL rfl ?_
  refine a_aload_n (q := 921) dL_law_920 rfl rfl rfl ?_
  refine a_cHv (q := 924) _ dL_law_921 kL_144 (h1) rfl rfl (Nat.le_of_ble_eq_true rfl) ⟨(Nat.le_of_ble_eq_true rfl), (Nat.le_of_ble_eq_true rfl)⟩ ⟨by omega, by omega⟩ rfl ?_
  refine a_istore (q := 926) dL_law_924 (Nat.le_of_ble_eq_true rfl) rfl rfl ?_
  refine a_aload_n (q := 927) dL_law_926 rfl rfl rfl ?_
  refine a_aload_n (q := 928) dL_law_927 rfl rfl rfl ?_
  refine a_iload (q := 930) dL_law_928 rfl rfl ?_
  refine a_iconst (q := 931) (nI 1) dL_law_930 (by decide) rfl ?_
  refine a_iaddN (q := 932) dL_law_931 rfl ?_
  refine a_sldN (q := 933) dL_law_932 (by omega) hL rfl ?_
  refine a_aload_n (q := 934) dL_law_933 rfl rfl rfl ?_
  refine a_iload (q := 936) dL_law_934 rfl rfl ?_
  refine a_iconst (q := 937) (nI 2) dL_law_936 (by decide) rfl ?_
  refine a_iaddN (q := 938) dL_law_937 rfl ?_
  refine a_sldN (q := 939) dL_law_938 (by omega) hL rfl ?_
  refine a_callVB (q := 942) _ dL_law_939 kL_146 (h2) rfl rfl rfl (Nat.le_of_ble_eq_true rfl) ⟨(Nat.le_of_ble_eq_true rfl), (Nat.le_of_ble_eq_true rfl)⟩ ⟨by omega, by omega⟩ rfl (fun v9 z9 A9 B9 h9 => ?_) (fun E9 z9 A9 B9 h9 => h9.elim)
  obtain ⟨rfl, rfl, rfl, G9, T9, Y9, W9, R9, Z9, U9, L9, q9, rfl, n2⟩ := h9
  show AW _ _ _ _ _ _ _ _ _ _ (_ :: _) _ _ _
  refine a_istore (q := 944) dL_law_942 (Nat.le_of_ble_eq_true rfl) rfl rfl ?_
  refine a_aload_n (q := 945) dL_law_944 rfl rfl rfl ?_
  refine a_cVBv (q := 948) _ dL_law_945 kL_90 (m_thrown) rfl rfl rfl (Nat.le_of_ble_eq_true rfl) ⟨(Nat.le_of_ble_eq_true rfl), (Nat.le_of_ble_eq_true rfl)⟩ ⟨by omega, by omega⟩ rfl ?_
  refine a_iload (q := 950) dL_law_948 rfl rfl ?_
  refine a_icmp_eq (q := 953) 955 dL_law_950 (by decide) rfl (fun c950 => ?_) (fun c950 => ?_)
  · skip
    refine a_iload (q := 957) dL_law_955 rfl rfl ?_
    refine a_if_ne (q := 960) 972 dL_law_957 (by decide) rfl (fun c957 => ?_) (fun c957 => ?_)
    · skip
      refine a_goto 1425 dL_law_972 (by decide) ?_
      exact next _ _ _ _ _ _ _ _ _ n2 _ _ _
    · skip
      refine a_aload_n (q := 961) dL_law_960 rfl rfl rfl ?_
      refine a_iconst (q := 962) (nI 0) dL_law_961 (by decide) rfl ?_
      refine a_laldB (q := 963) dL_law_962 rfl vp_in01 rfl ?_
      refine a_iload (q := 965) dL_law_963 rfl rfl ?_
      refine a_i2l (q := 966) dL_law_965 rfl ?_
      refine a_lcmp (q := 967) dL_law_966 rfl ?_
      refine a_if_eq (q := 970) 972 dL_law_967 (by decide) rfl (fun c967 => ?_) (fun c967 => ?_)
      · skip
        refine a_goto 1425 dL_law_972 (by decide) ?_
        exact next _ _ _ _ _ _ _ _ _ n2 _ _ _
      · exact absurd ((lg_cmp_eq _ _).mpr (h3 (nI_z c957 hk))) c967
  · exact absurd rfl c950
theorem q_pathEdge (r : Int32) (b : Bool) (hb : b = decide (¬ (g.2.2.2.2.2.2 (3 * j + 2)) = 0)) (hj : 3 * j + 2 < g.2.2.2.2.2.1) (hL : g.2.2.2.2.2.1 ≤ 1536) (hkc : kc + 1 ≤ 1098) (hns : ns + 6 ≤ 10013) (hk : k < 3) (h1 : Ct g mL_pathEdge [.ref (g.1 + 0), .int (g.2.2.2.2.2.2 (3 * j + 1)), .int (b2 b), .ref (g.2.1 + 23)] 0 A (BM g G T th Y W R Z U L h O) 1 6 (rP (some (.int (nI k))) A1 (BM g G T th Y W R Z U L h O1)) noX) (h2 : Ct g mX9_pathEdge [.ref (g.2.1 + 0), .int (g.2.2.2.2.2.2 (3 * j + 1)), .int (b2 b)] 0 A1 (BM g G T th Y W R Z U L h O1) 0 0 (rM g (some (.int r)) A1 k O1 N) noX) (h3 : k = 0 → O1.1 (nI 0).toNatClampNeg = r.toInt64) (next : ∀ G T Y W R Z U L h, N G T Y W → lwK g j (kc + 1) (ns + 6) A1 (BM g G T k Y W R Z U L h O1)) (L6 L7 L8 : Option Value) : AW g mL_law 1098 10013 lwP noX kc ns 975 [some (.ref g.2.2.2.2.1), some (.ref (g.1 + 0)), some (.ref (g.2.1 + 0)), some (.ref (g.2.1 + 23)), some (.ref (g.2.1 + 24)), some (.int (nI (3 * j))), L6, L7, L8] [] 0 A (BM g G T th Y W R Z U L h O) := by
  cases b with
  | true =>
    refine a_aload_n (q := 976) dL_law_975 rfl rfl rfl ?_
    refine a_aload_n (q := 977) dL_law_976 rfl rfl rfl ?_
    refine a_iload (q := 979) dL_law_977 rfl rfl ?_
    refine a_iconst (q := 980) (nI 1) dL_law_979 (by decide) rfl ?_
    refine a_iaddN (q := 981) dL_law_980 rfl ?_
    refine a_sldN (q := 982) dL_law_981 (by omega) hL rfl ?_
    refine a_aload_n (q := 983) dL_law_982 rfl rfl rfl ?_
    refine a_iload (q := 985) dL_law_983 rfl rfl ?_
    refine a_iconst (q := 986) (nI 2) dL_law_985 (by decide) rfl ?_
    refine a_iaddN (q := 987) dL_law_986 rfl ?_
    refine a_sldN (q := 988) dL_law_987 (by omega) hL rfl ?_
    refine a_if_eq (q := 991) 995 dL_law_988 (by decide) rfl (fun c988 => ?_) (fun c988 => ?_)
    · exact absurd c988 (of_decide_eq_true hb.symm)
    · skip
      refine a_iconst (q := 992) (b2 true) dL_law_991 (by decide) rfl ?_
      refine a_goto 996 dL_law_992 (by decide) ?_
      refine a_aload_n (q := 997) dL_law_996 rfl rfl rfl ?_
      refine a_cHv (q := 1000) _ dL_law_997 kL_147 (h1) rfl rfl (Nat.le_of_ble_eq_true rfl) ⟨(Nat.le_of_ble_eq_true rfl), (Nat.le_of_ble_eq_true rfl)⟩ ⟨by omega, by omega⟩ rfl ?_
      refine a_istore (q := 1002) dL_law_1000 (Nat.le_of_ble_eq_true rfl) rfl rfl ?_
      refine a_aload_n (q := 1003) dL_law_1002 rfl rfl rfl ?_
      refine a_aload_n (q := 1004) dL_law_1003 rfl rfl rfl ?_
      refine a_iload (q := 1006) dL_law_1004 rfl rfl ?_
      refine a_iconst (q := 1007) (nI 1) dL_law_1006 (by decide) rfl ?_
      refine a_iaddN (q := 1008) dL_law_1007 rfl ?_
      refine a_sldN (q := 1009) dL_law_1008 (by omega) hL rfl ?_
      refine a_aload_n (q := 1010) dL_law_1009 rfl rfl rfl ?_
      refine a_iload (q := 1012) dL_law_1010 rfl rfl ?_
      refine a_iconst (q := 1013) (nI 2) dL_law_1012 (by decide) rfl ?_
      refine a_iaddN (q := 1014) dL_law_1013 rfl ?_
      refine a_sldN (q := 1015) dL_law_1014 (by omega) hL rfl ?_
      refine a_if_eq (q := 1018) 1022 dL_law_1015 (by decide) rfl (fun c1015 => ?_) (fun c1015 => ?_)
      · exact absurd c1015 (of_decide_eq_true hb.symm)
      · skip
        refine a_iconst (q := 1019) (b2 true) dL_law_1018 (by decide) rfl ?_
        refine a_goto 1023 dL_law_1019 (by decide) ?_
        refine a_callVB (q := 1026) _ dL_law_1023 kL_149 (h2) rfl rfl rfl (Nat.le_of_ble_eq_true rfl) ⟨(Nat.le_of_ble_eq_true rfl), (Nat.le_of_ble_eq_true rfl)⟩ ⟨by omega, by omega⟩ rfl (fun v9 z9 A9 B9 h9 => ?_) (fun E9 z9 A9 B9 h9 => h9.elim)
        obtain ⟨rfl, rfl, rfl, G9, T9, Y9, W9, R9, Z9, U9, L9, q9, rfl, n2⟩ := h9
        show AW _ _ _ _ _ _ _ _ _ _ (_ :: _) _ _ _
        refine a_istore (q := 1028) dL_law_1026 (Nat.le_of_ble_eq_true rfl) rfl rfl ?_
        refine a_aload_n (q := 1029) dL_law_1028 rfl rfl rfl ?_
        refine a_cVBv (q := 1032) _ dL_law_1029 kL_90 (m_thrown) rfl rfl rfl (Nat.le_of_ble_eq_true rfl) ⟨(Nat.le_of_ble_eq_true rfl), (Nat.le_of_ble_eq_true rfl)⟩ ⟨by omega, by omega⟩ rfl ?_
        refine a_iload (q := 1034) dL_law_1032 rfl rfl ?_
        refine a_icmp_eq (q := 1037) 1039 dL_law_1034 (by decide) rfl (fun c1034 => ?_) (fun c1034 => ?_)
        · skip
          refine a_iload (q := 1041) dL_law_1039 rfl rfl ?_
          refine a_if_ne (q := 1044) 1056 dL_law_1041 (by decide) rfl (fun c1041 => ?_) (fun c1041 => ?_)
          · skip
            refine a_goto 1425 dL_law_1056 (by decide) ?_
            exact next _ _ _ _ _ _ _ _ _ n2 _ _ _
          · skip
            refine a_aload_n (q := 1045) dL_law_1044 rfl rfl rfl ?_
            refine a_iconst (q := 1046) (nI 0) dL_law_1045 (by decide) rfl ?_
            refine a_laldB (q := 1047) dL_law_1046 rfl vp_in01 rfl ?_
            refine a_iload (q := 1049) dL_law_1047 rfl rfl ?_
            refine a_i2l (q := 1050) dL_law_1049 rfl ?_
            refine a_lcmp (q := 1051) dL_law_1050 rfl ?_
            refine a_if_eq (q := 1054) 1056 dL_law_1051 (by decide) rfl (fun c1051 => ?_) (fun c1051 => ?_)
            · skip
              refine a_goto 1425 dL_law_1056 (by decide) ?_
              exact next _ _ _ _ _ _ _ _ _ n2 _ _ _
            · exact absurd ((lg_cmp_eq _ _).mpr (h3 (nI_z c1041 hk))) c1051
        · exact absurd rfl c1034
  | false =>
    refine a_aload_n (q := 976) dL_law_975 rfl rfl rfl ?_
    refine a_aload_n (q := 977) dL_law_976 rfl rfl rfl ?_
    refine a_iload (q := 979) dL_law_977 rfl rfl ?_
    refine a_iconst (q := 980) (nI 1) dL_law_979 (by decide) rfl ?_
    refine a_iaddN (q := 981) dL_law_980 rfl ?_
    refine a_sldN (q := 982) dL_law_981 (by omega) hL rfl ?_
    refine a_aload_n (q := 983) dL_law_982 rfl rfl rfl ?_
    refine a_iload (q := 985) dL_law_983 rfl rfl ?_
    refine a_iconst (q := 986) (nI 2) dL_law_985 (by decide) rfl ?_
    refine a_iaddN (q := 987) dL_law_986 rfl ?_
    refine a_sldN (q := 988) dL_law_987 (by omega) hL rfl ?_
    refine a_if_eq (q := 991) 995 dL_law_988 (by decide) rfl (fun c988 => ?_) (fun c988 => ?_)
    · skip
      refine a_iconst (q := 996) (b2 false) dL_law_995 (by decide) rfl ?_
      refine a_aload_n (q := 997) dL_law_996 rfl rfl rfl ?_
      refine a_cHv (q := 1000) _ dL_law_997 kL_147 (h1) rfl rfl (Nat.le_of_ble_eq_true rfl) ⟨(Nat.le_of_ble_eq_true rfl), (Nat.le_of_ble_eq_true rfl)⟩ ⟨by omega, by omega⟩ rfl ?_
      refine a_istore (q := 1002) dL_law_1000 (Nat.le_of_ble_eq_true rfl) rfl rfl ?_
      refine a_aload_n (q := 1003) dL_law_1002 rfl rfl rfl ?_
      refine a_aload_n (q := 1004) dL_law_1003 rfl rfl rfl ?_
      refine a_iload (q := 1006) dL_law_1004 rfl rfl ?_
      refine a_iconst (q := 1007) (nI 1) dL_law_1006 (by decide) rfl ?_
      refine a_iaddN (q := 1008) dL_law_1007 rfl ?_
      refine a_sldN (q := 1009) dL_law_1008 (by omega) hL rfl ?_
      refine a_aload_n (q := 1010) dL_law_1009 rfl rfl rfl ?_
      refine a_iload (q := 1012) dL_law_1010 rfl rfl ?_
      refine a_iconst (q := 1013) (nI 2) dL_law_1012 (by decide) rfl ?_
      refine a_iaddN (q := 1014) dL_law_1013 rfl ?_
      refine a_sldN (q := 1015) dL_law_1014 (by omega) hL rfl ?_
      refine a_if_eq (q := 1018) 1022 dL_law_1015 (by decide) rfl (fun c1015 => ?_) (fun c1015 => ?_)
      · skip
        refine a_iconst (q := 1023) (b2 false) dL_law_1022 (by decide) rfl ?_
        refine a_callVB (q := 1026) _ dL_law_1023 kL_149 (h2) rfl rfl rfl (Nat.le_of_ble_eq_true rfl) ⟨(Nat.le_of_ble_eq_true rfl), (Nat.le_of_ble_eq_true rfl)⟩ ⟨by omega, by omega⟩ rfl (fun v9 z9 A9 B9 h9 => ?_) (fun E9 z9 A9 B9 h9 => h9.elim)
        obtain ⟨rfl, rfl, rfl, G9, T9, Y9, W9, R9, Z9, U9, L9, q9, rfl, n2⟩ := h9
        show AW _ _ _ _ _ _ _ _ _ _ (_ :: _) _ _ _
        refine a_istore (q := 1028) dL_law_1026 (Nat.le_of_ble_eq_true rfl) rfl rfl ?_
        refine a_aload_n (q := 1029) dL_law_1028 rfl rfl rfl ?_
        refine a_cVBv (q := 1032) _ dL_law_1029 kL_90 (m_thrown) rfl rfl rfl (Nat.le_of_ble_eq_true rfl) ⟨(Nat.le_of_ble_eq_true rfl), (Nat.le_of_ble_eq_true rfl)⟩ ⟨by omega, by omega⟩ rfl ?_
        refine a_iload (q := 1034) dL_law_1032 rfl rfl ?_
        refine a_icmp_eq (q := 1037) 1039 dL_law_1034 (by decide) rfl (fun c1034 => ?_) (fun c1034 => ?_)
        · skip
          refine a_iload (q := 1041) dL_law_1039 rfl rfl ?_
          refine a_if_ne (q := 1044) 1056 dL_law_1041 (by decide) rfl (fun c1041 => ?_) (fun c1041 => ?_)
          · skip
            refine a_goto 1425 dL_law_1056 (by decide) ?_
            exact next _ _ _ _ _ _ _ _ _ n2 _ _ _
          · skip
            refine a_aload_n (q := 1045) dL_law_1044 rfl rfl rfl ?_
            refine a_iconst (q := 1046) (nI 0) dL_law_1045 (by decide) rfl ?_
            refine a_laldB (q := 1047) dL_law_1046 rfl vp_in01 rfl ?_
            refine a_iload (q := 1049) dL_law_1047 rfl rfl ?_
            refine a_i2l (q := 1050) dL_law_1049 rfl ?_
            refine a_lcmp (q := 1051) dL_law_1050 rfl ?_
            refine a_if_eq (q := 1054) 1056 dL_law_1051 (by decide) rfl (fun c1051 => ?_) (fun c1051 => ?_)
            · skip
              refine a_goto 1425 dL_law_1056 (by decide) ?_
              exact next _ _ _ _ _ _ _ _ _ n2 _ _ _
            · exact absurd ((lg_cmp_eq _ _).mpr (h3 (nI_z c1041 hk))) c1051
        · exact absurd rfl c1034
      · exact absurd c1015 (fun e9 => (of_decide_eq_false hb.symm) e9)
    · exact absurd c988 (fun e9 => (of_decide_eq_false hb.symm) e9)
theorem q_findPath (r : Int32) (hj : 3 * j + 2 < g.2.2.2.2.2.1) (hL : g.2.2.2.2.2.1 ≤ 1536) (hkc : kc + 1 ≤ 1098) (hns : ns + 6 ≤ 10013) (hk : k < 3) (h1 : Ct g mL_findPath [.ref (g.1 + 0), .ref (g.2.1 + 23)] 0 A (BM g G T th Y W R Z U L h O) 1 6 (rP (some (.int (nI k))) A1 (BM g G T th Y W R Z U L h O1)) noX) (h2 : Ct g mX9_findPath [.ref (g.2.1 + 0)] 0 A1 (BM g G T th Y W R Z U L h O1) 0 0 (rM g (some (.int r)) A1 k O1 N) noX) (h3 : k = 0 → O1.1 (nI 0).toNatClampNeg = r.toInt64) (next : ∀ G T Y W R Z U L h, N G T Y W → lwK g j (kc + 1) (ns + 6) A1 (BM g G T k Y W R Z U L h O1)) (L6 L7 L8 : Option Value) : AW g mL_law 1098 10013 lwP noX kc ns 1059 [some (.ref g.2.2.2.2.1), some (.ref (g.1 + 0)), some (.ref (g.2.1 + 0)), some (.ref (g.2.1 + 23)), some (.ref (g.2.1 + 24)), some (.int (nI (3 * j))), L6, L7, L8] [] 0 A (BM g G T th Y W R Z U L h O) := by
  refine a_aload_n (q := 1060) dL_law_1059 rfl rfl rfl ?_
  refine a_aload_n (q := 1061) dL_law_1060 rfl rfl rfl ?_
  refine a_cHv (q := 1064) _ dL_law_1061 kL_150 (h1) rfl rfl (Nat.le_of_ble_eq_true rfl) ⟨(Nat.le_of_ble_eq_true rfl), (Nat.le_of_ble_eq_true rfl)⟩ ⟨by omega, by omega⟩ rfl ?_
  refine a_istore (q := 1066) dL_law_1064 (Nat.le_of_ble_eq_true rfl) rfl rfl ?_
  refine a_aload_n (q := 1067) dL_law_1066 rfl rfl rfl ?_
  refine a_callVB (q := 1070) _ dL_law_1067 kL_152 (h2) rfl rfl rfl (Nat.le_of_ble_eq_true rfl) ⟨(Nat.le_of_ble_eq_true rfl), (Nat.le_of_ble_eq_true rfl)⟩ ⟨by omega, by omega⟩ rfl (fun v9 z9 A9 B9 h9 => ?_) (fun E9 z9 A9 B9 h9 => h9.elim)
  obtain ⟨rfl, rfl, rfl, G9, T9, Y9, W9, R9, Z9, U9, L9, q9, rfl, n2⟩ := h9
  show AW _ _ _ _ _ _ _ _ _ _ (_ :: _) _ _ _
  refine a_istore (q := 1072) dL_law_1070 (Nat.le_of_ble_eq_true rfl) rfl rfl ?_
  refine a_aload_n (q := 1073) dL_law_1072 rfl rfl rfl ?_
  refine a_cVBv (q := 1076) _ dL_law_1073 kL_90 (m_thrown) rfl rfl rfl (Nat.le_of_ble_eq_true rfl) ⟨(Nat.le_of_ble_eq_true rfl), (Nat.le_of_ble_eq_true rfl)⟩ ⟨by omega, by omega⟩ rfl ?_
  refine a_iload (q := 1078) dL_law_1076 rfl rfl ?_
  refine a_icmp_eq (q := 1081) 1083 dL_law_1078 (by decide) rfl (fun c1078 => ?_) (fun c1078 => ?_)
  · skip
    refine a_iload (q := 1085) dL_law_1083 rfl rfl ?_
    refine a_if_ne (q := 1088) 1100 dL_law_1085 (by decide) rfl (fun c1085 => ?_) (fun c1085 => ?_)
    · skip
      refine a_goto 1425 dL_law_1100 (by decide) ?_
      exact next _ _ _ _ _ _ _ _ _ n2 _ _ _
    · skip
      refine a_aload_n (q := 1089) dL_law_1088 rfl rfl rfl ?_
      refine a_iconst (q := 1090) (nI 0) dL_law_1089 (by decide) rfl ?_
      refine a_laldB (q := 1091) dL_law_1090 rfl vp_in01 rfl ?_
      refine a_iload (q := 1093) dL_law_1091 rfl rfl ?_
      refine a_i2l (q := 1094) dL_law_1093 rfl ?_
      refine a_lcmp (q := 1095) dL_law_1094 rfl ?_
      refine a_if_eq (q := 1098) 1100 dL_law_1095 (by decide) rfl (fun c1095 => ?_) (fun c1095 => ?_)
      · skip
        refine a_goto 1425 dL_law_1100 (by decide) ?_
        exact next _ _ _ _ _ _ _ _ _ n2 _ _ _
      · exact absurd ((lg_cmp_eq _ _).mpr (h3 (nI_z c1085 hk))) c1095
  · exact absurd rfl c1078
theorem q_start (hj : 3 * j + 2 < g.2.2.2.2.2.1) (hL : g.2.2.2.2.2.1 ≤ 1536) (hkc : kc + 1 ≤ 1098) (hns : ns + 6 ≤ 10013) (hk : k < 3) (h1 : Ct g mL_start [.ref (g.1 + 0)] 0 A (BM g G T th Y W R Z U L h O) 1 6 (rP (some (.int (nI k))) A1 (BM g G T th Y W R Z U L h O1)) noX) (h2 : Ct g mX9_start [.ref (g.2.1 + 0)] 0 A1 (BM g G T th Y W R Z U L h O1) 0 0 (rM g none A1 k O1 N) noX) (next : ∀ G T Y W R Z U L h, N G T Y W → lwK g j (kc + 1) (ns + 6) A1 (BM g G T k Y W R Z U L h O1)) (L6 L7 L8 : Option Value) : AW g mL_law 1098 10013 lwP noX kc ns 1103 [some (.ref g.2.2.2.2.1), some (.ref (g.1 + 0)), some (.ref (g.2.1 + 0)), some (.ref (g.2.1 + 23)), some (.ref (g.2.1 + 24)), some (.int (nI (3 * j))), L6, L7, L8] [] 0 A (BM g G T th Y W R Z U L h O) := by
  refine a_aload_n (q := 1104) dL_law_1103 rfl rfl rfl ?_
  refine a_cHv (q := 1107) _ dL_law_1104 kL_153 (h1) rfl rfl (Nat.le_of_ble_eq_true rfl) ⟨(Nat.le_of_ble_eq_true rfl), (Nat.le_of_ble_eq_true rfl)⟩ ⟨by omega, by omega⟩ rfl ?_
  refine a_istore (q := 1109) dL_law_1107 (Nat.le_of_ble_eq_true rfl) rfl rfl ?_
  refine a_aload_n (q := 1110) dL_law_1109 rfl rfl rfl ?_
  refine a_callVB (q := 1113) _ dL_law_1110 kL_156 (h2) rfl rfl rfl (Nat.le_of_ble_eq_true rfl) ⟨(Nat.le_of_ble_eq_true rfl), (Nat.le_of_ble_eq_true rfl)⟩ ⟨by omega, by omega⟩ rfl (fun v9 z9 A9 B9 h9 => ?_) (fun E9 z9 A9 B9 h9 => h9.elim)
  obtain ⟨rfl, rfl, rfl, G9, T9, Y9, W9, R9, Z9, U9, L9, q9, rfl, n2⟩ := h9
  show AW _ _ _ _ _ _ _ _ _ _ [] _ _ _
  refine a_aload_n (q := 1114) dL_law_1113 rfl rfl rfl ?_
  refine a_cVBv (q := 1117) _ dL_law_1114 kL_90 (m_thrown) rfl rfl rfl (Nat.le_of_ble_eq_true rfl) ⟨(Nat.le_of_ble_eq_true rfl), (Nat.le_of_ble_eq_true rfl)⟩ ⟨by omega, by omega⟩ rfl ?_
  refine a_iload (q := 1119) dL_law_1117 rfl rfl ?_
  refine a_icmp_eq (q := 1122) 1124 dL_law_1119 (by decide) rfl (fun c1119 => ?_) (fun c1119 => ?_)
  · skip
    refine a_goto 1425 dL_law_1124 (by decide) ?_
    exact next _ _ _ _ _ _ _ _ _ n2 _ _ _
  · exact absurd rfl c1119
theorem q_step (r : Int32) (hj : 3 * j + 2 < g.2.2.2.2.2.1) (hL : g.2.2.2.2.2.1 ≤ 1536) (hkc : kc + 1 ≤ 1098) (hns : ns + 6 ≤ 10013) (hk : k < 3) (h1 : Ct g mL_step [.ref (g.1 + 0), .int (g.2.2.2.2.2.2 (3 * j + 1)), .ref (g.2.1 + 23)] 0 A (BM g G T th Y W R Z U L h O) 1 6 (rP (some (.int (nI k))) A1 (BM g G T th Y W R Z U L h O1)) noX) (h2 : Ct g mX9_step [.ref (g.2.1 + 0), .int (g.2.2.2.2.2.2 (3 * j + 1))] 0 A1 (BM g G T th Y W R Z U L h O1) 0 0 (rM g (some (.int r)) A1 k O1 N) noX) (h3 : k = 0 → O1.1 (nI 0).toNatClampNeg = r.toInt64) (next : ∀ G T Y W R Z U L h, N G T Y W → lwK g j (kc + 1) (ns + 6) A1 (BM g G T k Y W R Z U L h O1)) (L6 L7 L8 : Option Value) : AW g mL_law 1098 10013 lwP noX kc ns 1127 [some (.ref g.2.2.2.2.1), some (.ref (g.1 + 0)), some (.ref (g.2.1 + 0)), some (.ref (g.2.1 + 23)), some (.ref (g.2.1 + 24)), some (.int (nI (3 * j))), L6, L7, L8] [] 0 A (BM g G T th Y W R Z U L h O) := by
  refine a_aload_n (q := 1128) dL_law_1127 rfl rfl rfl ?_
  refine a_aload_n (q := 1129) dL_law_1128 rfl rfl rfl ?_
  refine a_iload (q := 1131) dL_law_1129 rfl rfl ?_
  refine a_iconst (q := 1132) (nI 1) dL_law_1131 (by decide) rfl ?_
  refine a_iaddN (q := 1133) dL_law_1132 rfl ?_
  refine a_sldN (q := 1134) dL_law_1133 (by omega) hL rfl ?_
  refine a_aload_n (q := 1135) dL_law_1134 rfl rfl rfl ?_
  refine a_cHv (q := 1138) _ dL_law_1135 kL_157 (h1) rfl rfl (Nat.le_of_ble_eq_true rfl) ⟨(Nat.le_of_ble_eq_true rfl), (Nat.le_of_ble_eq_true rfl)⟩ ⟨by omega, by omega⟩ rfl ?_
  refine a_istore (q := 1140) dL_law_1138 (Nat.le_of_ble_eq_true rfl) rfl rfl ?_
  refine a_aload_n (q := 1141) dL_law_1140 rfl rfl rfl ?_
  refine a_aload_n (q := 1142) dL_law_1141 rfl rfl rfl ?_
  refine a_iload (q := 1144) dL_law_1142 rfl rfl ?_
  refine a_iconst (q := 1145) (nI 1) dL_law_1144 (by decide) rfl ?_
  refine a_iaddN (q := 1146) dL_law_1145 rfl ?_
  refine a_sldN (q := 1147) dL_law_1146 (by omega) hL rfl ?_
  refine a_callVB (q := 1150) _ dL_law_1147 kL_159 (h2) rfl rfl rfl (Nat.le_of_ble_eq_true rfl) ⟨(Nat.le_of_ble_eq_true rfl), (Nat.le_of_ble_eq_true rfl)⟩ ⟨by omega, by omega⟩ rfl (fun v9 z9 A9 B9 h9 => ?_) (fun E9 z9 A9 B9 h9 => h9.elim)
  obtain ⟨rfl, rfl, rfl, G9, T9, Y9, W9, R9, Z9, U9, L9, q9, rfl, n2⟩ := h9
  show AW _ _ _ _ _ _ _ _ _ _ (_ :: _) _ _ _
  refine a_istore (q := 1152) dL_law_1150 (Nat.le_of_ble_eq_true rfl) rfl rfl ?_
  refine a_aload_n (q := 1153) dL_law_1152 rfl rfl rfl ?_
  refine a_cVBv (q := 1156) _ dL_law_1153 kL_90 (m_thrown) rfl rfl rfl (Nat.le_of_ble_eq_true rfl) ⟨(Nat.le_of_ble_eq_true rfl), (Nat.le_of_ble_eq_true rfl)⟩ ⟨by omega, by omega⟩ rfl ?_
  refine a_iload (q := 1158) dL_law_1156 rfl rfl ?_
  refine a_icmp_eq (q := 1161) 1163 dL_law_1158 (by decide) rfl (fun c1158 => ?_) (fun c1158 => ?_)
  · skip
    refine a_iload (q := 1165) dL_law_1163 rfl rfl ?_
    refine a_if_ne (q := 1168) 1180 dL_law_1165 (by decide) rfl (fun c1165 => ?_) (fun c1165 => ?_)
    · skip
      refine a_goto 1425 dL_law_1180 (by decide) ?_
      exact next _ _ _ _ _ _ _ _ _ n2 _ _ _
    · skip
      refine a_aload_n (q := 1169) dL_law_1168 rfl rfl rfl ?_
      refine a_iconst (q := 1170) (nI 0) dL_law_1169 (by decide) rfl ?_
      refine a_laldB (q := 1171) dL_law_1170 rfl vp_in01 rfl ?_
      refine a_iload (q := 1173) dL_law_1171 rfl rfl ?_
      refine a_i2l (q := 1174) dL_law_1173 rfl ?_
      refine a_lcmp (q := 1175) dL_law_1174 rfl ?_
      refine a_if_eq (q := 1178) 1180 dL_law_1175 (by decide) rfl (fun c1175 => ?_) (fun c1175 => ?_)
      · skip
        refine a_goto 1425 dL_law_1180 (by decide) ?_
        exact next _ _ _ _ _ _ _ _ _ n2 _ _ _
      · exact absurd ((lg_cmp_eq _ _).mpr (h3 (nI_z c1165 hk))) c1175
  · exact absurd rfl c1158
theorem q_current {Nc : List va_E → Prop} {fs : List Value} (r : Int32) (hA : A[0]? = some (.inr (8, fs))) (hkc : kc ≤ 1098) (hns : ns ≤ 10013) (h1 : Ct g mX8_current [.ref (g.1 + 0)] 0 A (BM g G T th Y W R Z U L h O) 0 0 (rC (some (.int r)) (BM g G T th Y W R Z U L h O) Nc) noX) (h2 : ∀ A1, Nc A1 → Ct g mX9_current [.ref (g.2.1 + 0)] 0 A1 (BM g G T th Y W R Z U L h O) 0 0 (rM g (some (.int r)) A1 0 O N) noX) (next : ∀ A1 G T Y W R Z U L h, Nc A1 → N G T Y W → lwK g j kc ns A1 (BM g G T 0 Y W R Z U L h O)) (L6 L7 L8 : Option Value) : AW g mL_law 1098 10013 lwP noX kc ns 1183 [some (.ref g.2.2.2.2.1), some (.ref (g.1 + 0)), some (.ref (g.2.1 + 0)), some (.ref (g.2.1 + 23)), some (.ref (g.2.1 + 24)), some (.int (nI (3 * j))), L6, L7, L8] [] 0 A (BM g G T th Y W R Z U L h O) := by
  refine a_aload_n (q := 1184) dL_law_1183 rfl rfl rfl ?_
  refine a_callVA (q := 1187) _ dL_law_1184 kL_160 (h1) hA rfl rfl (Nat.le_of_ble_eq_true rfl) ⟨(Nat.le_of_ble_eq_true rfl), (Nat.le_of_ble_eq_true rfl)⟩ ⟨by omega, by omega⟩ rfl (fun v9 z9 A9 B9 h9 => ?_) (fun E9 z9 A9 B9 h9 => h9.elim)
  obtain ⟨rfl, rfl, rfl, n1⟩ := h9
  show AW _ _ _ _ _ _ _ _ _ _ (_ :: _) _ _ _
  refine a_aload_n (q := 1188) dL_law_1187 rfl rfl rfl ?_
  refine a_callVB (q := 1191) _ dL_law_1188 kL_163 (h2 _ n1) rfl rfl rfl (Nat.le_of_ble_eq_true rfl) ⟨(Nat.le_of_ble_eq_true rfl), (Nat.le_of_ble_eq_true rfl)⟩ ⟨by omega, by omega⟩ rfl (fun v9 z9 A9 B9 h9 => ?_) (fun E9 z9 A9 B9 h9 => h9.elim)
  obtain ⟨rfl, rfl, rfl, G9, T9, Y9, W9, R9, Z9, U9, L9, q9, rfl, n2⟩ := h9
  show AW _ _ _ _ _ _ _ _ _ _ (_ :: _) _ _ _
  refine a_icmp_eq (q := 1194) 1425 dL_law_1191 (by decide) rfl (fun c1191 => ?_) (fun c1191 => ?_)
  · skip
    exact next _ _ _ _ _ _ _ _ _ _ n1 n2 _ _ _
  · exact absurd rfl c1191
theorem q_register {Nc : List va_E → Prop} {fs : List Value} (r : Int32) (hA : A[0]? = some (.inr (8, fs))) (hkc : kc ≤ 1098) (hns : ns ≤ 10013) (h1 : Ct g mX8_register [.ref (g.1 + 0)] 0 A (BM g G T th Y W R Z U L h O) 0 0 (rC (some (.int r)) (BM g G T th Y W R Z U L h O) Nc) noX) (h2 : ∀ A1, Nc A1 → Ct g mX9_register [.ref (g.2.1 + 0)] 0 A1 (BM g G T th Y W R Z U L h O) 0 0 (rM g (some (.int r)) A1 0 O N) noX) (next : ∀ A1 G T Y W R Z U L h, Nc A1 → N G T Y W → lwK g j kc ns A1 (BM g G T 0 Y W R Z U L h O)) (L6 L7 L8 : Option Value) : AW g mL_law 1098 10013 lwP noX kc ns 1196 [some (.ref g.2.2.2.2.1), some (.ref (g.1 + 0)), some (.ref (g.2.1 + 0)), some (.ref (g.2.1 + 23)), some (.ref (g.2.1 + 24)), some (.int (nI (3 * j))), L6, L7, L8] [] 0 A (BM g G T th Y W R Z U L h O) := by
  refine a_aload_n (q := 1197) dL_law_1196 rfl rfl rfl ?_
  refine a_callVA (q := 1200) _ dL_law_1197 kL_164 (h1) hA rfl rfl (Nat.le_of_ble_eq_true rfl) ⟨(Nat.le_of_ble_eq_true rfl), (Nat.le_of_ble_eq_true rfl)⟩ ⟨by omega, by omega⟩ rfl (fun v9 z9 A9 B9 h9 => ?_) (fun E9 z9 A9 B9 h9 => h9.elim)
  obtain ⟨rfl, rfl, rfl, n1⟩ := h9
  show AW _ _ _ _ _ _ _ _ _ _ (_ :: _) _ _ _
  refine a_aload_n (q := 1201) dL_law_1200 rfl rfl rfl ?_
  refine a_callVB (q := 1204) _ dL_law_1201 kL_167 (h2 _ n1) rfl rfl rfl (Nat.le_of_ble_eq_true rfl) ⟨(Nat.le_of_ble_eq_true rfl), (Nat.le_of_ble_eq_true rfl)⟩ ⟨by omega, by omega⟩ rfl (fun v9 z9 A9 B9 h9 => ?_) (fun E9 z9 A9 B9 h9 => h9.elim)
  obtain ⟨rfl, rfl, rfl, G9, T9, Y9, W9, R9, Z9, U9, L9, q9, rfl, n2⟩ := h9
  show AW _ _ _ _ _ _ _ _ _ _ (_ :: _) _ _ _
  refine a_icmp_eq (q := 1207) 1425 dL_law_1204 (by decide) rfl (fun c1204 => ?_) (fun c1204 => ?_)
  · skip
    exact next _ _ _ _ _ _ _ _ _ _ n1 n2 _ _ _
  · exact absurd rfl c1204
theorem q_count (r : Int32) (hj : 3 * j + 2 < g.2.2.2.2.2.1) (hL : g.2.2.2.2.2.1 ≤ 1536) (hkc : kc + 1 ≤ 1098) (hns : ns + 6 ≤ 10013) (hk : k < 3) (h1 : Ct g mL_count [.ref (g.1 + 0), .int (g.2.2.2.2.2.2 (3 * j + 1)), .ref (g.2.1 + 23)] 0 A (BM g G T th Y W R Z U L h O) 1 6 (rP (some (.int (nI k))) A1 (BM g G T th Y W R Z U L h O1)) noX) (h2 : Ct g mX9_count [.ref (g.2.1 + 0), .int (g.2.2.2.2.2.2 (3 * j + 1))] 0 A1 (BM g G T th Y W R Z U L h O1) 0 0 (rM g (some (.int r)) A1 k O1 N) noX) (h3 : k = 0 → O1.1 (nI 0).toNatClampNeg = r.toInt64) (next : ∀ G T Y W R Z U L h, N G T Y W → lwK g j (kc + 1) (ns + 6) A1 (BM g G T k Y W R Z U L h O1)) (L6 L7 L8 : Option Value) : AW g mL_law 1098 10013 lwP noX kc ns 1209 [some (.ref g.2.2.2.2.1), some (.ref (g.1 + 0)), some (.ref (g.2.1 + 0)), some (.ref (g.2.1 + 23)), some (.ref (g.2.1 + 24)), some (.int (nI (3 * j))), L6, L7, L8] [] 0 A (BM g G T th Y W R Z U L h O) := by
  refine a_aload_n (q := 1210) dL_law_1209 rfl rfl rfl ?_
  refine a_aload_n (q := 1211) dL_law_1210 rfl rfl rfl ?_
  refine a_iload (q := 1213) dL_law_1211 rfl rfl ?_
  refine a_iconst (q := 1214) (nI 1) dL_law_1213 (by decide) rfl ?_
  refine a_iaddN (q := 1215) dL_law_1214 rfl ?_
  refine a_sldN (q := 1216) dL_law_1215 (by omega) hL rfl ?_
  refine a_aload_n (q := 1217) dL_law_1216 rfl rfl rfl ?_
  refine a_cHv (q := 1220) _ dL_law_1217 kL_168 (h1) rfl rfl (Nat.le_of_ble_eq_true rfl) ⟨(Nat.le_of_ble_eq_true rfl), (Nat.le_of_ble_eq_true rfl)⟩ ⟨by omega, by omega⟩ rfl ?_
  refine a_istore (q := 1222) dL_law_1220 (Nat.le_of_ble_eq_true rfl) rfl rfl ?_
  refine a_aload_n (q := 1223) dL_law_1222 rfl rfl rfl ?_
  refine a_aload_n (q := 1224) dL_law_1223 rfl rfl rfl ?_
  refine a_iload (q := 1226) dL_law_1224 rfl rfl ?_
  refine a_iconst (q := 1227) (nI 1) dL_law_1226 (by decide) rfl ?_
  refine a_iaddN (q := 1228) dL_law_1227 rfl ?_
  refine a_sldN (q := 1229) dL_law_1228 (by omega) hL rfl ?_
  refine a_callVB (q := 1232) _ dL_law_1229 kL_170 (h2) rfl rfl rfl (Nat.le_of_ble_eq_true rfl) ⟨(Nat.le_of_ble_eq_true rfl), (Nat.le_of_ble_eq_true rfl)⟩ ⟨by omega, by omega⟩ rfl (fun v9 z9 A9 B9 h9 => ?_) (fun E9 z9 A9 B9 h9 => h9.elim)
  obtain ⟨rfl, rfl, rfl, G9, T9, Y9, W9, R9, Z9, U9, L9, q9, rfl, n2⟩ := h9
  show AW _ _ _ _ _ _ _ _ _ _ (_ :: _) _ _ _
  refine a_istore (q := 1234) dL_law_1232 (Nat.le_of_ble_eq_true rfl) rfl rfl ?_
  refine a_aload_n (q := 1235) dL_law_1234 rfl rfl rfl ?_
  refine a_cVBv (q := 1238) _ dL_law_1235 kL_90 (m_thrown) rfl rfl rfl (Nat.le_of_ble_eq_true rfl) ⟨(Nat.le_of_ble_eq_true rfl), (Nat.le_of_ble_eq_true rfl)⟩ ⟨by omega, by omega⟩ rfl ?_
  refine a_iload (q := 1240) dL_law_1238 rfl rfl ?_
  refine a_icmp_eq (q := 1243) 1245 dL_law_1240 (by decide) rfl (fun c1240 => ?_) (fun c1240 => ?_)
  · skip
    refine a_iload (q := 1247) dL_law_1245 rfl rfl ?_
    refine a_if_ne (q := 1250) 1262 dL_law_1247 (by decide) rfl (fun c1247 => ?_) (fun c1247 => ?_)
    · skip
      refine a_goto 1425 dL_law_1262 (by decide) ?_
      exact next _ _ _ _ _ _ _ _ _ n2 _ _ _
    · skip
      refine a_aload_n (q := 1251) dL_law_1250 rfl rfl rfl ?_
      refine a_iconst (q := 1252) (nI 0) dL_law_1251 (by decide) rfl ?_
      refine a_laldB (q := 1253) dL_law_1252 rfl vp_in01 rfl ?_
      refine a_iload (q := 1255) dL_law_1253 rfl rfl ?_
      refine a_i2l (q := 1256) dL_law_1255 rfl ?_
      refine a_lcmp (q := 1257) dL_law_1256 rfl ?_
      refine a_if_eq (q := 1260) 1262 dL_law_1257 (by decide) rfl (fun c1257 => ?_) (fun c1257 => ?_)
      · skip
        refine a_goto 1425 dL_law_1262 (by decide) ?_
        exact next _ _ _ _ _ _ _ _ _ n2 _ _ _
      · exact absurd ((lg_cmp_eq _ _).mpr (h3 (nI_z c1247 hk))) c1257
  · exact absurd rfl c1240
theorem q_share (r : UInt64) (hj : 3 * j + 2 < g.2.2.2.2.2.1) (hL : g.2.2.2.2.2.1 ≤ 1536) (hkc : kc + 1 ≤ 1098) (hns : ns + 6 ≤ 10013) (hk : k < 3) (h1 : Ct g mL_share [.ref (g.1 + 0), .int (g.2.2.2.2.2.2 (3 * j + 1)), .ref (g.2.1 + 24)] 0 A (BM g G T th Y W R Z U L h O) 1 6 (rP (some (.int (nI k))) A1 (BM g G T th Y W R Z U L h O1)) noX) (h2 : Ct g mX9_share [.ref (g.2.1 + 0), .int (g.2.2.2.2.2.2 (3 * j + 1))] 0 A1 (BM g G T th Y W R Z U L h O1) 0 0 (rM g (some (.double r)) A1 k O1 N) noX) (h3 : k = 0 → O1.2 (nI 0).toNatClampNeg = r) (next : ∀ G T Y W R Z U L h, N G T Y W → lwK g j (kc + 1) (ns + 6) A1 (BM g G T k Y W R Z U L h O1)) (L6 L7 L8 : Option Value) : AW g mL_law 1098 10013 lwP noX kc ns 1265 [some (.ref g.2.2.2.2.1), some (.ref (g.1 + 0)), some (.ref (g.2.1 + 0)), some (.ref (g.2.1 + 23)), some (.ref (g.2.1 + 24)), some (.int (nI (3 * j))), L6, L7, L8] [] 0 A (BM g G T th Y W R Z U L h O) := by
  refine a_aload_n (q := 1266) dL_law_1265 rfl rfl rfl ?_
  refine a_aload_n (q := 1267) dL_law_1266 rfl rfl rfl ?_
  refine a_iload (q := 1269) dL_law_1267 rfl rfl ?_
  refine a_iconst (q := 1270) (nI 1) dL_law_1269 (by decide) rfl ?_
  refine a_iaddN (q := 1271) dL_law_1270 rfl ?_
  refine a_sldN (q := 1272) dL_law_1271 (by omega) hL rfl ?_
  refine a_aload (q := 1274) dL_law_1272 rfl rfl ?_
  refine a_cHv (q := 1277) _ dL_law_1274 kL_171 (h1) rfl rfl (Nat.le_of_ble_eq_true rfl) ⟨(Nat.le_of_ble_eq_true rfl), (Nat.le_of_ble_eq_true rfl)⟩ ⟨by omega, by omega⟩ rfl ?_
  refine a_istore (q := 1279) dL_law_1277 (Nat.le_of_ble_eq_true rfl) rfl rfl ?_
  refine a_aload_n (q := 1280) dL_law_1279 rfl rfl rfl ?_
  refine a_aload_n (q := 1281) dL_law_1280 rfl rfl rfl ?_
  refine a_iload (q := 1283) dL_law_1281 rfl rfl ?_
  refine a_iconst (q := 1284) (nI 1) dL_law_1283 (by decide) rfl ?_
  refine a_iaddN (q := 1285) dL_law_1284 rfl ?_
  refine a_sldN (q := 1286) dL_law_1285 (by omega) hL rfl ?_
  refine a_callVB (q := 1289) _ dL_law_1286 kL_174 (h2) rfl rfl rfl (Nat.le_of_ble_eq_true rfl) ⟨(Nat.le_of_ble_eq_true rfl), (Nat.le_of_ble_eq_true rfl)⟩ ⟨by omega, by omega⟩ rfl (fun v9 z9 A9 B9 h9 => ?_) (fun E9 z9 A9 B9 h9 => h9.elim)
  obtain ⟨rfl, rfl, rfl, G9, T9, Y9, W9, R9, Z9, U9, L9, q9, rfl, n2⟩ := h9
  show AW _ _ _ _ _ _ _ _ _ _ (_ :: _) _ _ _
  refine a_dstore (q := 1291) dL_law_1289 (Nat.le_of_ble_eq_true rfl) rfl rfl ?_
  refine a_aload_n (q := 1292) dL_law_1291 rfl rfl rfl ?_
  refine a_cVBv (q := 1295) _ dL_law_1292 kL_90 (m_thrown) rfl rfl rfl (Nat.le_of_ble_eq_true rfl) ⟨(Nat.le_of_ble_eq_true rfl), (Nat.le_of_ble_eq_true rfl)⟩ ⟨by omega, by omega⟩ rfl ?_
  refine a_iload (q := 1297) dL_law_1295 rfl rfl ?_
  refine a_icmp_eq (q := 1300) 1302 dL_law_1297 (by decide) rfl (fun c1297 => ?_) (fun c1297 => ?_)
  · skip
    refine a_iload (q := 1304) dL_law_1302 rfl rfl ?_
    refine a_if_ne (q := 1307) 1339 dL_law_1304 (by decide) rfl (fun c1304 => ?_) (fun c1304 => ?_)
    · skip
      refine a_goto 1425 dL_law_1339 (by decide) ?_
      exact next _ _ _ _ _ _ _ _ _ n2 _ _ _
    · skip
      refine a_aload (q := 1309) dL_law_1307 rfl rfl ?_
      refine a_iconst (q := 1310) (nI 0) dL_law_1309 (by decide) rfl ?_
      refine a_daldB (q := 1311) dL_law_1310 rfl vp_in01 rfl ?_
      refine a_dload (q := 1313) dL_law_1311 rfl rfl ?_
      refine a_dcmp (q := 1314) dL_law_1313 rfl ?_
      refine a_if_eq (q := 1317) 1339 dL_law_1314 (by decide) rfl (fun c1314 => ?_) (fun c1314 => ?_)
      · skip
        refine a_goto 1425 dL_law_1339 (by decide) ?_
        exact next _ _ _ _ _ _ _ _ _ n2 _ _ _
      · skip
        refine a_aload (q := 1319) dL_law_1317 rfl rfl ?_
        refine a_iconst (q := 1320) (nI 0) dL_law_1319 (by decide) rfl ?_
        refine a_daldB (q := 1321) dL_law_1320 rfl vp_in01 rfl ?_
        refine a_aload (q := 1323) dL_law_1321 rfl rfl ?_
        refine a_iconst (q := 1324) (nI 0) dL_law_1323 (by decide) rfl ?_
        refine a_daldB (q := 1325) dL_law_1324 rfl vp_in01 rfl ?_
        refine a_dcmp (q := 1326) dL_law_1325 rfl ?_
        refine a_if_eq (q := 1329) 1337 dL_law_1326 (by decide) rfl (fun c1326 => ?_) (fun c1326 => ?_)
        · exact absurd (by rw [← h3 (nI_z c1304 hk)]; exact c1326) c1314
        · skip
          refine a_dload (q := 1331) dL_law_1329 rfl rfl ?_
          refine a_dload (q := 1333) dL_law_1331 rfl rfl ?_
          refine a_dcmp (q := 1334) dL_law_1333 rfl ?_
          refine a_if_ne (q := 1337) 1339 dL_law_1334 (by decide) rfl (fun c1334 => ?_) (fun c1334 => ?_)
          · skip
            refine a_goto 1425 dL_law_1339 (by decide) ?_
            exact next _ _ _ _ _ _ _ _ _ n2 _ _ _
          · exact absurd (by rw [h3 (nI_z c1304 hk)]; exact c1334) c1314
  · exact absurd rfl c1297
theorem q_hottest {Nc : List va_E → Prop} {fs : List Value} (r : Int32) (hA : A[0]? = some (.inr (8, fs))) (hkc : kc ≤ 1098) (hns : ns ≤ 10013) (h1 : Ct g mX8_hottest [.ref (g.1 + 0)] 0 A (BM g G T th Y W R Z U L h O) 0 0 (rC (some (.int r)) (BM g G T th Y W R Z U L h O) Nc) noX) (h2 : ∀ A1, Nc A1 → Ct g mX9_hottest [.ref (g.2.1 + 0)] 0 A1 (BM g G T th Y W R Z U L h O) 0 0 (rM g (some (.int r)) A1 0 O N) noX) (next : ∀ A1 G T Y W R Z U L h, Nc A1 → N G T Y W → lwK g j kc ns A1 (BM g G T 0 Y W R Z U L h O)) (L6 L7 L8 : Option Value) : AW g mL_law 1098 10013 lwP noX kc ns 1342 [some (.ref g.2.2.2.2.1), some (.ref (g.1 + 0)), some (.ref (g.2.1 + 0)), some (.ref (g.2.1 + 23)), some (.ref (g.2.1 + 24)), some (.int (nI (3 * j))), L6, L7, L8] [] 0 A (BM g G T th Y W R Z U L h O) := by
  refine a_aload_n (q := 1343) dL_law_1342 rfl rfl rfl ?_
  refine a_callVA (q := 1346) _ dL_law_1343 kL_175 (h1) hA rfl rfl (Nat.le_of_ble_eq_true rfl) ⟨(Nat.le_of_ble_eq_true rfl), (Nat.le_of_ble_eq_true rfl)⟩ ⟨by omega, by omega⟩ rfl (fun v9 z9 A9 B9 h9 => ?_) (fun E9 z9 A9 B9 h9 => h9.elim)
  obtain ⟨rfl, rfl, rfl, n1⟩ := h9
  show AW _ _ _ _ _ _ _ _ _ _ (_ :: _) _ _ _
  refine a_aload_n (q := 1347) dL_law_1346 rfl rfl rfl ?_
  refine a_callVB (q := 1350) _ dL_law_1347 kL_178 (h2 _ n1) rfl rfl rfl (Nat.le_of_ble_eq_true rfl) ⟨(Nat.le_of_ble_eq_true rfl), (Nat.le_of_ble_eq_true rfl)⟩ ⟨by omega, by omega⟩ rfl (fun v9 z9 A9 B9 h9 => ?_) (fun E9 z9 A9 B9 h9 => h9.elim)
  obtain ⟨rfl, rfl, rfl, G9, T9, Y9, W9, R9, Z9, U9, L9, q9, rfl, n2⟩ := h9
  show AW _ _ _ _ _ _ _ _ _ _ (_ :: _) _ _ _
  refine a_icmp_eq (q := 1353) 1425 dL_law_1350 (by decide) rfl (fun c1350 => ?_) (fun c1350 => ?_)
  · skip
    exact next _ _ _ _ _ _ _ _ _ _ n1 n2 _ _ _
  · exact absurd rfl c1350
theorem q_edgeFrequency (r : Int32) (hj : 3 * j + 2 < g.2.2.2.2.2.1) (hL : g.2.2.2.2.2.1 ≤ 1536) (hkc : kc + 1 ≤ 1098) (hns : ns + 6 ≤ 10013) (hk : k < 3) (h1 : Ct g mL_edgeFrequency [.ref (g.1 + 0), .int (g.2.2.2.2.2.2 (3 * j + 1)), .ref (g.2.1 + 23)] 0 A (BM g G T th Y W R Z U L h O) 1 6 (rP (some (.int (nI k))) A1 (BM g G T th Y W R Z U L h O1)) noX) (h2 : Ct g mX9_edgeFrequency [.ref (g.2.1 + 0), .int (g.2.2.2.2.2.2 (3 * j + 1))] 0 A1 (BM g G T th Y W R Z U L h O1) 0 0 (rM g (some (.int r)) A1 k O1 N) noX) (h3 : k = 0 → O1.1 (nI 0).toNatClampNeg = r.toInt64) (next : ∀ G T Y W R Z U L h, N G T Y W → lwK g j (kc + 1) (ns + 6) A1 (BM g G T k Y W R Z U L h O1)) (L6 L7 L8 : Option Value) : AW g mL_law 1098 10013 lwP noX kc ns 1355 [some (.ref g.2.2.2.2.1), some (.ref (g.1 + 0)), some (.ref (g.2.1 + 0)), some (.ref (g.2.1 + 23)), some (.ref (g.2.1 + 24)), some (.int (nI (3 * j))), L6, L7, L8] [] 0 A (BM g G T th Y W R Z U L h O) := by
  refine a_aload_n (q := 1356) dL_law_1355 rfl rfl rfl ?_
  refine a_aload_n (q := 1357) dL_law_1356 rfl rfl rfl ?_
  refine a_iload (q := 1359) dL_law_1357 rfl rfl ?_
  refine a_iconst (q := 1360) (nI 1) dL_law_1359 (by decide) rfl ?_
  refine a_iaddN (q := 1361) dL_law_1360 rfl ?_
  refine a_sldN (q := 1362) dL_law_1361 (by omega) hL rfl ?_
  refine a_aload_n (q := 1363) dL_law_1362 rfl rfl rfl ?_
  refine a_cHv (q := 1366) _ dL_law_1363 kL_179 (h1) rfl rfl (Nat.le_of_ble_eq_true rfl) ⟨(Nat.le_of_ble_eq_true rfl), (Nat.le_of_ble_eq_true rfl)⟩ ⟨by omega, by omega⟩ rfl ?_
  refine a_istore (q := 1368) dL_law_1366 (Nat.le_of_ble_eq_true rfl) rfl rfl ?_
  refine a_aload_n (q := 1369) dL_law_1368 rfl rfl rfl ?_
  refine a_aload_n (q := 1370) dL_law_1369 rfl rfl rfl ?_
  refine a_iload (q := 1372) dL_law_1370 rfl rfl ?_
  refine a_iconst (q := 1373) (nI 1) dL_law_1372 (by decide) rfl ?_
  refine a_iaddN (q := 1374) dL_law_1373 rfl ?_
  refine a_sldN (q := 1375) dL_law_1374 (by omega) hL rfl ?_
  refine a_callVB (q := 1378) _ dL_law_1375 kL_181 (h2) rfl rfl rfl (Nat.le_of_ble_eq_true rfl) ⟨(Nat.le_of_ble_eq_true rfl), (Nat.le_of_ble_eq_true rfl)⟩ ⟨by omega, by omega⟩ rfl (fun v9 z9 A9 B9 h9 => ?_) (fun E9 z9 A9 B9 h9 => h9.elim)
  obtain ⟨rfl, rfl, rfl, G9, T9, Y9, W9, R9, Z9, U9, L9, q9, rfl, n2⟩ := h9
  show AW _ _ _ _ _ _ _ _ _ _ (_ :: _) _ _ _
  refine a_istore (q := 1380) dL_law_1378 (Nat.le_of_ble_eq_true rfl) rfl rfl ?_
  refine a_aload_n (q := 1381) dL_law_1380 rfl rfl rfl ?_
  refine a_cVBv (q := 1384) _ dL_law_1381 kL_90 (m_thrown) rfl rfl rfl (Nat.le_of_ble_eq_true rfl) ⟨(Nat.le_of_ble_eq_true rfl), (Nat.le_of_ble_eq_true rfl)⟩ ⟨by omega, by omega⟩ rfl ?_
  refine a_iload (q := 1386) dL_law_1384 rfl rfl ?_
  refine a_icmp_eq (q := 1389) 1391 dL_law_1386 (by decide) rfl (fun c1386 => ?_) (fun c1386 => ?_)
  · skip
    refine a_iload (q := 1393) dL_law_1391 rfl rfl ?_
    refine a_if_ne (q := 1396) 1408 dL_law_1393 (by decide) rfl (fun c1393 => ?_) (fun c1393 => ?_)
    · skip
      refine a_goto 1425 dL_law_1408 (by decide) ?_
      exact next _ _ _ _ _ _ _ _ _ n2 _ _ _
    · skip
      refine a_aload_n (q := 1397) dL_law_1396 rfl rfl rfl ?_
      refine a_iconst (q := 1398) (nI 0) dL_law_1397 (by decide) rfl ?_
      refine a_laldB (q := 1399) dL_law_1398 rfl vp_in01 rfl ?_
      refine a_iload (q := 1401) dL_law_1399 rfl rfl ?_
      refine a_i2l (q := 1402) dL_law_1401 rfl ?_
      refine a_lcmp (q := 1403) dL_law_1402 rfl ?_
      refine a_if_eq (q := 1406) 1408 dL_law_1403 (by decide) rfl (fun c1403 => ?_) (fun c1403 => ?_)
      · skip
        refine a_goto 1425 dL_law_1408 (by decide) ?_
        exact next _ _ _ _ _ _ _ _ _ n2 _ _ _
      · exact absurd ((lg_cmp_eq _ _).mpr (h3 (nI_z c1393 hk))) c1403
  · exact absurd rfl c1386
theorem q_digest {Nc : List va_E → Prop} {fs : List Value} (r : Int64) (hA : A[0]? = some (.inr (8, fs))) (hkc : kc ≤ 1098) (hns : ns ≤ 10013) (h1 : Ct g mX8_digest [.ref (g.1 + 0)] 0 A (BM g G T th Y W R Z U L h O) 0 0 (rC (some (.long r)) (BM g G T th Y W R Z U L h O) Nc) noX) (h2 : ∀ A1, Nc A1 → Ct g mX9_digest [.ref (g.2.1 + 0)] 0 A1 (BM g G T th Y W R Z U L h O) 0 0 (rM g (some (.long r)) A1 0 O N) noX) (next : ∀ A1 G T Y W R Z U L h, Nc A1 → N G T Y W → lwK g j kc ns A1 (BM g G T 0 Y W R Z U L h O)) (L6 L7 L8 : Option Value) : AW g mL_law 1098 10013 lwP noX kc ns 1411 [some (.ref g.2.2.2.2.1), some (.ref (g.1 + 0)), some (.ref (g.2.1 + 0)), some (.ref (g.2.1 + 23)), some (.ref (g.2.1 + 24)), some (.int (nI (3 * j))), L6, L7, L8] [] 0 A (BM g G T th Y W R Z U L h O) := by
  refine a_aload_n (q := 1412) dL_law_1411 rfl rfl rfl ?_
  refine a_callVA (q := 1415) _ dL_law_1412 kL_182 (h1) hA rfl rfl (Nat.le_of_ble_eq_true rfl) ⟨(Nat.le_of_ble_eq_true rfl), (Nat.le_of_ble_eq_true rfl)⟩ ⟨by omega, by omega⟩ rfl (fun v9 z9 A9 B9 h9 => ?_) (fun E9 z9 A9 B9 h9 => h9.elim)
  obtain ⟨rfl, rfl, rfl, n1⟩ := h9
  show AW _ _ _ _ _ _ _ _ _ _ (_ :: _) _ _ _
  refine a_aload_n (q := 1416) dL_law_1415 rfl rfl rfl ?_
  refine a_callVB (q := 1419) _ dL_law_1416 kL_186 (h2 _ n1) rfl rfl rfl (Nat.le_of_ble_eq_true rfl) ⟨(Nat.le_of_ble_eq_true rfl), (Nat.le_of_ble_eq_true rfl)⟩ ⟨by omega, by omega⟩ rfl (fun v9 z9 A9 B9 h9 => ?_) (fun E9 z9 A9 B9 h9 => h9.elim)
  obtain ⟨rfl, rfl, rfl, G9, T9, Y9, W9, R9, Z9, U9, L9, q9, rfl, n2⟩ := h9
  show AW _ _ _ _ _ _ _ _ _ _ (_ :: _) _ _ _
  refine a_lcmp (q := 1420) dL_law_1419 rfl ?_
  refine a_if_eq (q := 1423) 1425 dL_law_1420 (by decide) rfl (fun c1420 => ?_) (fun c1420 => ?_)
  · skip
    exact next _ _ _ _ _ _ _ _ _ _ n1 n2 _ _ _
  · exact absurd ((lg_cmp_eq _ _).mpr rfl) c1420
end Cases

