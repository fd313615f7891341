/-! the law: the script is read; a theorem for each call -/
section qk_script
variable {l : Launch} {G : qx_G} {Δ : qx_T} {cc : ByteArray} {own : String} {nL fr lc : Nat} {σ : qx_Sg} {pc : Nat} {lo : List (Nat × Value)} {st : List Value}
/-- the script of L ints xs lies at b, and no call changes it -/
def qx_Sc (Δ : qx_T) (b L : Nat) (xs : Nat → Int32) : Prop := va_X b L xs (qx_s Δ) (qx_s Δ).heap ∧ b < (qx_s Δ).heap.size ∧ ¬ qx_X Δ b ∧ L ≤ 3072
theorem qk_sld (C : qx_C G Δ cc own nL fr lc) {b L : Nat} {xs : Nat → Int32} (S : qx_Sc Δ b L xs) (hd : decode cc pc = .ok (.iaload, 1)) (pc' : Nat) (hp : pc + 1 = pc') {x : Int32} (i : Nat) (hx : x = nI i) (hi : i < L) (K : qx_K l G Δ σ pc' lo (.int (xs i) :: st)) : qx_K l G Δ σ pc lo (.int x :: .ref b :: st) := by
  subst hp; subst hx
  intro H locs ls hP hS h
  have hL := S.2.2.2
  refine va_sld C.1.1 C.1.2.1 S.1 S.2.1 S.2.2.1 hS (vp_in_nI hi (by omega)) hd ?_
  rw [nI_clamp (by omega)]
  exact K H locs ls hP hS h
theorem qk_slen2 (C : qx_C G Δ cc own nL fr lc) {b L : Nat} {xs : Nat → Int32} (S : qx_Sc Δ b L xs) (hd : decode cc pc = .ok (.arraylength, 1)) (pc' : Nat) (hp : pc + 1 = pc') (K : qx_K l G Δ σ pc' lo (.int (nI L) :: st)) : qx_K l G Δ σ pc lo (.ref b :: st) := by
  subst hp
  intro H locs ls hP hS h
  exact va_slen C.1.1 C.1.2.1 S.1 S.2.1 S.2.2.1 hS hd (K H locs ls hP hS h)
end qk_script
theorem lg_cmp_s {x : Int64} : lg_cmp x x = 0 := by
  unfold lg_cmp
  rw [if_neg (Int64.lt_irrefl), if_pos rfl]
theorem T_o_feed {σ : qx_Sg} {x n : Int32} : (T_feed σ x n).2 53 = σ 53 := by
  unfold T_feed
  by_cases c : ¬ n < 1 ∧ n ≤ 4
  · by_cases c1 : σ 40 1 + n ≤ 120
    · rw [zw_t c, zw_t c1]; exact (show va_up (va_up σ 41 (z_fd x (zn n) (zn (σ 40 1)) (σ 41))) 40 (upd (σ 40) 1 (σ 40 1 + n)) 53 = σ 53 from (qx_up_ne (by decide)).trans (qx_up_ne (by decide)))
    · rw [zw_t c, zw_f c1]; exact (show va_up σ 52 (upd (σ 52) 1 (σ 52 1 + 1)) 53 = σ 53 from qx_up_ne (by decide))
  · rw [zw_f c]; exact (show va_up σ 52 (upd (σ 52) 0 (σ 52 0 + 1)) 53 = σ 53 from qx_up_ne (by decide))
theorem T_o_z {σ : qx_Sg} {k : Nat} : (z_bw σ k).2 61 = σ 61 ∧ (z_bw σ k).2 62 = σ 62 := ⟨(show va_up σ 52 (upd (σ 52) k (σ 52 k + 1)) 61 = σ 61 from qx_up_ne (by decide)), (show va_up σ 52 (upd (σ 52) k (σ 52 k + 1)) 62 = σ 62 from qx_up_ne (by decide))⟩
theorem z_in3_lt {s : Int32} (c : z_in s 3) : zn s < 4 := by
  obtain ⟨j, hj, rfl⟩ := z_in_ex 3 rfl (by omega) c
  rw [zn_nI (by omega)]
  omega
theorem T_o_write {σ : qx_Sg} {x1 x2 x3 : Int32} : (T_write σ x1 x2 x3).2 61 = σ 61 ∧ (T_write σ x1 x2 x3).2 62 = σ 62 := by
  unfold T_write
  by_cases c : z_in x1 3
  · have hj := z_in3_lt c
    by_cases c1 : σ (44 + zn x1) 0 = 0
    · rw [zw_t c, zw_t c1]; exact T_o_z
    · by_cases c2 : z_in x2 (σ (44 + zn x1) 1 - 1)
      · rw [zw_t c, zw_f c1, zw_t c2]; exact ⟨qx_up_ne (by omega), qx_up_ne (by omega)⟩
      · rw [zw_t c, zw_f c1, zw_f c2]; exact T_o_z
  · rw [zw_f c]; exact T_o_z
theorem T_o_copy {σ : qx_Sg} {x1 x2 x3 x4 x5 : Int32} : (T_copy σ x1 x2 x3 x4 x5).2 61 = σ 61 ∧ (T_copy σ x1 x2 x3 x4 x5).2 62 = σ 62 := by
  unfold T_copy
  by_cases c : z_in x1 3 ∧ z_in x3 3
  · have hj := z_in3_lt c.2
    by_cases c1 : σ (44 + zn x1) 0 = 0 ∨ σ (44 + zn x3) 0 = 0
    · rw [zw_t c, zw_t c1]; exact T_o_z
    · by_cases c2 : σ (44 + zn x1) 0 = σ (44 + zn x3) 0
      · by_cases c3 : z_sps (σ (44 + zn x1) 1) x2 x5 ∧ z_sps (σ (44 + zn x3) 1) x4 x5
        · rw [zw_t c, zw_f c1, zw_t c2, zw_t c3]; exact ⟨qx_up_ne (by omega), qx_up_ne (by omega)⟩
        · rw [zw_t c, zw_f c1, zw_t c2, zw_f c3]; exact T_o_z
      · rw [zw_t c, zw_f c1, zw_f c2]; exact T_o_z
  · rw [zw_f c]; exact T_o_z
theorem law_0 (l : Launch) (G : qx_G) {Δ : qx_T} (C : qx_C G Δ cL_law RL 4 12 474) {b L : Nat} {xs : Nat → Int32} (S : qx_Sc Δ b L xs) (i : Nat) (hi : i + 6 ≤ L) (σ : qx_Sg) (h : rel σ) (next : ∀ σ2, rel σ2 → qx_K l G Δ σ2 1426 [(3, .int (nI i)), (0, .ref b), (1, .ref (qx_ad G 0)), (2, .ref (qx_ad G 53))] []) : qx_K l G Δ σ 212 [(3, .int (nI i)), (0, .ref b), (1, .ref (qx_ad G 0)), (2, .ref (qx_ad G 53))] [] := by
  obtain ⟨N, hI, hH⟩ := h.1
  refine qk_aloadn C dL_law_212 213 rfl rfl 2 rfl ?_
  refine qk_aloadn C dL_law_213 214 rfl rfl 1 rfl ?_
  refine qk_iloadn C dL_law_214 215 rfl rfl 0 rfl ?_
  refine qk_iconst C (1) dL_law_215 216 rfl rfl ?_
  refine qk_iadd C dL_law_216 217 rfl ?_
  refine qk_sld C S dL_law_217 218 rfl (i + 1) (nI_add i 1) (by omega) ?_
  refine qk_aloadn C dL_law_218 219 rfl rfl 1 rfl ?_
  refine qk_iloadn C dL_law_219 220 rfl rfl 0 rfl ?_
  refine qk_iconst C (2) dL_law_220 221 rfl rfl ?_
  refine qk_iadd C dL_law_221 222 rfl ?_
  refine qk_sld C S dL_law_222 223 rfl (i + 2) (nI_add i 2) (by omega) ?_
  refine qk_callV C dL_law_223 226 rfl ql_L_13 qc_X5_bequest 0 (by decide) rfl rfl (c_X5_bequest l G σ N (σ 54) hI hH (xs (i + 1)) (xs (i + 2))) rfl rfl (Nat.le_of_ble_eq_true rfl) ⟨(Nat.le_of_ble_eq_true rfl), (Nat.le_of_ble_eq_true rfl)⟩ (fun v1 σ1 hE => ?_)
  obtain ⟨rfl, hE⟩ := hE
  refine qk_aloadn C dL_law_226 227 rfl rfl 3 rfl ?_
  refine qk_aloadn C dL_law_227 228 rfl rfl 1 rfl ?_
  refine qk_iloadn C dL_law_228 229 rfl rfl 0 rfl ?_
  refine qk_iconst C (1) dL_law_229 230 rfl rfl ?_
  refine qk_iadd C dL_law_230 231 rfl ?_
  refine qk_sld C S dL_law_231 232 rfl (i + 1) (nI_add i 1) (by omega) ?_
  refine qk_aloadn C dL_law_232 233 rfl rfl 1 rfl ?_
  refine qk_iloadn C dL_law_233 234 rfl rfl 0 rfl ?_
  refine qk_iconst C (2) dL_law_234 235 rfl rfl ?_
  refine qk_iadd C dL_law_235 236 rfl ?_
  refine qk_sld C S dL_law_236 237 rfl (i + 2) (nI_add i 2) (by omega) ?_
  have e54 : σ1 54 = σ 54 := hE.2.2 54 (by omega) (by omega) (by omega)
  refine qk_sg (va_up σ1 54 (σ 54)) (by rw [← e54, m_upid]) ?_
  refine qk_callV C dL_law_237 240 rfl ql_L_17 qc_X6_bequest 53 (by decide) rfl rfl (c_X6_bequest l G σ1 N (σ 54) hI (xs (i + 1)) (xs (i + 2))) rfl rfl (Nat.le_of_ble_eq_true rfl) ⟨(Nat.le_of_ble_eq_true rfl), (Nat.le_of_ble_eq_true rfl)⟩ (fun v2 σ2 hE2 => ?_)
  obtain ⟨rfl, hE2⟩ := hE2
  refine qk_icmp_eq C dL_law_240 1426 rfl 243 rfl (fun _ => next _ (rel_S h (sG_bequest hI) hE hE2)) (fun c => absurd rfl c)
theorem law_1 (l : Launch) (G : qx_G) {Δ : qx_T} (C : qx_C G Δ cL_law RL 4 12 474) {b L : Nat} {xs : Nat → Int32} (S : qx_Sc Δ b L xs) (i : Nat) (hi : i + 6 ≤ L) (σ : qx_Sg) (h : rel σ) (next : ∀ σ2, rel σ2 → qx_K l G Δ σ2 1426 [(3, .int (nI i)), (0, .ref b), (1, .ref (qx_ad G 0)), (2, .ref (qx_ad G 53))] []) : qx_K l G Δ σ 245 [(3, .int (nI i)), (0, .ref b), (1, .ref (qx_ad G 0)), (2, .ref (qx_ad G 53))] [] := by
  obtain ⟨N, hI, hH⟩ := h.1
  refine qk_aloadn C dL_law_245 246 rfl rfl 2 rfl ?_
  refine qk_aloadn C dL_law_246 247 rfl rfl 1 rfl ?_
  refine qk_iloadn C dL_law_247 248 rfl rfl 0 rfl ?_
  refine qk_iconst C (1) dL_law_248 249 rfl rfl ?_
  refine qk_iadd C dL_law_249 250 rfl ?_
  refine qk_sld C S dL_law_250 251 rfl (i + 1) (nI_add i 1) (by omega) ?_
  refine qk_callV C dL_law_251 254 rfl ql_L_18 qc_X5_listed 0 (by decide) rfl rfl (c_X5_listed l G σ N (σ 54) hI hH (xs (i + 1))) rfl rfl (Nat.le_of_ble_eq_true rfl) ⟨(Nat.le_of_ble_eq_true rfl), (Nat.le_of_ble_eq_true rfl)⟩ (fun v1 σ1 hE => ?_)
  obtain ⟨rfl, hE⟩ := hE
  refine qk_aloadn C dL_law_254 255 rfl rfl 3 rfl ?_
  refine qk_aloadn C dL_law_255 256 rfl rfl 1 rfl ?_
  refine qk_iloadn C dL_law_256 257 rfl rfl 0 rfl ?_
  refine qk_iconst C (1) dL_law_257 258 rfl rfl ?_
  refine qk_iadd C dL_law_258 259 rfl ?_
  refine qk_sld C S dL_law_259 260 rfl (i + 1) (nI_add i 1) (by omega) ?_
  have e54 : σ1 54 = σ 54 := hE.2.2 54 (by omega) (by omega) (by omega)
  refine qk_sg (va_up σ1 54 (σ 54)) (by rw [← e54, m_upid]) ?_
  refine qk_callV C dL_law_260 263 rfl ql_L_22 qc_X6_listed 53 (by decide) rfl rfl (c_X6_listed l G σ1 N (σ 54) hI (xs (i + 1))) rfl rfl (Nat.le_of_ble_eq_true rfl) ⟨(Nat.le_of_ble_eq_true rfl), (Nat.le_of_ble_eq_true rfl)⟩ (fun v2 σ2 hE2 => ?_)
  obtain ⟨rfl, hE2⟩ := hE2
  refine qk_icmp_eq C dL_law_263 1426 rfl 266 rfl (fun _ => next _ (rel_S h (sG_listed hI) hE hE2)) (fun c => absurd rfl c)
theorem law_2 (l : Launch) (G : qx_G) {Δ : qx_T} (C : qx_C G Δ cL_law RL 4 12 474) {b L : Nat} {xs : Nat → Int32} (S : qx_Sc Δ b L xs) (i : Nat) (hi : i + 6 ≤ L) (σ : qx_Sg) (h : rel σ) (next : ∀ σ2, rel σ2 → qx_K l G Δ σ2 1426 [(3, .int (nI i)), (0, .ref b), (1, .ref (qx_ad G 0)), (2, .ref (qx_ad G 53))] []) : qx_K l G Δ σ 268 [(3, .int (nI i)), (0, .ref b), (1, .ref (qx_ad G 0)), (2, .ref (qx_ad G 53))] [] := by
  obtain ⟨N, hI, hH⟩ := h.1
  refine qk_aloadn C dL_law_268 269 rfl rfl 2 rfl ?_
  refine qk_aloadn C dL_law_269 270 rfl rfl 1 rfl ?_
  refine qk_iloadn C dL_law_270 271 rfl rfl 0 rfl ?_
  refine qk_iconst C (1) dL_law_271 272 rfl rfl ?_
  refine qk_iadd C dL_law_272 273 rfl ?_
  refine qk_sld C S dL_law_273 274 rfl (i + 1) (nI_add i 1) (by omega) ?_
  refine qk_callV C dL_law_274 277 rfl ql_L_23 qc_X5_stored 0 (by decide) rfl rfl (c_X5_stored l G σ N (σ 54) hI hH (xs (i + 1))) rfl rfl (Nat.le_of_ble_eq_true rfl) ⟨(Nat.le_of_ble_eq_true rfl), (Nat.le_of_ble_eq_true rfl)⟩ (fun v1 σ1 hE => ?_)
  obtain ⟨rfl, hE⟩ := hE
  refine qk_aloadn C dL_law_277 278 rfl rfl 3 rfl ?_
  refine qk_aloadn C dL_law_278 279 rfl rfl 1 rfl ?_
  refine qk_iloadn C dL_law_279 280 rfl rfl 0 rfl ?_
  refine qk_iconst C (1) dL_law_280 281 rfl rfl ?_
  refine qk_iadd C dL_law_281 282 rfl ?_
  refine qk_sld C S dL_law_282 283 rfl (i + 1) (nI_add i 1) (by omega) ?_
  have e54 : σ1 54 = σ 54 := hE.2.2 54 (by omega) (by omega) (by omega)
  refine qk_sg (va_up σ1 54 (σ 54)) (by rw [← e54, m_upid]) ?_
  refine qk_callV C dL_law_283 286 rfl ql_L_26 qc_X6_stored 53 (by decide) rfl rfl (c_X6_stored l G σ1 N (σ 54) hI (xs (i + 1))) rfl rfl (Nat.le_of_ble_eq_true rfl) ⟨(Nat.le_of_ble_eq_true rfl), (Nat.le_of_ble_eq_true rfl)⟩ (fun v2 σ2 hE2 => ?_)
  obtain ⟨rfl, hE2⟩ := hE2
  refine qk_icmp_eq C dL_law_286 1426 rfl 289 rfl (fun _ => next _ (rel_S h (sG_stored hI) hE hE2)) (fun c => absurd rfl c)
theorem law_3 (l : Launch) (G : qx_G) {Δ : qx_T} (C : qx_C G Δ cL_law RL 4 12 474) {b L : Nat} {xs : Nat → Int32} (S : qx_Sc Δ b L xs) (i : Nat) (hi : i + 6 ≤ L) (σ : qx_Sg) (h : rel σ) (next : ∀ σ2, rel σ2 → qx_K l G Δ σ2 1426 [(3, .int (nI i)), (0, .ref b), (1, .ref (qx_ad G 0)), (2, .ref (qx_ad G 53))] []) : qx_K l G Δ σ 291 [(3, .int (nI i)), (0, .ref b), (1, .ref (qx_ad G 0)), (2, .ref (qx_ad G 53))] [] := by
  obtain ⟨N, hI, hH⟩ := h.1
  refine qk_aloadn C dL_law_291 292 rfl rfl 2 rfl ?_
  refine qk_aloadn C dL_law_292 293 rfl rfl 1 rfl ?_
  refine qk_iloadn C dL_law_293 294 rfl rfl 0 rfl ?_
  refine qk_iconst C (1) dL_law_294 295 rfl rfl ?_
  refine qk_iadd C dL_law_295 296 rfl ?_
  refine qk_sld C S dL_law_296 297 rfl (i + 1) (nI_add i 1) (by omega) ?_
  refine qk_aloadn C dL_law_297 298 rfl rfl 1 rfl ?_
  refine qk_iloadn C dL_law_298 299 rfl rfl 0 rfl ?_
  refine qk_iconst C (2) dL_law_299 300 rfl rfl ?_
  refine qk_iadd C dL_law_300 301 rfl ?_
  refine qk_sld C S dL_law_301 302 rfl (i + 2) (nI_add i 2) (by omega) ?_
  refine qk_callV C dL_law_302 305 rfl ql_L_27 qc_X5_bust 0 (by decide) rfl rfl (c_X5_bust l G σ N (σ 54) hI hH (xs (i + 1)) (xs (i + 2))) rfl rfl (Nat.le_of_ble_eq_true rfl) ⟨(Nat.le_of_ble_eq_true rfl), (Nat.le_of_ble_eq_true rfl)⟩ (fun v1 σ1 hE => ?_)
  obtain ⟨rfl, hE⟩ := hE
  refine qk_aloadn C dL_law_305 306 rfl rfl 3 rfl ?_
  refine qk_aloadn C dL_law_306 307 rfl rfl 1 rfl ?_
  refine qk_iloadn C dL_law_307 308 rfl rfl 0 rfl ?_
  refine qk_iconst C (1) dL_law_308 309 rfl rfl ?_
  refine qk_iadd C dL_law_309 310 rfl ?_
  refine qk_sld C S dL_law_310 311 rfl (i + 1) (nI_add i 1) (by omega) ?_
  refine qk_aloadn C dL_law_311 312 rfl rfl 1 rfl ?_
  refine qk_iloadn C dL_law_312 313 rfl rfl 0 rfl ?_
  refine qk_iconst C (2) dL_law_313 314 rfl rfl ?_
  refine qk_iadd C dL_law_314 315 rfl ?_
  refine qk_sld C S dL_law_315 316 rfl (i + 2) (nI_add i 2) (by omega) ?_
  have e54 : σ1 54 = σ 54 := hE.2.2 54 (by omega) (by omega) (by omega)
  refine qk_sg (va_up σ1 54 (σ 54)) (by rw [← e54, m_upid]) ?_
  refine qk_callV C dL_law_316 319 rfl ql_L_30 qc_X6_bust 53 (by decide) rfl rfl (c_X6_bust l G σ1 N (σ 54) hI (xs (i + 1)) (xs (i + 2))) rfl rfl (Nat.le_of_ble_eq_true rfl) ⟨(Nat.le_of_ble_eq_true rfl), (Nat.le_of_ble_eq_true rfl)⟩ (fun v2 σ2 hE2 => ?_)
  obtain ⟨rfl, hE2⟩ := hE2
  refine qk_icmp_eq C dL_law_319 1426 rfl 322 rfl (fun _ => next _ (rel_S h (sG_bust hI) hE hE2)) (fun c => absurd rfl c)
theorem law_4 (l : Launch) (G : qx_G) {Δ : qx_T} (C : qx_C G Δ cL_law RL 4 12 474) {b L : Nat} {xs : Nat → Int32} (S : qx_Sc Δ b L xs) (i : Nat) (hi : i + 6 ≤ L) (σ : qx_Sg) (h : rel σ) (next : ∀ σ2, rel σ2 → qx_K l G Δ σ2 1426 [(3, .int (nI i)), (0, .ref b), (1, .ref (qx_ad G 0)), (2, .ref (qx_ad G 53))] []) : qx_K l G Δ σ 324 [(3, .int (nI i)), (0, .ref b), (1, .ref (qx_ad G 0)), (2, .ref (qx_ad G 53))] [] := by
  obtain ⟨N, hI, hH⟩ := h.1
  refine qk_aloadn C dL_law_324 325 rfl rfl 2 rfl ?_
  refine qk_aloadn C dL_law_325 326 rfl rfl 1 rfl ?_
  refine qk_iloadn C dL_law_326 327 rfl rfl 0 rfl ?_
  refine qk_iconst C (1) dL_law_327 328 rfl rfl ?_
  refine qk_iadd C dL_law_328 329 rfl ?_
  refine qk_sld C S dL_law_329 330 rfl (i + 1) (nI_add i 1) (by omega) ?_
  refine qk_aloadn C dL_law_330 331 rfl rfl 1 rfl ?_
  refine qk_iloadn C dL_law_331 332 rfl rfl 0 rfl ?_
  refine qk_iconst C (2) dL_law_332 333 rfl rfl ?_
  refine qk_iadd C dL_law_333 334 rfl ?_
  refine qk_sld C S dL_law_334 335 rfl (i + 2) (nI_add i 2) (by omega) ?_
  refine qk_callV C dL_law_335 338 rfl ql_L_31 qc_X5_of 0 (by decide) rfl rfl (c_X5_of l G σ N (σ 54) hI hH (xs (i + 1)) (xs (i + 2))) rfl rfl (Nat.le_of_ble_eq_true rfl) ⟨(Nat.le_of_ble_eq_true rfl), (Nat.le_of_ble_eq_true rfl)⟩ (fun v1 σ1 hE => ?_)
  obtain ⟨rfl, hE⟩ := hE
  refine qk_aloadn C dL_law_338 339 rfl rfl 3 rfl ?_
  refine qk_aloadn C dL_law_339 340 rfl rfl 1 rfl ?_
  refine qk_iloadn C dL_law_340 341 rfl rfl 0 rfl ?_
  refine qk_iconst C (1) dL_law_341 342 rfl rfl ?_
  refine qk_iadd C dL_law_342 343 rfl ?_
  refine qk_sld C S dL_law_343 344 rfl (i + 1) (nI_add i 1) (by omega) ?_
  refine qk_aloadn C dL_law_344 345 rfl rfl 1 rfl ?_
  refine qk_iloadn C dL_law_345 346 rfl rfl 0 rfl ?_
  refine qk_iconst C (2) dL_law_346 347 rfl rfl ?_
  refine qk_iadd C dL_law_347 348 rfl ?_
  refine qk_sld C S dL_law_348 349 rfl (i + 2) (nI_add i 2) (by omega) ?_
  have e54 : σ1 54 = σ 54 := hE.2.2 54 (by omega) (by omega) (by omega)
  refine qk_sg (va_up σ1 54 (σ 54)) (by rw [← e54, m_upid]) ?_
  refine qk_callV C dL_law_349 352 rfl ql_L_34 qc_X6_of 53 (by decide) rfl rfl (c_X6_of l G σ1 N (σ 54) hI (xs (i + 1)) (xs (i + 2))) rfl rfl (Nat.le_of_ble_eq_true rfl) ⟨(Nat.le_of_ble_eq_true rfl), (Nat.le_of_ble_eq_true rfl)⟩ (fun v2 σ2 hE2 => ?_)
  obtain ⟨rfl, hE2⟩ := hE2
  refine qk_icmp_eq C dL_law_352 1426 rfl 355 rfl (fun _ => next _ (rel_S h (sG_of hI) hE hE2)) (fun c => absurd rfl c)
theorem law_5 (l : Launch) (G : qx_G) {Δ : qx_T} (C : qx_C G Δ cL_law RL 4 12 474) {b L : Nat} {xs : Nat → Int32} (S : qx_Sc Δ b L xs) (i : Nat) (hi : i + 6 ≤ L) (σ : qx_Sg) (h : rel σ) (next : ∀ σ2, rel σ2 → qx_K l G Δ σ2 1426 [(3, .int (nI i)), (0, .ref b), (1, .ref (qx_ad G 0)), (2, .ref (qx_ad G 53))] []) : qx_K l G Δ σ 357 [(3, .int (nI i)), (0, .ref b), (1, .ref (qx_ad G 0)), (2, .ref (qx_ad G 53))] [] := by
  obtain ⟨N, hI, hH⟩ := h.1
  refine qk_aloadn C dL_law_357 358 rfl rfl 2 rfl ?_
  refine qk_aloadn C dL_law_358 359 rfl rfl 1 rfl ?_
  refine qk_iloadn C dL_law_359 360 rfl rfl 0 rfl ?_
  refine qk_iconst C (1) dL_law_360 361 rfl rfl ?_
  refine qk_iadd C dL_law_361 362 rfl ?_
  refine qk_sld C S dL_law_362 363 rfl (i + 1) (nI_add i 1) (by omega) ?_
  refine qk_aloadn C dL_law_363 364 rfl rfl 1 rfl ?_
  refine qk_iloadn C dL_law_364 365 rfl rfl 0 rfl ?_
  refine qk_iconst C (2) dL_law_365 366 rfl rfl ?_
  refine qk_iadd C dL_law_366 367 rfl ?_
  refine qk_sld C S dL_law_367 368 rfl (i + 2) (nI_add i 2) (by omega) ?_
  refine qk_aloadn C dL_law_368 369 rfl rfl 1 rfl ?_
  refine qk_iloadn C dL_law_369 370 rfl rfl 0 rfl ?_
  refine qk_iconst C (3) dL_law_370 371 rfl rfl ?_
  refine qk_iadd C dL_law_371 372 rfl ?_
  refine qk_sld C S dL_law_372 373 rfl (i + 3) (nI_add i 3) (by omega) ?_
  refine qk_callV C dL_law_373 376 rfl ql_L_35 qc_X5_change 0 (by decide) rfl rfl (c_X5_change l G σ N (σ 54) hI hH (xs (i + 1)) (xs (i + 2)) (xs (i + 3))) rfl rfl (Nat.le_of_ble_eq_true rfl) ⟨(Nat.le_of_ble_eq_true rfl), (Nat.le_of_ble_eq_true rfl)⟩ (fun v1 σ1 hE => ?_)
  obtain ⟨rfl, hE⟩ := hE
  refine qk_aloadn C dL_law_376 377 rfl rfl 3 rfl ?_
  refine qk_aloadn C dL_law_377 378 rfl rfl 1 rfl ?_
  refine qk_iloadn C dL_law_378 379 rfl rfl 0 rfl ?_
  refine qk_iconst C (1) dL_law_379 380 rfl rfl ?_
  refine qk_iadd C dL_law_380 381 rfl ?_
  refine qk_sld C S dL_law_381 382 rfl (i + 1) (nI_add i 1) (by omega) ?_
  refine qk_aloadn C dL_law_382 383 rfl rfl 1 rfl ?_
  refine qk_iloadn C dL_law_383 384 rfl rfl 0 rfl ?_
  refine qk_iconst C (2) dL_law_384 385 rfl rfl ?_
  refine qk_iadd C dL_law_385 386 rfl ?_
  refine qk_sld C S dL_law_386 387 rfl (i + 2) (nI_add i 2) (by omega) ?_
  refine qk_aloadn C dL_law_387 388 rfl rfl 1 rfl ?_
  refine qk_iloadn C dL_law_388 389 rfl rfl 0 rfl ?_
  refine qk_iconst C (3) dL_law_389 390 rfl rfl ?_
  refine qk_iadd C dL_law_390 391 rfl ?_
  refine qk_sld C S dL_law_391 392 rfl (i + 3) (nI_add i 3) (by omega) ?_
  have e54 : σ1 54 = σ 54 := hE.2.2 54 (by omega) (by omega) (by omega)
  refine qk_sg (va_up σ1 54 (σ 54)) (by rw [← e54, m_upid]) ?_
  refine qk_callV C dL_law_392 395 rfl ql_L_39 qc_X6_change 53 (by decide) rfl rfl (c_X6_change l G σ1 N (σ 54) hI (xs (i + 1)) (xs (i + 2)) (xs (i + 3))) rfl rfl (Nat.le_of_ble_eq_true rfl) ⟨(Nat.le_of_ble_eq_true rfl), (Nat.le_of_ble_eq_true rfl)⟩ (fun v2 σ2 hE2 => ?_)
  obtain ⟨rfl, hE2⟩ := hE2
  refine qk_icmp_eq C dL_law_395 1426 rfl 398 rfl (fun _ => next _ (rel_S h (sG_change hI) hE hE2)) (fun c => absurd rfl c)
theorem law_6 (l : Launch) (G : qx_G) {Δ : qx_T} (C : qx_C G Δ cL_law RL 4 12 474) {b L : Nat} {xs : Nat → Int32} (S : qx_Sc Δ b L xs) (i : Nat) (hi : i + 6 ≤ L) (σ : qx_Sg) (h : rel σ) (next : ∀ σ2, rel σ2 → qx_K l G Δ σ2 1426 [(3, .int (nI i)), (0, .ref b), (1, .ref (qx_ad G 0)), (2, .ref (qx_ad G 53))] []) : qx_K l G Δ σ 400 [(3, .int (nI i)), (0, .ref b), (1, .ref (qx_ad G 0)), (2, .ref (qx_ad G 53))] [] := by
  obtain ⟨N, hI, hH⟩ := h.1
  refine qk_aloadn C dL_law_400 401 rfl rfl 2 rfl ?_
  refine qk_aloadn C dL_law_401 402 rfl rfl 1 rfl ?_
  refine qk_iloadn C dL_law_402 403 rfl rfl 0 rfl ?_
  refine qk_iconst C (1) dL_law_403 404 rfl rfl ?_
  refine qk_iadd C dL_law_404 405 rfl ?_
  refine qk_sld C S dL_law_405 406 rfl (i + 1) (nI_add i 1) (by omega) ?_
  refine qk_aloadn C dL_law_406 407 rfl rfl 1 rfl ?_
  refine qk_iloadn C dL_law_407 408 rfl rfl 0 rfl ?_
  refine qk_iconst C (2) dL_law_408 409 rfl rfl ?_
  refine qk_iadd C dL_law_409 410 rfl ?_
  refine qk_sld C S dL_law_410 411 rfl (i + 2) (nI_add i 2) (by omega) ?_
  refine qk_callV C dL_law_411 414 rfl ql_L_40 qc_X5_accepts 0 (by decide) rfl rfl (c_X5_accepts l G σ N (σ 54) hI hH (xs (i + 1)) (xs (i + 2))) rfl rfl (Nat.le_of_ble_eq_true rfl) ⟨(Nat.le_of_ble_eq_true rfl), (Nat.le_of_ble_eq_true rfl)⟩ (fun v1 σ1 hE => ?_)
  obtain ⟨rfl, hE⟩ := hE
  refine qk_aloadn C dL_law_414 415 rfl rfl 3 rfl ?_
  refine qk_aloadn C dL_law_415 416 rfl rfl 1 rfl ?_
  refine qk_iloadn C dL_law_416 417 rfl rfl 0 rfl ?_
  refine qk_iconst C (1) dL_law_417 418 rfl rfl ?_
  refine qk_iadd C dL_law_418 419 rfl ?_
  refine qk_sld C S dL_law_419 420 rfl (i + 1) (nI_add i 1) (by omega) ?_
  refine qk_aloadn C dL_law_420 421 rfl rfl 1 rfl ?_
  refine qk_iloadn C dL_law_421 422 rfl rfl 0 rfl ?_
  refine qk_iconst C (2) dL_law_422 423 rfl rfl ?_
  refine qk_iadd C dL_law_423 424 rfl ?_
  refine qk_sld C S dL_law_424 425 rfl (i + 2) (nI_add i 2) (by omega) ?_
  have e54 : σ1 54 = σ 54 := hE.2.2 54 (by omega) (by omega) (by omega)
  refine qk_sg (va_up σ1 54 (σ 54)) (by rw [← e54, m_upid]) ?_
  refine qk_callV C dL_law_425 428 rfl ql_L_43 qc_X6_accepts 53 (by decide) rfl rfl (c_X6_accepts l G σ1 N (σ 54) hI (xs (i + 1)) (xs (i + 2))) rfl rfl (Nat.le_of_ble_eq_true rfl) ⟨(Nat.le_of_ble_eq_true rfl), (Nat.le_of_ble_eq_true rfl)⟩ (fun v2 σ2 hE2 => ?_)
  obtain ⟨rfl, hE2⟩ := hE2
  refine qk_icmp_eq C dL_law_428 1426 rfl 431 rfl (fun _ => next _ (rel_S h (sG_accepts hI) hE hE2)) (fun c => absurd rfl c)
theorem law_7 (l : Launch) (G : qx_G) {Δ : qx_T} (C : qx_C G Δ cL_law RL 4 12 474) {b L : Nat} {xs : Nat → Int32} (S : qx_Sc Δ b L xs) (i : Nat) (hi : i + 6 ≤ L) (σ : qx_Sg) (h : rel σ) (next : ∀ σ2, rel σ2 → qx_K l G Δ σ2 1426 [(3, .int (nI i)), (0, .ref b), (1, .ref (qx_ad G 0)), (2, .ref (qx_ad G 53))] []) : qx_K l G Δ σ 433 [(3, .int (nI i)), (0, .ref b), (1, .ref (qx_ad G 0)), (2, .ref (qx_ad G 53))] [] := by
  obtain ⟨N, hI, hH⟩ := h.1
  refine qk_aloadn C dL_law_433 434 rfl rfl 2 rfl ?_
  refine qk_aloadn C dL_law_434 435 rfl rfl 1 rfl ?_
  refine qk_iloadn C dL_law_435 436 rfl rfl 0 rfl ?_
  refine qk_iconst C (1) dL_law_436 437 rfl rfl ?_
  refine qk_iadd C dL_law_437 438 rfl ?_
  refine qk_sld C S dL_law_438 439 rfl (i + 1) (nI_add i 1) (by omega) ?_
  refine qk_callV C dL_law_439 442 rfl ql_L_44 qc_X5_heir 0 (by decide) rfl rfl (c_X5_heir l G σ N (σ 54) hI hH (xs (i + 1))) rfl rfl (Nat.le_of_ble_eq_true rfl) ⟨(Nat.le_of_ble_eq_true rfl), (Nat.le_of_ble_eq_true rfl)⟩ (fun v1 σ1 hE => ?_)
  obtain ⟨rfl, hE⟩ := hE
  refine qk_aloadn C dL_law_442 443 rfl rfl 3 rfl ?_
  refine qk_aloadn C dL_law_443 444 rfl rfl 1 rfl ?_
  refine qk_iloadn C dL_law_444 445 rfl rfl 0 rfl ?_
  refine qk_iconst C (1) dL_law_445 446 rfl rfl ?_
  refine qk_iadd C dL_law_446 447 rfl ?_
  refine qk_sld C S dL_law_447 448 rfl (i + 1) (nI_add i 1) (by omega) ?_
  have e54 : σ1 54 = σ 54 := hE.2.2 54 (by omega) (by omega) (by omega)
  refine qk_sg (va_up σ1 54 (σ 54)) (by rw [← e54, m_upid]) ?_
  refine qk_callV C dL_law_448 451 rfl ql_L_47 qc_X6_heir 53 (by decide) rfl rfl (c_X6_heir l G σ1 N (σ 54) hI (xs (i + 1))) rfl rfl (Nat.le_of_ble_eq_true rfl) ⟨(Nat.le_of_ble_eq_true rfl), (Nat.le_of_ble_eq_true rfl)⟩ (fun v2 σ2 hE2 => ?_)
  obtain ⟨rfl, hE2⟩ := hE2
  refine qk_icmp_eq C dL_law_451 1426 rfl 454 rfl (fun _ => next _ (rel_S h (sG_heir hI) hE hE2)) (fun c => absurd rfl c)
theorem law_8 (l : Launch) (G : qx_G) {Δ : qx_T} (C : qx_C G Δ cL_law RL 4 12 474) {b L : Nat} {xs : Nat → Int32} (S : qx_Sc Δ b L xs) (i : Nat) (hi : i + 6 ≤ L) (σ : qx_Sg) (h : rel σ) (next : ∀ σ2, rel σ2 → qx_K l G Δ σ2 1426 [(3, .int (nI i)), (0, .ref b), (1, .ref (qx_ad G 0)), (2, .ref (qx_ad G 53))] []) : qx_K l G Δ σ 456 [(3, .int (nI i)), (0, .ref b), (1, .ref (qx_ad G 0)), (2, .ref (qx_ad G 53))] [] := by
  obtain ⟨N, hI, hH⟩ := h.1
  refine qk_aloadn C dL_law_456 457 rfl rfl 2 rfl ?_
  refine qk_aloadn C dL_law_457 458 rfl rfl 1 rfl ?_
  refine qk_iloadn C dL_law_458 459 rfl rfl 0 rfl ?_
  refine qk_iconst C (1) dL_law_459 460 rfl rfl ?_
  refine qk_iadd C dL_law_460 461 rfl ?_
  refine qk_sld C S dL_law_461 462 rfl (i + 1) (nI_add i 1) (by omega) ?_
  refine qk_aloadn C dL_law_462 463 rfl rfl 1 rfl ?_
  refine qk_iloadn C dL_law_463 464 rfl rfl 0 rfl ?_
  refine qk_iconst C (2) dL_law_464 465 rfl rfl ?_
  refine qk_iadd C dL_law_465 466 rfl ?_
  refine qk_sld C S dL_law_466 467 rfl (i + 2) (nI_add i 2) (by omega) ?_
  refine qk_callV C dL_law_467 470 rfl ql_L_48 qc_X5_give 0 (by decide) rfl rfl (c_X5_give l G σ N (σ 54) hI hH (xs (i + 1)) (xs (i + 2))) rfl rfl (Nat.le_of_ble_eq_true rfl) ⟨(Nat.le_of_ble_eq_true rfl), (Nat.le_of_ble_eq_true rfl)⟩ (fun v1 σ1 hE => ?_)
  obtain ⟨rfl, hE⟩ := hE
  refine qk_aloadn C dL_law_470 471 rfl rfl 3 rfl ?_
  refine qk_aloadn C dL_law_471 472 rfl rfl 1 rfl ?_
  refine qk_iloadn C dL_law_472 473 rfl rfl 0 rfl ?_
  refine qk_iconst C (1) dL_law_473 474 rfl rfl ?_
  refine qk_iadd C dL_law_474 475 rfl ?_
  refine qk_sld C S dL_law_475 476 rfl (i + 1) (nI_add i 1) (by omega) ?_
  refine qk_aloadn C dL_law_476 477 rfl rfl 1 rfl ?_
  refine qk_iloadn C dL_law_477 478 rfl rfl 0 rfl ?_
  refine qk_iconst C (2) dL_law_478 479 rfl rfl ?_
  refine qk_iadd C dL_law_479 480 rfl ?_
  refine qk_sld C S dL_law_480 481 rfl (i + 2) (nI_add i 2) (by omega) ?_
  have e54 : σ1 54 = σ 54 := hE.2.2 54 (by omega) (by omega) (by omega)
  refine qk_sg (va_up σ1 54 (σ 54)) (by rw [← e54, m_upid]) ?_
  refine qk_callV C dL_law_481 484 rfl ql_L_51 qc_X6_give 53 (by decide) rfl rfl (c_X6_give l G σ1 N (σ 54) hI (xs (i + 1)) (xs (i + 2))) rfl rfl (Nat.le_of_ble_eq_true rfl) ⟨(Nat.le_of_ble_eq_true rfl), (Nat.le_of_ble_eq_true rfl)⟩ (fun v2 σ2 hE2 => ?_)
  obtain ⟨rfl, hE2⟩ := hE2
  refine qk_icmp_eq C dL_law_484 1426 rfl 487 rfl (fun _ => next _ (rel_S h (sG_give hI) hE hE2)) (fun c => absurd rfl c)
theorem law_9 (l : Launch) (G : qx_G) {Δ : qx_T} (C : qx_C G Δ cL_law RL 4 12 474) {b L : Nat} {xs : Nat → Int32} (S : qx_Sc Δ b L xs) (i : Nat) (hi : i + 6 ≤ L) (σ : qx_Sg) (h : rel σ) (next : ∀ σ2, rel σ2 → qx_K l G Δ σ2 1426 [(3, .int (nI i)), (0, .ref b), (1, .ref (qx_ad G 0)), (2, .ref (qx_ad G 53))] []) : qx_K l G Δ σ 489 [(3, .int (nI i)), (0, .ref b), (1, .ref (qx_ad G 0)), (2, .ref (qx_ad G 53))] [] := by
  obtain ⟨N, hI, hH⟩ := h.1
  refine qk_aloadn C dL_law_489 490 rfl rfl 2 rfl ?_
  refine qk_aloadn C dL_law_490 491 rfl rfl 1 rfl ?_
  refine qk_iloadn C dL_law_491 492 rfl rfl 0 rfl ?_
  refine qk_iconst C (1) dL_law_492 493 rfl rfl ?_
  refine qk_iadd C dL_law_493 494 rfl ?_
  refine qk_sld C S dL_law_494 495 rfl (i + 1) (nI_add i 1) (by omega) ?_
  refine qk_callV C dL_law_495 498 rfl ql_L_52 qc_X5_go 0 (by decide) rfl rfl (c_X5_go l G σ N (σ 54) hI hH (xs (i + 1))) rfl rfl (Nat.le_of_ble_eq_true rfl) ⟨(Nat.le_of_ble_eq_true rfl), (Nat.le_of_ble_eq_true rfl)⟩ (fun v1 σ1 hE => ?_)
  obtain ⟨rfl, hE⟩ := hE
  refine qk_aloadn C dL_law_498 499 rfl rfl 3 rfl ?_
  refine qk_aloadn C dL_law_499 500 rfl rfl 1 rfl ?_
  refine qk_iloadn C dL_law_500 501 rfl rfl 0 rfl ?_
  refine qk_iconst C (1) dL_law_501 502 rfl rfl ?_
  refine qk_iadd C dL_law_502 503 rfl ?_
  refine qk_sld C S dL_law_503 504 rfl (i + 1) (nI_add i 1) (by omega) ?_
  have e54 : σ1 54 = σ 54 := hE.2.2 54 (by omega) (by omega) (by omega)
  refine qk_sg (va_up σ1 54 (σ 54)) (by rw [← e54, m_upid]) ?_
  refine qk_callV C dL_law_504 507 rfl ql_L_55 qc_X6_go 53 (by decide) rfl rfl (c_X6_go l G σ1 N (σ 54) hI (xs (i + 1))) rfl rfl (Nat.le_of_ble_eq_true rfl) ⟨(Nat.le_of_ble_eq_true rfl), (Nat.le_of_ble_eq_true rfl)⟩ (fun v2 σ2 hE2 => ?_)
  obtain ⟨rfl, hE2⟩ := hE2
  refine qk_icmp_eq C dL_law_507 1426 rfl 510 rfl (fun _ => next _ (rel_S h (sG_go hI) hE hE2)) (fun c => absurd rfl c)
theorem law_10 (l : Launch) (G : qx_G) {Δ : qx_T} (C : qx_C G Δ cL_law RL 4 12 474) {b L : Nat} {xs : Nat → Int32} (S : qx_Sc Δ b L xs) (i : Nat) (hi : i + 6 ≤ L) (σ : qx_Sg) (h : rel σ) (next : ∀ σ2, rel σ2 → qx_K l G Δ σ2 1426 [(3, .int (nI i)), (0, .ref b), (1, .ref (qx_ad G 0)), (2, .ref (qx_ad G 53))] []) : qx_K l G Δ σ 512 [(3, .int (nI i)), (0, .ref b), (1, .ref (qx_ad G 0)), (2, .ref (qx_ad G 53))] [] := by
  obtain ⟨N, hI, hH⟩ := h.1
  refine qk_aloadn C dL_law_512 513 rfl rfl 2 rfl ?_
  refine qk_aloadn C dL_law_513 514 rfl rfl 1 rfl ?_
  refine qk_iloadn C dL_law_514 515 rfl rfl 0 rfl ?_
  refine qk_iconst C (1) dL_law_515 516 rfl rfl ?_
  refine qk_iadd C dL_law_516 517 rfl ?_
  refine qk_sld C S dL_law_517 518 rfl (i + 1) (nI_add i 1) (by omega) ?_
  refine qk_callV C dL_law_518 521 rfl ql_L_56 qc_X5_now 0 (by decide) rfl rfl (c_X5_now l G σ N (σ 54) hI hH (xs (i + 1))) rfl rfl (Nat.le_of_ble_eq_true rfl) ⟨(Nat.le_of_ble_eq_true rfl), (Nat.le_of_ble_eq_true rfl)⟩ (fun v1 σ1 hE => ?_)
  obtain ⟨rfl, hE⟩ := hE
  refine qk_aloadn C dL_law_521 522 rfl rfl 3 rfl ?_
  refine qk_aloadn C dL_law_522 523 rfl rfl 1 rfl ?_
  refine qk_iloadn C dL_law_523 524 rfl rfl 0 rfl ?_
  refine qk_iconst C (1) dL_law_524 525 rfl rfl ?_
  refine qk_iadd C dL_law_525 526 rfl ?_
  refine qk_sld C S dL_law_526 527 rfl (i + 1) (nI_add i 1) (by omega) ?_
  have e54 : σ1 54 = σ 54 := hE.2.2 54 (by omega) (by omega) (by omega)
  refine qk_sg (va_up σ1 54 (σ 54)) (by rw [← e54, m_upid]) ?_
  refine qk_callV C dL_law_527 530 rfl ql_L_59 qc_X6_now 53 (by decide) rfl rfl (c_X6_now l G σ1 N (σ 54) hI (xs (i + 1))) rfl rfl (Nat.le_of_ble_eq_true rfl) ⟨(Nat.le_of_ble_eq_true rfl), (Nat.le_of_ble_eq_true rfl)⟩ (fun v2 σ2 hE2 => ?_)
  obtain ⟨rfl, hE2⟩ := hE2
  refine qk_icmp_eq C dL_law_530 1426 rfl 533 rfl (fun _ => next _ (rel_S h (sG_now hI) hE hE2)) (fun c => absurd rfl c)
theorem law_11 (l : Launch) (G : qx_G) {Δ : qx_T} (C : qx_C G Δ cL_law RL 4 12 474) {b L : Nat} {xs : Nat → Int32} (S : qx_Sc Δ b L xs) (i : Nat) (hi : i + 6 ≤ L) (σ : qx_Sg) (h : rel σ) (next : ∀ σ2, rel σ2 → qx_K l G Δ σ2 1426 [(3, .int (nI i)), (0, .ref b), (1, .ref (qx_ad G 0)), (2, .ref (qx_ad G 53))] []) : qx_K l G Δ σ 535 [(3, .int (nI i)), (0, .ref b), (1, .ref (qx_ad G 0)), (2, .ref (qx_ad G 53))] [] := by
  obtain ⟨N, hI, hH⟩ := h.1
  refine qk_aloadn C dL_law_535 536 rfl rfl 2 rfl ?_
  refine qk_aloadn C dL_law_536 537 rfl rfl 1 rfl ?_
  refine qk_iloadn C dL_law_537 538 rfl rfl 0 rfl ?_
  refine qk_iconst C (1) dL_law_538 539 rfl rfl ?_
  refine qk_iadd C dL_law_539 540 rfl ?_
  refine qk_sld C S dL_law_540 541 rfl (i + 1) (nI_add i 1) (by omega) ?_
  refine qk_aloadn C dL_law_541 542 rfl rfl 1 rfl ?_
  refine qk_iloadn C dL_law_542 543 rfl rfl 0 rfl ?_
  refine qk_iconst C (2) dL_law_543 544 rfl rfl ?_
  refine qk_iadd C dL_law_544 545 rfl ?_
  refine qk_sld C S dL_law_545 546 rfl (i + 2) (nI_add i 2) (by omega) ?_
  refine qk_aloadn C dL_law_546 547 rfl rfl 1 rfl ?_
  refine qk_iloadn C dL_law_547 548 rfl rfl 0 rfl ?_
  refine qk_iconst C (3) dL_law_548 549 rfl rfl ?_
  refine qk_iadd C dL_law_549 550 rfl ?_
  refine qk_sld C S dL_law_550 551 rfl (i + 3) (nI_add i 3) (by omega) ?_
  refine qk_callV C dL_law_551 554 rfl ql_L_60 qc_X5_ahead 0 (by decide) rfl rfl (c_X5_ahead l G σ N (σ 54) hI hH (xs (i + 1)) (xs (i + 2)) (xs (i + 3))) rfl rfl (Nat.le_of_ble_eq_true rfl) ⟨(Nat.le_of_ble_eq_true rfl), (Nat.le_of_ble_eq_true rfl)⟩ (fun v1 σ1 hE => ?_)
  obtain ⟨rfl, hE⟩ := hE
  refine qk_aloadn C dL_law_554 555 rfl rfl 3 rfl ?_
  refine qk_aloadn C dL_law_555 556 rfl rfl 1 rfl ?_
  refine qk_iloadn C dL_law_556 557 rfl rfl 0 rfl ?_
  refine qk_iconst C (1) dL_law_557 558 rfl rfl ?_
  refine qk_iadd C dL_law_558 559 rfl ?_
  refine qk_sld C S dL_law_559 560 rfl (i + 1) (nI_add i 1) (by omega) ?_
  refine qk_aloadn C dL_law_560 561 rfl rfl 1 rfl ?_
  refine qk_iloadn C dL_law_561 562 rfl rfl 0 rfl ?_
  refine qk_iconst C (2) dL_law_562 563 rfl rfl ?_
  refine qk_iadd C dL_law_563 564 rfl ?_
  refine qk_sld C S dL_law_564 565 rfl (i + 2) (nI_add i 2) (by omega) ?_
  refine qk_aloadn C dL_law_565 566 rfl rfl 1 rfl ?_
  refine qk_iloadn C dL_law_566 567 rfl rfl 0 rfl ?_
  refine qk_iconst C (3) dL_law_567 568 rfl rfl ?_
  refine qk_iadd C dL_law_568 569 rfl ?_
  refine qk_sld C S dL_law_569 570 rfl (i + 3) (nI_add i 3) (by omega) ?_
  have e54 : σ1 54 = σ 54 := hE.2.2 54 (by omega) (by omega) (by omega)
  refine qk_sg (va_up σ1 54 (σ 54)) (by rw [← e54, m_upid]) ?_
  refine qk_callV C dL_law_570 573 rfl ql_L_63 qc_X6_ahead 53 (by decide) rfl rfl (c_X6_ahead l G σ1 N (σ 54) hI (xs (i + 1)) (xs (i + 2)) (xs (i + 3))) rfl rfl (Nat.le_of_ble_eq_true rfl) ⟨(Nat.le_of_ble_eq_true rfl), (Nat.le_of_ble_eq_true rfl)⟩ (fun v2 σ2 hE2 => ?_)
  obtain ⟨rfl, hE2⟩ := hE2
  refine qk_icmp_eq C dL_law_573 1426 rfl 576 rfl (fun _ => next _ (rel_S h (sG_ahead hI) hE hE2)) (fun c => absurd rfl c)
theorem law_12 (l : Launch) (G : qx_G) {Δ : qx_T} (C : qx_C G Δ cL_law RL 4 12 474) {b L : Nat} {xs : Nat → Int32} (S : qx_Sc Δ b L xs) (i : Nat) (hi : i + 6 ≤ L) (σ : qx_Sg) (h : rel σ) (next : ∀ σ2, rel σ2 → qx_K l G Δ σ2 1426 [(3, .int (nI i)), (0, .ref b), (1, .ref (qx_ad G 0)), (2, .ref (qx_ad G 53))] []) : qx_K l G Δ σ 578 [(3, .int (nI i)), (0, .ref b), (1, .ref (qx_ad G 0)), (2, .ref (qx_ad G 53))] [] := by
  obtain ⟨N, hI, hH⟩ := h.1
  refine qk_aloadn C dL_law_578 579 rfl rfl 2 rfl ?_
  refine qk_aloadn C dL_law_579 580 rfl rfl 1 rfl ?_
  refine qk_iloadn C dL_law_580 581 rfl rfl 0 rfl ?_
  refine qk_iconst C (1) dL_law_581 582 rfl rfl ?_
  refine qk_iadd C dL_law_582 583 rfl ?_
  refine qk_sld C S dL_law_583 584 rfl (i + 1) (nI_add i 1) (by omega) ?_
  refine qk_callV C dL_law_584 587 rfl ql_L_64 qc_X5_left 0 (by decide) rfl rfl (c_X5_left l G σ N (σ 54) hI hH (xs (i + 1))) rfl rfl (Nat.le_of_ble_eq_true rfl) ⟨(Nat.le_of_ble_eq_true rfl), (Nat.le_of_ble_eq_true rfl)⟩ (fun v1 σ1 hE => ?_)
  obtain ⟨rfl, hE⟩ := hE
  refine qk_aloadn C dL_law_587 588 rfl rfl 3 rfl ?_
  refine qk_aloadn C dL_law_588 589 rfl rfl 1 rfl ?_
  refine qk_iloadn C dL_law_589 590 rfl rfl 0 rfl ?_
  refine qk_iconst C (1) dL_law_590 591 rfl rfl ?_
  refine qk_iadd C dL_law_591 592 rfl ?_
  refine qk_sld C S dL_law_592 593 rfl (i + 1) (nI_add i 1) (by omega) ?_
  have e54 : σ1 54 = σ 54 := hE.2.2 54 (by omega) (by omega) (by omega)
  refine qk_sg (va_up σ1 54 (σ 54)) (by rw [← e54, m_upid]) ?_
  refine qk_callV C dL_law_593 596 rfl ql_L_67 qc_X6_left 53 (by decide) rfl rfl (c_X6_left l G σ1 N (σ 54) hI (xs (i + 1))) rfl rfl (Nat.le_of_ble_eq_true rfl) ⟨(Nat.le_of_ble_eq_true rfl), (Nat.le_of_ble_eq_true rfl)⟩ (fun v2 σ2 hE2 => ?_)
  obtain ⟨rfl, hE2⟩ := hE2
  refine qk_icmp_eq C dL_law_596 1426 rfl 599 rfl (fun _ => next _ (rel_S h (sG_left hI) hE hE2)) (fun c => absurd rfl c)
theorem law_13 (l : Launch) (G : qx_G) {Δ : qx_T} (C : qx_C G Δ cL_law RL 4 12 474) {b L : Nat} {xs : Nat → Int32} (S : qx_Sc Δ b L xs) (i : Nat) (hi : i + 6 ≤ L) (σ : qx_Sg) (h : rel σ) (next : ∀ σ2, rel σ2 → qx_K l G Δ σ2 1426 [(3, .int (nI i)), (0, .ref b), (1, .ref (qx_ad G 0)), (2, .ref (qx_ad G 53))] []) : qx_K l G Δ σ 601 [(3, .int (nI i)), (0, .ref b), (1, .ref (qx_ad G 0)), (2, .ref (qx_ad G 53))] [] := by
  obtain ⟨N, hI, hH⟩ := h.1
  refine qk_aloadn C dL_law_601 602 rfl rfl 2 rfl ?_
  refine qk_aloadn C dL_law_602 603 rfl rfl 1 rfl ?_
  refine qk_iloadn C dL_law_603 604 rfl rfl 0 rfl ?_
  refine qk_iconst C (1) dL_law_604 605 rfl rfl ?_
  refine qk_iadd C dL_law_605 606 rfl ?_
  refine qk_sld C S dL_law_606 607 rfl (i + 1) (nI_add i 1) (by omega) ?_
  refine qk_aloadn C dL_law_607 608 rfl rfl 1 rfl ?_
  refine qk_iloadn C dL_law_608 609 rfl rfl 0 rfl ?_
  refine qk_iconst C (2) dL_law_609 610 rfl rfl ?_
  refine qk_iadd C dL_law_610 611 rfl ?_
  refine qk_sld C S dL_law_611 612 rfl (i + 2) (nI_add i 2) (by omega) ?_
  refine qk_callV C dL_law_612 615 rfl ql_L_68 qc_X5_when 0 (by decide) rfl rfl (c_X5_when l G σ N (σ 54) hI hH (xs (i + 1)) (xs (i + 2))) rfl rfl (Nat.le_of_ble_eq_true rfl) ⟨(Nat.le_of_ble_eq_true rfl), (Nat.le_of_ble_eq_true rfl)⟩ (fun v1 σ1 hE => ?_)
  obtain ⟨rfl, hE⟩ := hE
  refine qk_aloadn C dL_law_615 616 rfl rfl 3 rfl ?_
  refine qk_aloadn C dL_law_616 617 rfl rfl 1 rfl ?_
  refine qk_iloadn C dL_law_617 618 rfl rfl 0 rfl ?_
  refine qk_iconst C (1) dL_law_618 619 rfl rfl ?_
  refine qk_iadd C dL_law_619 620 rfl ?_
  refine qk_sld C S dL_law_620 621 rfl (i + 1) (nI_add i 1) (by omega) ?_
  refine qk_aloadn C dL_law_621 622 rfl rfl 1 rfl ?_
  refine qk_iloadn C dL_law_622 623 rfl rfl 0 rfl ?_
  refine qk_iconst C (2) dL_law_623 624 rfl rfl ?_
  refine qk_iadd C dL_law_624 625 rfl ?_
  refine qk_sld C S dL_law_625 626 rfl (i + 2) (nI_add i 2) (by omega) ?_
  have e54 : σ1 54 = σ 54 := hE.2.2 54 (by omega) (by omega) (by omega)
  refine qk_sg (va_up σ1 54 (σ 54)) (by rw [← e54, m_upid]) ?_
  refine qk_callV C dL_law_626 629 rfl ql_L_71 qc_X6_when 53 (by decide) rfl rfl (c_X6_when l G σ1 N (σ 54) hI (xs (i + 1)) (xs (i + 2))) rfl rfl (Nat.le_of_ble_eq_true rfl) ⟨(Nat.le_of_ble_eq_true rfl), (Nat.le_of_ble_eq_true rfl)⟩ (fun v2 σ2 hE2 => ?_)
  obtain ⟨rfl, hE2⟩ := hE2
  refine qk_icmp_eq C dL_law_629 1426 rfl 632 rfl (fun _ => next _ (rel_S h (sG_when hI) hE hE2)) (fun c => absurd rfl c)
theorem law_14 (l : Launch) (G : qx_G) {Δ : qx_T} (C : qx_C G Δ cL_law RL 4 12 474) {b L : Nat} {xs : Nat → Int32} (S : qx_Sc Δ b L xs) (i : Nat) (hi : i + 6 ≤ L) (σ : qx_Sg) (h : rel σ) (next : ∀ σ2, rel σ2 → qx_K l G Δ σ2 1426 [(3, .int (nI i)), (0, .ref b), (1, .ref (qx_ad G 0)), (2, .ref (qx_ad G 53))] []) : qx_K l G Δ σ 634 [(3, .int (nI i)), (0, .ref b), (1, .ref (qx_ad G 0)), (2, .ref (qx_ad G 53))] [] := by
  obtain ⟨N, hI, hH⟩ := h.1
  refine qk_aloadn C dL_law_634 635 rfl rfl 2 rfl ?_
  refine qk_aloadn C dL_law_635 636 rfl rfl 1 rfl ?_
  refine qk_iloadn C dL_law_636 637 rfl rfl 0 rfl ?_
  refine qk_iconst C (1) dL_law_637 638 rfl rfl ?_
  refine qk_iadd C dL_law_638 639 rfl ?_
  refine qk_sld C S dL_law_639 640 rfl (i + 1) (nI_add i 1) (by omega) ?_
  refine qk_callV C dL_law_640 643 rfl ql_L_72 qc_X5_leaves 0 (by decide) rfl rfl (c_X5_leaves l G σ N (σ 54) hI hH (xs (i + 1))) rfl rfl (Nat.le_of_ble_eq_true rfl) ⟨(Nat.le_of_ble_eq_true rfl), (Nat.le_of_ble_eq_true rfl)⟩ (fun v1 σ1 hE => ?_)
  obtain ⟨rfl, hE⟩ := hE
  refine qk_aloadn C dL_law_643 644 rfl rfl 3 rfl ?_
  refine qk_aloadn C dL_law_644 645 rfl rfl 1 rfl ?_
  refine qk_iloadn C dL_law_645 646 rfl rfl 0 rfl ?_
  refine qk_iconst C (1) dL_law_646 647 rfl rfl ?_
  refine qk_iadd C dL_law_647 648 rfl ?_
  refine qk_sld C S dL_law_648 649 rfl (i + 1) (nI_add i 1) (by omega) ?_
  have e54 : σ1 54 = σ 54 := hE.2.2 54 (by omega) (by omega) (by omega)
  refine qk_sg (va_up σ1 54 (σ 54)) (by rw [← e54, m_upid]) ?_
  refine qk_callV C dL_law_649 652 rfl ql_L_75 qc_X6_leaves 53 (by decide) rfl rfl (c_X6_leaves l G σ1 N (σ 54) hI (xs (i + 1))) rfl rfl (Nat.le_of_ble_eq_true rfl) ⟨(Nat.le_of_ble_eq_true rfl), (Nat.le_of_ble_eq_true rfl)⟩ (fun v2 σ2 hE2 => ?_)
  obtain ⟨rfl, hE2⟩ := hE2
  refine qk_icmp_eq C dL_law_652 1426 rfl 655 rfl (fun _ => next _ (rel_S h (sG_leaves hI) hE hE2)) (fun c => absurd rfl c)
theorem law_15 (l : Launch) (G : qx_G) {Δ : qx_T} (C : qx_C G Δ cL_law RL 4 12 474) {b L : Nat} {xs : Nat → Int32} (S : qx_Sc Δ b L xs) (i : Nat) (hi : i + 6 ≤ L) (σ : qx_Sg) (h : rel σ) (next : ∀ σ2, rel σ2 → qx_K l G Δ σ2 1426 [(3, .int (nI i)), (0, .ref b), (1, .ref (qx_ad G 0)), (2, .ref (qx_ad G 53))] []) : qx_K l G Δ σ 657 [(3, .int (nI i)), (0, .ref b), (1, .ref (qx_ad G 0)), (2, .ref (qx_ad G 53))] [] := by
  obtain ⟨N, hI, hH⟩ := h.1
  refine qk_aloadn C dL_law_657 658 rfl rfl 2 rfl ?_
  refine qk_aloadn C dL_law_658 659 rfl rfl 1 rfl ?_
  refine qk_iloadn C dL_law_659 660 rfl rfl 0 rfl ?_
  refine qk_iconst C (1) dL_law_660 661 rfl rfl ?_
  refine qk_iadd C dL_law_661 662 rfl ?_
  refine qk_sld C S dL_law_662 663 rfl (i + 1) (nI_add i 1) (by omega) ?_
  refine qk_aloadn C dL_law_663 664 rfl rfl 1 rfl ?_
  refine qk_iloadn C dL_law_664 665 rfl rfl 0 rfl ?_
  refine qk_iconst C (2) dL_law_665 666 rfl rfl ?_
  refine qk_iadd C dL_law_666 667 rfl ?_
  refine qk_sld C S dL_law_667 668 rfl (i + 2) (nI_add i 2) (by omega) ?_
  refine qk_callV C dL_law_668 671 rfl ql_L_76 qc_X5_voice 0 (by decide) rfl rfl (c_X5_voice l G σ N (σ 54) hI hH (xs (i + 1)) (xs (i + 2))) rfl rfl (Nat.le_of_ble_eq_true rfl) ⟨(Nat.le_of_ble_eq_true rfl), (Nat.le_of_ble_eq_true rfl)⟩ (fun v1 σ1 hE => ?_)
  obtain ⟨rfl, hE⟩ := hE
  refine qk_aloadn C dL_law_671 672 rfl rfl 3 rfl ?_
  refine qk_aloadn C dL_law_672 673 rfl rfl 1 rfl ?_
  refine qk_iloadn C dL_law_673 674 rfl rfl 0 rfl ?_
  refine qk_iconst C (1) dL_law_674 675 rfl rfl ?_
  refine qk_iadd C dL_law_675 676 rfl ?_
  refine qk_sld C S dL_law_676 677 rfl (i + 1) (nI_add i 1) (by omega) ?_
  refine qk_aloadn C dL_law_677 678 rfl rfl 1 rfl ?_
  refine qk_iloadn C dL_law_678 679 rfl rfl 0 rfl ?_
  refine qk_iconst C (2) dL_law_679 680 rfl rfl ?_
  refine qk_iadd C dL_law_680 681 rfl ?_
  refine qk_sld C S dL_law_681 682 rfl (i + 2) (nI_add i 2) (by omega) ?_
  have e54 : σ1 54 = σ 54 := hE.2.2 54 (by omega) (by omega) (by omega)
  refine qk_sg (va_up σ1 54 (σ 54)) (by rw [← e54, m_upid]) ?_
  refine qk_callV C dL_law_682 685 rfl ql_L_79 qc_X6_voice 53 (by decide) rfl rfl (c_X6_voice l G σ1 N (σ 54) hI (xs (i + 1)) (xs (i + 2))) rfl rfl (Nat.le_of_ble_eq_true rfl) ⟨(Nat.le_of_ble_eq_true rfl), (Nat.le_of_ble_eq_true rfl)⟩ (fun v2 σ2 hE2 => ?_)
  obtain ⟨rfl, hE2⟩ := hE2
  refine qk_icmp_eq C dL_law_685 1426 rfl 688 rfl (fun _ => next _ (rel_S h (sG_voice hI) hE hE2)) (fun c => absurd rfl c)
theorem law_16 (l : Launch) (G : qx_G) {Δ : qx_T} (C : qx_C G Δ cL_law RL 4 12 474) {b L : Nat} {xs : Nat → Int32} (S : qx_Sc Δ b L xs) (i : Nat) (hi : i + 6 ≤ L) (σ : qx_Sg) (h : rel σ) (next : ∀ σ2, rel σ2 → qx_K l G Δ σ2 1426 [(3, .int (nI i)), (0, .ref b), (1, .ref (qx_ad G 0)), (2, .ref (qx_ad G 53))] []) : qx_K l G Δ σ 690 [(3, .int (nI i)), (0, .ref b), (1, .ref (qx_ad G 0)), (2, .ref (qx_ad G 53))] [] := by
  obtain ⟨N, hI, hH⟩ := h.1
  refine qk_aloadn C dL_law_690 691 rfl rfl 2 rfl ?_
  refine qk_aloadn C dL_law_691 692 rfl rfl 1 rfl ?_
  refine qk_iloadn C dL_law_692 693 rfl rfl 0 rfl ?_
  refine qk_iconst C (1) dL_law_693 694 rfl rfl ?_
  refine qk_iadd C dL_law_694 695 rfl ?_
  refine qk_sld C S dL_law_695 696 rfl (i + 1) (nI_add i 1) (by omega) ?_
  refine qk_aloadn C dL_law_696 697 rfl rfl 1 rfl ?_
  refine qk_iloadn C dL_law_697 698 rfl rfl 0 rfl ?_
  refine qk_iconst C (2) dL_law_698 699 rfl rfl ?_
  refine qk_iadd C dL_law_699 700 rfl ?_
  refine qk_sld C S dL_law_700 701 rfl (i + 2) (nI_add i 2) (by omega) ?_
  refine qk_aloadn C dL_law_701 702 rfl rfl 1 rfl ?_
  refine qk_iloadn C dL_law_702 703 rfl rfl 0 rfl ?_
  refine qk_iconst C (3) dL_law_703 704 rfl rfl ?_
  refine qk_iadd C dL_law_704 705 rfl ?_
  refine qk_sld C S dL_law_705 706 rfl (i + 3) (nI_add i 3) (by omega) ?_
  refine qk_callV C dL_law_706 709 rfl ql_L_80 qc_X5_orderFor 0 (by decide) rfl rfl (c_X5_orderFor l G σ N (σ 54) hI hH (xs (i + 1)) (xs (i + 2)) (xs (i + 3))) rfl rfl (Nat.le_of_ble_eq_true rfl) ⟨(Nat.le_of_ble_eq_true rfl), (Nat.le_of_ble_eq_true rfl)⟩ (fun v1 σ1 hE => ?_)
  obtain ⟨rfl, hE⟩ := hE
  refine qk_aloadn C dL_law_709 710 rfl rfl 3 rfl ?_
  refine qk_aloadn C dL_law_710 711 rfl rfl 1 rfl ?_
  refine qk_iloadn C dL_law_711 712 rfl rfl 0 rfl ?_
  refine qk_iconst C (1) dL_law_712 713 rfl rfl ?_
  refine qk_iadd C dL_law_713 714 rfl ?_
  refine qk_sld C S dL_law_714 715 rfl (i + 1) (nI_add i 1) (by omega) ?_
  refine qk_aloadn C dL_law_715 716 rfl rfl 1 rfl ?_
  refine qk_iloadn C dL_law_716 717 rfl rfl 0 rfl ?_
  refine qk_iconst C (2) dL_law_717 718 rfl rfl ?_
  refine qk_iadd C dL_law_718 719 rfl ?_
  refine qk_sld C S dL_law_719 720 rfl (i + 2) (nI_add i 2) (by omega) ?_
  refine qk_aloadn C dL_law_720 721 rfl rfl 1 rfl ?_
  refine qk_iloadn C dL_law_721 722 rfl rfl 0 rfl ?_
  refine qk_iconst C (3) dL_law_722 723 rfl rfl ?_
  refine qk_iadd C dL_law_723 724 rfl ?_
  refine qk_sld C S dL_law_724 725 rfl (i + 3) (nI_add i 3) (by omega) ?_
  have e54 : σ1 54 = σ 54 := hE.2.2 54 (by omega) (by omega) (by omega)
  refine qk_sg (va_up σ1 54 (σ 54)) (by rw [← e54, m_upid]) ?_
  refine qk_callV C dL_law_725 728 rfl ql_L_83 qc_X6_orderFor 53 (by decide) rfl rfl (c_X6_orderFor l G σ1 N (σ 54) hI (xs (i + 1)) (xs (i + 2)) (xs (i + 3))) rfl rfl (Nat.le_of_ble_eq_true rfl) ⟨(Nat.le_of_ble_eq_true rfl), (Nat.le_of_ble_eq_true rfl)⟩ (fun v2 σ2 hE2 => ?_)
  obtain ⟨rfl, hE2⟩ := hE2
  refine qk_icmp_eq C dL_law_728 1426 rfl 731 rfl (fun _ => next _ (rel_S h (sG_orderFor hI) hE hE2)) (fun c => absurd rfl c)
theorem law_17 (l : Launch) (G : qx_G) {Δ : qx_T} (C : qx_C G Δ cL_law RL 4 12 474) {b L : Nat} {xs : Nat → Int32} (S : qx_Sc Δ b L xs) (i : Nat) (hi : i + 6 ≤ L) (σ : qx_Sg) (h : rel σ) (next : ∀ σ2, rel σ2 → qx_K l G Δ σ2 1426 [(3, .int (nI i)), (0, .ref b), (1, .ref (qx_ad G 0)), (2, .ref (qx_ad G 53))] []) : qx_K l G Δ σ 733 [(3, .int (nI i)), (0, .ref b), (1, .ref (qx_ad G 0)), (2, .ref (qx_ad G 53))] [] := by
  obtain ⟨N, hI, hH⟩ := h.1
  refine qk_aloadn C dL_law_733 734 rfl rfl 2 rfl ?_
  refine qk_aloadn C dL_law_734 735 rfl rfl 1 rfl ?_
  refine qk_iloadn C dL_law_735 736 rfl rfl 0 rfl ?_
  refine qk_iconst C (1) dL_law_736 737 rfl rfl ?_
  refine qk_iadd C dL_law_737 738 rfl ?_
  refine qk_sld C S dL_law_738 739 rfl (i + 1) (nI_add i 1) (by omega) ?_
  refine qk_aloadn C dL_law_739 740 rfl rfl 1 rfl ?_
  refine qk_iloadn C dL_law_740 741 rfl rfl 0 rfl ?_
  refine qk_iconst C (2) dL_law_741 742 rfl rfl ?_
  refine qk_iadd C dL_law_742 743 rfl ?_
  refine qk_sld C S dL_law_743 744 rfl (i + 2) (nI_add i 2) (by omega) ?_
  refine qk_aloadn C dL_law_744 745 rfl rfl 1 rfl ?_
  refine qk_iloadn C dL_law_745 746 rfl rfl 0 rfl ?_
  refine qk_iconst C (3) dL_law_746 747 rfl rfl ?_
  refine qk_iadd C dL_law_747 748 rfl ?_
  refine qk_sld C S dL_law_748 749 rfl (i + 3) (nI_add i 3) (by omega) ?_
  refine qk_callV C dL_law_749 752 rfl ql_L_84 qc_X5_dateFor 0 (by decide) rfl rfl (c_X5_dateFor l G σ N (σ 54) hI hH (xs (i + 1)) (xs (i + 2)) (xs (i + 3))) rfl rfl (Nat.le_of_ble_eq_true rfl) ⟨(Nat.le_of_ble_eq_true rfl), (Nat.le_of_ble_eq_true rfl)⟩ (fun v1 σ1 hE => ?_)
  rw [p_dateFor] at hE
  obtain ⟨rfl, hE⟩ := hE
  refine qk_aloadn C dL_law_752 753 rfl rfl 3 rfl ?_
  refine qk_aloadn C dL_law_753 754 rfl rfl 1 rfl ?_
  refine qk_iloadn C dL_law_754 755 rfl rfl 0 rfl ?_
  refine qk_iconst C (1) dL_law_755 756 rfl rfl ?_
  refine qk_iadd C dL_law_756 757 rfl ?_
  refine qk_sld C S dL_law_757 758 rfl (i + 1) (nI_add i 1) (by omega) ?_
  refine qk_aloadn C dL_law_758 759 rfl rfl 1 rfl ?_
  refine qk_iloadn C dL_law_759 760 rfl rfl 0 rfl ?_
  refine qk_iconst C (2) dL_law_760 761 rfl rfl ?_
  refine qk_iadd C dL_law_761 762 rfl ?_
  refine qk_sld C S dL_law_762 763 rfl (i + 2) (nI_add i 2) (by omega) ?_
  refine qk_aloadn C dL_law_763 764 rfl rfl 1 rfl ?_
  refine qk_iloadn C dL_law_764 765 rfl rfl 0 rfl ?_
  refine qk_iconst C (3) dL_law_765 766 rfl rfl ?_
  refine qk_iadd C dL_law_766 767 rfl ?_
  refine qk_sld C S dL_law_767 768 rfl (i + 3) (nI_add i 3) (by omega) ?_
  have e54 : σ1 54 = σ 54 := hE.2.2 54 (by omega) (by omega) (by omega)
  refine qk_sg (va_up σ1 54 (σ 54)) (by rw [← e54, m_upid]) ?_
  refine qk_callV C dL_law_768 771 rfl ql_L_87 qc_X6_dateFor 53 (by decide) rfl rfl (c_X6_dateFor l G σ1 N (σ 54) hI (xs (i + 1)) (xs (i + 2)) (xs (i + 3))) rfl rfl (Nat.le_of_ble_eq_true rfl) ⟨(Nat.le_of_ble_eq_true rfl), (Nat.le_of_ble_eq_true rfl)⟩ (fun v2 σ2 hE2 => ?_)
  obtain ⟨rfl, hE2⟩ := hE2
  refine qk_icmp_eq C dL_law_771 1426 rfl 774 rfl (fun _ => next _ (rel_S h (sG_dateFor hI) hE hE2)) (fun c => absurd rfl c)
theorem law_18 (l : Launch) (G : qx_G) {Δ : qx_T} (C : qx_C G Δ cL_law RL 4 12 474) {b L : Nat} {xs : Nat → Int32} (S : qx_Sc Δ b L xs) (i : Nat) (hi : i + 6 ≤ L) (σ : qx_Sg) (h : rel σ) (next : ∀ σ2, rel σ2 → qx_K l G Δ σ2 1426 [(3, .int (nI i)), (0, .ref b), (1, .ref (qx_ad G 0)), (2, .ref (qx_ad G 53))] []) : qx_K l G Δ σ 776 [(3, .int (nI i)), (0, .ref b), (1, .ref (qx_ad G 0)), (2, .ref (qx_ad G 53))] [] := by
  obtain ⟨N, hI, hH⟩ := h.1
  refine qk_aloadn C dL_law_776 777 rfl rfl 2 rfl ?_
  refine qk_aloadn C dL_law_777 778 rfl rfl 1 rfl ?_
  refine qk_iloadn C dL_law_778 779 rfl rfl 0 rfl ?_
  refine qk_iconst C (1) dL_law_779 780 rfl rfl ?_
  refine qk_iadd C dL_law_780 781 rfl ?_
  refine qk_sld C S dL_law_781 782 rfl (i + 1) (nI_add i 1) (by omega) ?_
  refine qk_aloadn C dL_law_782 783 rfl rfl 1 rfl ?_
  refine qk_iloadn C dL_law_783 784 rfl rfl 0 rfl ?_
  refine qk_iconst C (2) dL_law_784 785 rfl rfl ?_
  refine qk_iadd C dL_law_785 786 rfl ?_
  refine qk_sld C S dL_law_786 787 rfl (i + 2) (nI_add i 2) (by omega) ?_
  refine qk_callV C dL_law_787 790 rfl ql_L_88 qc_X5_kindFor 0 (by decide) rfl rfl (c_X5_kindFor l G σ N (σ 54) hI hH (xs (i + 1)) (xs (i + 2))) rfl rfl (Nat.le_of_ble_eq_true rfl) ⟨(Nat.le_of_ble_eq_true rfl), (Nat.le_of_ble_eq_true rfl)⟩ (fun v1 σ1 hE => ?_)
  obtain ⟨rfl, hE⟩ := hE
  refine qk_aloadn C dL_law_790 791 rfl rfl 3 rfl ?_
  refine qk_aloadn C dL_law_791 792 rfl rfl 1 rfl ?_
  refine qk_iloadn C dL_law_792 793 rfl rfl 0 rfl ?_
  refine qk_iconst C (1) dL_law_793 794 rfl rfl ?_
  refine qk_iadd C dL_law_794 795 rfl ?_
  refine qk_sld C S dL_law_795 796 rfl (i + 1) (nI_add i 1) (by omega) ?_
  refine qk_aloadn C dL_law_796 797 rfl rfl 1 rfl ?_
  refine qk_iloadn C dL_law_797 798 rfl rfl 0 rfl ?_
  refine qk_iconst C (2) dL_law_798 799 rfl rfl ?_
  refine qk_iadd C dL_law_799 800 rfl ?_
  refine qk_sld C S dL_law_800 801 rfl (i + 2) (nI_add i 2) (by omega) ?_
  have e54 : σ1 54 = σ 54 := hE.2.2 54 (by omega) (by omega) (by omega)
  refine qk_sg (va_up σ1 54 (σ 54)) (by rw [← e54, m_upid]) ?_
  refine qk_callV C dL_law_801 804 rfl ql_L_91 qc_X6_kindFor 53 (by decide) rfl rfl (c_X6_kindFor l G σ1 N (σ 54) hI (xs (i + 1)) (xs (i + 2))) rfl rfl (Nat.le_of_ble_eq_true rfl) ⟨(Nat.le_of_ble_eq_true rfl), (Nat.le_of_ble_eq_true rfl)⟩ (fun v2 σ2 hE2 => ?_)
  obtain ⟨rfl, hE2⟩ := hE2
  refine qk_icmp_eq C dL_law_804 1426 rfl 807 rfl (fun _ => next _ (rel_S h (sG_kindFor hI) hE hE2)) (fun c => absurd rfl c)
theorem law_19 (l : Launch) (G : qx_G) {Δ : qx_T} (C : qx_C G Δ cL_law RL 4 12 474) {b L : Nat} {xs : Nat → Int32} (S : qx_Sc Δ b L xs) (i : Nat) (hi : i + 6 ≤ L) (σ : qx_Sg) (h : rel σ) (next : ∀ σ2, rel σ2 → qx_K l G Δ σ2 1426 [(3, .int (nI i)), (0, .ref b), (1, .ref (qx_ad G 0)), (2, .ref (qx_ad G 53))] []) : qx_K l G Δ σ 809 [(3, .int (nI i)), (0, .ref b), (1, .ref (qx_ad G 0)), (2, .ref (qx_ad G 53))] [] := by
  obtain ⟨N, hI, hH⟩ := h.1
  refine qk_aloadn C dL_law_809 810 rfl rfl 2 rfl ?_
  refine qk_aloadn C dL_law_810 811 rfl rfl 1 rfl ?_
  refine qk_iloadn C dL_law_811 812 rfl rfl 0 rfl ?_
  refine qk_iconst C (1) dL_law_812 813 rfl rfl ?_
  refine qk_iadd C dL_law_813 814 rfl ?_
  refine qk_sld C S dL_law_814 815 rfl (i + 1) (nI_add i 1) (by omega) ?_
  refine qk_aloadn C dL_law_815 816 rfl rfl 1 rfl ?_
  refine qk_iloadn C dL_law_816 817 rfl rfl 0 rfl ?_
  refine qk_iconst C (2) dL_law_817 818 rfl rfl ?_
  refine qk_iadd C dL_law_818 819 rfl ?_
  refine qk_sld C S dL_law_819 820 rfl (i + 2) (nI_add i 2) (by omega) ?_
  refine qk_callV C dL_law_820 823 rfl ql_L_92 qc_X5_pathTo 0 (by decide) rfl rfl (c_X5_pathTo l G σ N (σ 54) hI hH (xs (i + 1)) (xs (i + 2))) rfl rfl (Nat.le_of_ble_eq_true rfl) ⟨(Nat.le_of_ble_eq_true rfl), (Nat.le_of_ble_eq_true rfl)⟩ (fun v1 σ1 hE => ?_)
  rw [p_pathTo hI] at hE
  obtain ⟨rfl, hE⟩ := hE
  refine qk_aloadn C dL_law_823 824 rfl rfl 3 rfl ?_
  refine qk_aloadn C dL_law_824 825 rfl rfl 1 rfl ?_
  refine qk_iloadn C dL_law_825 826 rfl rfl 0 rfl ?_
  refine qk_iconst C (1) dL_law_826 827 rfl rfl ?_
  refine qk_iadd C dL_law_827 828 rfl ?_
  refine qk_sld C S dL_law_828 829 rfl (i + 1) (nI_add i 1) (by omega) ?_
  refine qk_aloadn C dL_law_829 830 rfl rfl 1 rfl ?_
  refine qk_iloadn C dL_law_830 831 rfl rfl 0 rfl ?_
  refine qk_iconst C (2) dL_law_831 832 rfl rfl ?_
  refine qk_iadd C dL_law_832 833 rfl ?_
  refine qk_sld C S dL_law_833 834 rfl (i + 2) (nI_add i 2) (by omega) ?_
  have e54 : σ1 54 = σ 54 := hE.2.2 54 (by omega) (by omega) (by omega)
  refine qk_sg (va_up σ1 54 (σ 54)) (by rw [← e54, m_upid]) ?_
  refine qk_callV C dL_law_834 837 rfl ql_L_95 qc_X6_pathTo 53 (by decide) rfl rfl (c_X6_pathTo l G σ1 N (σ 54) hI (xs (i + 1)) (xs (i + 2))) rfl rfl (Nat.le_of_ble_eq_true rfl) ⟨(Nat.le_of_ble_eq_true rfl), (Nat.le_of_ble_eq_true rfl)⟩ (fun v2 σ2 hE2 => ?_)
  obtain ⟨rfl, hE2⟩ := hE2
  refine qk_icmp_eq C dL_law_837 1426 rfl 840 rfl (fun _ => next _ (rel_S h (sG_pathTo hI) hE hE2)) (fun c => absurd rfl c)
theorem law_20 (l : Launch) (G : qx_G) {Δ : qx_T} (C : qx_C G Δ cL_law RL 4 12 474) {b L : Nat} {xs : Nat → Int32} (S : qx_Sc Δ b L xs) (i : Nat) (hi : i + 6 ≤ L) (σ : qx_Sg) (h : rel σ) (next : ∀ σ2, rel σ2 → qx_K l G Δ σ2 1426 [(3, .int (nI i)), (0, .ref b), (1, .ref (qx_ad G 0)), (2, .ref (qx_ad G 53))] []) : qx_K l G Δ σ 842 [(3, .int (nI i)), (0, .ref b), (1, .ref (qx_ad G 0)), (2, .ref (qx_ad G 53))] [] := by
  obtain ⟨N, hI, hH⟩ := h.1
  refine qk_aloadn C dL_law_842 843 rfl rfl 2 rfl ?_
  refine qk_aloadn C dL_law_843 844 rfl rfl 1 rfl ?_
  refine qk_iloadn C dL_law_844 845 rfl rfl 0 rfl ?_
  refine qk_iconst C (1) dL_law_845 846 rfl rfl ?_
  refine qk_iadd C dL_law_846 847 rfl ?_
  refine qk_sld C S dL_law_847 848 rfl (i + 1) (nI_add i 1) (by omega) ?_
  refine qk_callV C dL_law_848 851 rfl ql_L_96 qc_X5_seal 0 (by decide) rfl rfl (c_X5_seal l G σ N (σ 54) hI hH (xs (i + 1))) rfl rfl (Nat.le_of_ble_eq_true rfl) ⟨(Nat.le_of_ble_eq_true rfl), (Nat.le_of_ble_eq_true rfl)⟩ (fun v1 σ1 hE => ?_)
  rw [p_sealS hI.1] at hE
  obtain ⟨rfl, hE⟩ := hE
  refine qk_aloadn C dL_law_851 852 rfl rfl 3 rfl ?_
  refine qk_aloadn C dL_law_852 853 rfl rfl 1 rfl ?_
  refine qk_iloadn C dL_law_853 854 rfl rfl 0 rfl ?_
  refine qk_iconst C (1) dL_law_854 855 rfl rfl ?_
  refine qk_iadd C dL_law_855 856 rfl ?_
  refine qk_sld C S dL_law_856 857 rfl (i + 1) (nI_add i 1) (by omega) ?_
  have e54 : σ1 54 = σ 54 := hE.2.2 54 (by omega) (by omega) (by omega)
  refine qk_sg (va_up σ1 54 (σ 54)) (by rw [← e54, m_upid]) ?_
  refine qk_callV C dL_law_857 860 rfl ql_L_99 qc_X6_seal 53 (by decide) rfl rfl (c_X6_seal l G σ1 N (σ 54) hI (xs (i + 1))) rfl rfl (Nat.le_of_ble_eq_true rfl) ⟨(Nat.le_of_ble_eq_true rfl), (Nat.le_of_ble_eq_true rfl)⟩ (fun v2 σ2 hE2 => ?_)
  obtain ⟨rfl, hE2⟩ := hE2
  refine qk_icmp_eq C dL_law_860 1426 rfl 863 rfl (fun _ => next _ (rel_S h (sG_seal hI) hE hE2)) (fun c => absurd rfl c)
theorem law_21 (l : Launch) (G : qx_G) {Δ : qx_T} (C : qx_C G Δ cL_law RL 4 12 474) {b L : Nat} {xs : Nat → Int32} (S : qx_Sc Δ b L xs) (i : Nat) (hi : i + 6 ≤ L) (σ : qx_Sg) (h : rel σ) (next : ∀ σ2, rel σ2 → qx_K l G Δ σ2 1426 [(3, .int (nI i)), (0, .ref b), (1, .ref (qx_ad G 0)), (2, .ref (qx_ad G 53))] []) : qx_K l G Δ σ 865 [(3, .int (nI i)), (0, .ref b), (1, .ref (qx_ad G 0)), (2, .ref (qx_ad G 53))] [] := by
  obtain ⟨N, hI, hH⟩ := h.1
  refine qk_aloadn C dL_law_865 866 rfl rfl 2 rfl ?_
  refine qk_aloadn C dL_law_866 867 rfl rfl 1 rfl ?_
  refine qk_iloadn C dL_law_867 868 rfl rfl 0 rfl ?_
  refine qk_iconst C (1) dL_law_868 869 rfl rfl ?_
  refine qk_iadd C dL_law_869 870 rfl ?_
  refine qk_sld C S dL_law_870 871 rfl (i + 1) (nI_add i 1) (by omega) ?_
  refine qk_aloadn C dL_law_871 872 rfl rfl 1 rfl ?_
  refine qk_iloadn C dL_law_872 873 rfl rfl 0 rfl ?_
  refine qk_iconst C (2) dL_law_873 874 rfl rfl ?_
  refine qk_iadd C dL_law_874 875 rfl ?_
  refine qk_sld C S dL_law_875 876 rfl (i + 2) (nI_add i 2) (by omega) ?_
  refine qk_callV C dL_law_876 879 rfl ql_L_100 qc_X5_fits 0 (by decide) rfl rfl (c_X5_fits l G σ N (σ 54) hI hH h.2.2.2.2.2 (xs (i + 1)) (xs (i + 2))) rfl rfl (Nat.le_of_ble_eq_true rfl) ⟨(Nat.le_of_ble_eq_true rfl), (Nat.le_of_ble_eq_true rfl)⟩ (fun v1 σ1 hE => ?_)
  obtain ⟨rfl, hE⟩ := hE
  refine qk_aloadn C dL_law_879 880 rfl rfl 3 rfl ?_
  refine qk_aloadn C dL_law_880 881 rfl rfl 1 rfl ?_
  refine qk_iloadn C dL_law_881 882 rfl rfl 0 rfl ?_
  refine qk_iconst C (1) dL_law_882 883 rfl rfl ?_
  refine qk_iadd C dL_law_883 884 rfl ?_
  refine qk_sld C S dL_law_884 885 rfl (i + 1) (nI_add i 1) (by omega) ?_
  refine qk_aloadn C dL_law_885 886 rfl rfl 1 rfl ?_
  refine qk_iloadn C dL_law_886 887 rfl rfl 0 rfl ?_
  refine qk_iconst C (2) dL_law_887 888 rfl rfl ?_
  refine qk_iadd C dL_law_888 889 rfl ?_
  refine qk_sld C S dL_law_889 890 rfl (i + 2) (nI_add i 2) (by omega) ?_
  have e54 : σ1 54 = σ 54 := hE.2.2 54 (by omega) (by omega) (by omega)
  have oE : ∀ k, 53 ≤ k → k < 65 → σ1 k = σ k := fun k a c => hE.2.2 k c (by omega) (by omega)
  refine qk_sg (va_up σ1 54 (σ 54)) (by rw [← e54, m_upid]) ?_
  refine qk_callV C dL_law_890 893 rfl ql_L_103 qc_X6_fits 53 (by decide) rfl rfl (c_X6_fits l G σ1 N (σ 54) hI (r_qS h.2.2.2.1 h.2.2.2.2.2 (oE 61 (by omega) (by omega)) (oE 62 (by omega) (by omega))) (xs (i + 1)) (xs (i + 2))) rfl rfl (Nat.le_of_ble_eq_true rfl) ⟨(Nat.le_of_ble_eq_true rfl), (Nat.le_of_ble_eq_true rfl)⟩ (fun v2 σ2 hE2 => ?_)
  rw [r_fits h.2.2.2.1 h.2.2.2.2.2 (oE 61 (by omega) (by omega)) (oE 62 (by omega) (by omega)) (oE 63 (by omega) (by omega))] at hE2
  obtain ⟨rfl, hE2⟩ := hE2
  refine qk_icmp_eq C dL_law_893 1426 rfl 896 rfl (fun _ => next _ (rel_S h (sG_fits hI) hE hE2)) (fun c => absurd rfl c)
theorem law_22 (l : Launch) (G : qx_G) {Δ : qx_T} (C : qx_C G Δ cL_law RL 4 12 474) {b L : Nat} {xs : Nat → Int32} (S : qx_Sc Δ b L xs) (i : Nat) (hi : i + 6 ≤ L) (σ : qx_Sg) (h : rel σ) (next : ∀ σ2, rel σ2 → qx_K l G Δ σ2 1426 [(3, .int (nI i)), (0, .ref b), (1, .ref (qx_ad G 0)), (2, .ref (qx_ad G 53))] []) : qx_K l G Δ σ 898 [(3, .int (nI i)), (0, .ref b), (1, .ref (qx_ad G 0)), (2, .ref (qx_ad G 53))] [] := by
  obtain ⟨N, hI, hH⟩ := h.1
  refine qk_aloadn C dL_law_898 899 rfl rfl 2 rfl ?_
  refine qk_aloadn C dL_law_899 900 rfl rfl 1 rfl ?_
  refine qk_iloadn C dL_law_900 901 rfl rfl 0 rfl ?_
  refine qk_iconst C (1) dL_law_901 902 rfl rfl ?_
  refine qk_iadd C dL_law_902 903 rfl ?_
  refine qk_sld C S dL_law_903 904 rfl (i + 1) (nI_add i 1) (by omega) ?_
  refine qk_aloadn C dL_law_904 905 rfl rfl 1 rfl ?_
  refine qk_iloadn C dL_law_905 906 rfl rfl 0 rfl ?_
  refine qk_iconst C (2) dL_law_906 907 rfl rfl ?_
  refine qk_iadd C dL_law_907 908 rfl ?_
  refine qk_sld C S dL_law_908 909 rfl (i + 2) (nI_add i 2) (by omega) ?_
  refine qk_callV C dL_law_909 912 rfl ql_L_104 qc_X5_kinds 0 (by decide) rfl rfl (c_X5_kinds l G σ N (σ 54) hI hH h.2.2.2.2.2 (xs (i + 1)) (xs (i + 2))) rfl rfl (Nat.le_of_ble_eq_true rfl) ⟨(Nat.le_of_ble_eq_true rfl), (Nat.le_of_ble_eq_true rfl)⟩ (fun v1 σ1 hE => ?_)
  obtain ⟨rfl, hE⟩ := hE
  refine qk_aloadn C dL_law_912 913 rfl rfl 3 rfl ?_
  refine qk_aloadn C dL_law_913 914 rfl rfl 1 rfl ?_
  refine qk_iloadn C dL_law_914 915 rfl rfl 0 rfl ?_
  refine qk_iconst C (1) dL_law_915 916 rfl rfl ?_
  refine qk_iadd C dL_law_916 917 rfl ?_
  refine qk_sld C S dL_law_917 918 rfl (i + 1) (nI_add i 1) (by omega) ?_
  refine qk_aloadn C dL_law_918 919 rfl rfl 1 rfl ?_
  refine qk_iloadn C dL_law_919 920 rfl rfl 0 rfl ?_
  refine qk_iconst C (2) dL_law_920 921 rfl rfl ?_
  refine qk_iadd C dL_law_921 922 rfl ?_
  refine qk_sld C S dL_law_922 923 rfl (i + 2) (nI_add i 2) (by omega) ?_
  have e54 : σ1 54 = σ 54 := hE.2.2 54 (by omega) (by omega) (by omega)
  have oE : ∀ k, 53 ≤ k → k < 65 → σ1 k = σ k := fun k a c => hE.2.2 k c (by omega) (by omega)
  refine qk_sg (va_up σ1 54 (σ 54)) (by rw [← e54, m_upid]) ?_
  refine qk_callV C dL_law_923 926 rfl ql_L_107 qc_X6_kinds 53 (by decide) rfl rfl (c_X6_kinds l G σ1 N (σ 54) hI (r_qS h.2.2.2.1 h.2.2.2.2.2 (oE 61 (by omega) (by omega)) (oE 62 (by omega) (by omega))) (xs (i + 1)) (xs (i + 2))) rfl rfl (Nat.le_of_ble_eq_true rfl) ⟨(Nat.le_of_ble_eq_true rfl), (Nat.le_of_ble_eq_true rfl)⟩ (fun v2 σ2 hE2 => ?_)
  rw [r_kinds h.2.2.2.1 h.2.2.2.2.2 (oE 61 (by omega) (by omega)) (oE 62 (by omega) (by omega)) (oE 63 (by omega) (by omega))] at hE2
  obtain ⟨rfl, hE2⟩ := hE2
  refine qk_icmp_eq C dL_law_926 1426 rfl 929 rfl (fun _ => next _ (rel_S h (sG_kinds hI) hE hE2)) (fun c => absurd rfl c)
theorem law_23 (l : Launch) (G : qx_G) {Δ : qx_T} (C : qx_C G Δ cL_law RL 4 12 474) {b L : Nat} {xs : Nat → Int32} (S : qx_Sc Δ b L xs) (i : Nat) (hi : i + 6 ≤ L) (σ : qx_Sg) (h : rel σ) (next : ∀ σ2, rel σ2 → qx_K l G Δ σ2 1426 [(3, .int (nI i)), (0, .ref b), (1, .ref (qx_ad G 0)), (2, .ref (qx_ad G 53))] []) : qx_K l G Δ σ 931 [(3, .int (nI i)), (0, .ref b), (1, .ref (qx_ad G 0)), (2, .ref (qx_ad G 53))] [] := by
  obtain ⟨N, hI, hH⟩ := h.1
  refine qk_aloadn C dL_law_931 932 rfl rfl 2 rfl ?_
  refine qk_aloadn C dL_law_932 933 rfl rfl 1 rfl ?_
  refine qk_iloadn C dL_law_933 934 rfl rfl 0 rfl ?_
  refine qk_iconst C (1) dL_law_934 935 rfl rfl ?_
  refine qk_iadd C dL_law_935 936 rfl ?_
  refine qk_sld C S dL_law_936 937 rfl (i + 1) (nI_add i 1) (by omega) ?_
  refine qk_callV C dL_law_937 940 rfl ql_L_108 qc_X5_chance 0 (by decide) rfl rfl (c_X5_chance l G σ N (σ 54) hI hH (xs (i + 1))) rfl rfl (Nat.le_of_ble_eq_true rfl) ⟨(Nat.le_of_ble_eq_true rfl), (Nat.le_of_ble_eq_true rfl)⟩ (fun v1 σ1 hE => ?_)
  obtain ⟨rfl, hE⟩ := hE
  refine qk_aloadn C dL_law_940 941 rfl rfl 3 rfl ?_
  refine qk_aloadn C dL_law_941 942 rfl rfl 1 rfl ?_
  refine qk_iloadn C dL_law_942 943 rfl rfl 0 rfl ?_
  refine qk_iconst C (1) dL_law_943 944 rfl rfl ?_
  refine qk_iadd C dL_law_944 945 rfl ?_
  refine qk_sld C S dL_law_945 946 rfl (i + 1) (nI_add i 1) (by omega) ?_
  have e54 : σ1 54 = σ 54 := hE.2.2 54 (by omega) (by omega) (by omega)
  refine qk_sg (va_up σ1 54 (σ 54)) (by rw [← e54, m_upid]) ?_
  refine qk_callV C dL_law_946 949 rfl ql_L_111 qc_X6_chance 53 (by decide) rfl rfl (c_X6_chance l G σ1 N (σ 54) hI (xs (i + 1))) rfl rfl (Nat.le_of_ble_eq_true rfl) ⟨(Nat.le_of_ble_eq_true rfl), (Nat.le_of_ble_eq_true rfl)⟩ (fun v2 σ2 hE2 => ?_)
  obtain ⟨rfl, hE2⟩ := hE2
  refine qk_icmp_eq C dL_law_949 1426 rfl 952 rfl (fun _ => next _ (rel_S h (sG_chance hI) hE hE2)) (fun c => absurd rfl c)
theorem law_24 (l : Launch) (G : qx_G) {Δ : qx_T} (C : qx_C G Δ cL_law RL 4 12 474) {b L : Nat} {xs : Nat → Int32} (S : qx_Sc Δ b L xs) (i : Nat) (hi : i + 6 ≤ L) (σ : qx_Sg) (h : rel σ) (next : ∀ σ2, rel σ2 → qx_K l G Δ σ2 1426 [(3, .int (nI i)), (0, .ref b), (1, .ref (qx_ad G 0)), (2, .ref (qx_ad G 53))] []) : qx_K l G Δ σ 954 [(3, .int (nI i)), (0, .ref b), (1, .ref (qx_ad G 0)), (2, .ref (qx_ad G 53))] [] := by
  obtain ⟨N, hI, hH⟩ := h.1
  refine qk_aloadn C dL_law_954 955 rfl rfl 2 rfl ?_
  refine qk_aloadn C dL_law_955 956 rfl rfl 1 rfl ?_
  refine qk_iloadn C dL_law_956 957 rfl rfl 0 rfl ?_
  refine qk_iconst C (1) dL_law_957 958 rfl rfl ?_
  refine qk_iadd C dL_law_958 959 rfl ?_
  refine qk_sld C S dL_law_959 960 rfl (i + 1) (nI_add i 1) (by omega) ?_
  refine qk_aloadn C dL_law_960 961 rfl rfl 1 rfl ?_
  refine qk_iloadn C dL_law_961 962 rfl rfl 0 rfl ?_
  refine qk_iconst C (2) dL_law_962 963 rfl rfl ?_
  refine qk_iadd C dL_law_963 964 rfl ?_
  refine qk_sld C S dL_law_964 965 rfl (i + 2) (nI_add i 2) (by omega) ?_
  refine qk_aloadn C dL_law_965 966 rfl rfl 1 rfl ?_
  refine qk_iloadn C dL_law_966 967 rfl rfl 0 rfl ?_
  refine qk_iconst C (3) dL_law_967 968 rfl rfl ?_
  refine qk_iadd C dL_law_968 969 rfl ?_
  refine qk_sld C S dL_law_969 970 rfl (i + 3) (nI_add i 3) (by omega) ?_
  refine qk_callV C dL_law_970 973 rfl ql_L_112 qc_X5_odds 0 (by decide) rfl rfl (c_X5_odds l G σ N (σ 54) hI hH (xs (i + 1)) (xs (i + 2)) (xs (i + 3))) rfl rfl (Nat.le_of_ble_eq_true rfl) ⟨(Nat.le_of_ble_eq_true rfl), (Nat.le_of_ble_eq_true rfl)⟩ (fun v1 σ1 hE => ?_)
  obtain ⟨rfl, hE⟩ := hE
  refine qk_aloadn C dL_law_973 974 rfl rfl 3 rfl ?_
  refine qk_aloadn C dL_law_974 975 rfl rfl 1 rfl ?_
  refine qk_iloadn C dL_law_975 976 rfl rfl 0 rfl ?_
  refine qk_iconst C (1) dL_law_976 977 rfl rfl ?_
  refine qk_iadd C dL_law_977 978 rfl ?_
  refine qk_sld C S dL_law_978 979 rfl (i + 1) (nI_add i 1) (by omega) ?_
  refine qk_aloadn C dL_law_979 980 rfl rfl 1 rfl ?_
  refine qk_iloadn C dL_law_980 981 rfl rfl 0 rfl ?_
  refine qk_iconst C (2) dL_law_981 982 rfl rfl ?_
  refine qk_iadd C dL_law_982 983 rfl ?_
  refine qk_sld C S dL_law_983 984 rfl (i + 2) (nI_add i 2) (by omega) ?_
  refine qk_aloadn C dL_law_984 985 rfl rfl 1 rfl ?_
  refine qk_iloadn C dL_law_985 986 rfl rfl 0 rfl ?_
  refine qk_iconst C (3) dL_law_986 987 rfl rfl ?_
  refine qk_iadd C dL_law_987 988 rfl ?_
  refine qk_sld C S dL_law_988 989 rfl (i + 3) (nI_add i 3) (by omega) ?_
  have e54 : σ1 54 = σ 54 := hE.2.2 54 (by omega) (by omega) (by omega)
  refine qk_sg (va_up σ1 54 (σ 54)) (by rw [← e54, m_upid]) ?_
  refine qk_callV C dL_law_989 992 rfl ql_L_116 qc_X6_odds 53 (by decide) rfl rfl (c_X6_odds l G σ1 N (σ 54) hI (xs (i + 1)) (xs (i + 2)) (xs (i + 3))) rfl rfl (Nat.le_of_ble_eq_true rfl) ⟨(Nat.le_of_ble_eq_true rfl), (Nat.le_of_ble_eq_true rfl)⟩ (fun v2 σ2 hE2 => ?_)
  obtain ⟨rfl, hE2⟩ := hE2
  refine qk_lcmp C dL_law_992 993 rfl ?_
  refine qk_cast lg_cmp_s ?_
  refine qk_if_eq C dL_law_993 1426 rfl 996 rfl (fun _ => next _ (rel_S h (sG_odds hI) hE hE2)) (fun c => absurd rfl c)
theorem law_25 (l : Launch) (G : qx_G) {Δ : qx_T} (C : qx_C G Δ cL_law RL 4 12 474) {b L : Nat} {xs : Nat → Int32} (S : qx_Sc Δ b L xs) (i : Nat) (hi : i + 6 ≤ L) (σ : qx_Sg) (h : rel σ) (next : ∀ σ2, rel σ2 → qx_K l G Δ σ2 1426 [(3, .int (nI i)), (0, .ref b), (1, .ref (qx_ad G 0)), (2, .ref (qx_ad G 53))] []) : qx_K l G Δ σ 998 [(3, .int (nI i)), (0, .ref b), (1, .ref (qx_ad G 0)), (2, .ref (qx_ad G 53))] [] := by
  obtain ⟨N, hI, hH⟩ := h.1
  refine qk_aloadn C dL_law_998 999 rfl rfl 2 rfl ?_
  refine qk_aloadn C dL_law_999 1000 rfl rfl 1 rfl ?_
  refine qk_iloadn C dL_law_1000 1001 rfl rfl 0 rfl ?_
  refine qk_iconst C (1) dL_law_1001 1002 rfl rfl ?_
  refine qk_iadd C dL_law_1002 1003 rfl ?_
  refine qk_sld C S dL_law_1003 1004 rfl (i + 1) (nI_add i 1) (by omega) ?_
  refine qk_callV C dL_law_1004 1007 rfl ql_L_117 qc_X5_seed 0 (by decide) rfl rfl (c_X5_seed l G σ N (σ 54) hI hH (xs (i + 1))) rfl rfl (Nat.le_of_ble_eq_true rfl) ⟨(Nat.le_of_ble_eq_true rfl), (Nat.le_of_ble_eq_true rfl)⟩ (fun v1 σ1 hE => ?_)
  obtain ⟨rfl, hE⟩ := hE
  refine qk_aloadn C dL_law_1007 1008 rfl rfl 3 rfl ?_
  refine qk_aloadn C dL_law_1008 1009 rfl rfl 1 rfl ?_
  refine qk_iloadn C dL_law_1009 1010 rfl rfl 0 rfl ?_
  refine qk_iconst C (1) dL_law_1010 1011 rfl rfl ?_
  refine qk_iadd C dL_law_1011 1012 rfl ?_
  refine qk_sld C S dL_law_1012 1013 rfl (i + 1) (nI_add i 1) (by omega) ?_
  have e54 : σ1 54 = σ 54 := hE.2.2 54 (by omega) (by omega) (by omega)
  refine qk_sg (va_up σ1 54 (σ 54)) (by rw [← e54, m_upid]) ?_
  refine qk_callV C dL_law_1013 1016 rfl ql_L_120 qc_X6_seed 53 (by decide) rfl rfl (c_X6_seed l G σ1 (σ 54) (xs (i + 1))) rfl rfl (Nat.le_of_ble_eq_true rfl) ⟨(Nat.le_of_ble_eq_true rfl), (Nat.le_of_ble_eq_true rfl)⟩ (qx_Ki ?_)
  refine qk_icmp_eq C dL_law_1016 1426 rfl 1019 rfl (fun _ => next _ (rel_S h (sG_seed hI) hE qEm_seed)) (fun c => absurd rfl c)
theorem law_26 (l : Launch) (G : qx_G) {Δ : qx_T} (C : qx_C G Δ cL_law RL 4 12 474) {b L : Nat} {xs : Nat → Int32} (S : qx_Sc Δ b L xs) (i : Nat) (hi : i + 6 ≤ L) (σ : qx_Sg) (h : rel σ) (next : ∀ σ2, rel σ2 → qx_K l G Δ σ2 1426 [(3, .int (nI i)), (0, .ref b), (1, .ref (qx_ad G 0)), (2, .ref (qx_ad G 53))] []) : qx_K l G Δ σ 1021 [(3, .int (nI i)), (0, .ref b), (1, .ref (qx_ad G 0)), (2, .ref (qx_ad G 53))] [] := by
  obtain ⟨N, hI, hH⟩ := h.1
  refine qk_aloadn C dL_law_1021 1022 rfl rfl 2 rfl ?_
  refine qk_aloadn C dL_law_1022 1023 rfl rfl 1 rfl ?_
  refine qk_iloadn C dL_law_1023 1024 rfl rfl 0 rfl ?_
  refine qk_iconst C (1) dL_law_1024 1025 rfl rfl ?_
  refine qk_iadd C dL_law_1025 1026 rfl ?_
  refine qk_sld C S dL_law_1026 1027 rfl (i + 1) (nI_add i 1) (by omega) ?_
  refine qk_aloadn C dL_law_1027 1028 rfl rfl 1 rfl ?_
  refine qk_iloadn C dL_law_1028 1029 rfl rfl 0 rfl ?_
  refine qk_iconst C (2) dL_law_1029 1030 rfl rfl ?_
  refine qk_iadd C dL_law_1030 1031 rfl ?_
  refine qk_sld C S dL_law_1031 1032 rfl (i + 2) (nI_add i 2) (by omega) ?_
  obtain ⟨t1, t2, t3, t4⟩ := h.2.2.1.1
  refine qk_callV C dL_law_1032 1035 rfl ql_L_121 qc_X5_feed 0 (by decide) rfl rfl (c_X5_feed l G σ t1 t2 t3 (xs (i + 1)) (xs (i + 2))) rfl rfl (Nat.le_of_ble_eq_true rfl) ⟨(Nat.le_of_ble_eq_true rfl), (Nat.le_of_ble_eq_true rfl)⟩ (fun v1 σ1 hE => ?_)
  obtain ⟨rfl, rfl⟩ := hE
  refine qk_aloadn C dL_law_1035 1036 rfl rfl 3 rfl ?_
  refine qk_aloadn C dL_law_1036 1037 rfl rfl 1 rfl ?_
  refine qk_iloadn C dL_law_1037 1038 rfl rfl 0 rfl ?_
  refine qk_iconst C (1) dL_law_1038 1039 rfl rfl ?_
  refine qk_iadd C dL_law_1039 1040 rfl ?_
  refine qk_sld C S dL_law_1040 1041 rfl (i + 1) (nI_add i 1) (by omega) ?_
  refine qk_aloadn C dL_law_1041 1042 rfl rfl 1 rfl ?_
  refine qk_iloadn C dL_law_1042 1043 rfl rfl 0 rfl ?_
  refine qk_iconst C (2) dL_law_1043 1044 rfl rfl ?_
  refine qk_iadd C dL_law_1044 1045 rfl ?_
  refine qk_sld C S dL_law_1045 1046 rfl (i + 2) (nI_add i 2) (by omega) ?_
  have e53 : (T_feed σ (xs (i + 1)) (xs (i + 2))).2 53 = σ 53 := T_o_feed
  refine qk_callV C dL_law_1046 1049 rfl ql_L_124 qc_X6_feed 53 (by decide) rfl rfl (c_X6_feed l G (T_feed σ (xs (i + 1)) (xs (i + 2))).2 t1 t2 (by rw [e53]; exact t4) (xs (i + 1)) (xs (i + 2))) rfl rfl (Nat.le_of_ble_eq_true rfl) ⟨(Nat.le_of_ble_eq_true rfl), (Nat.le_of_ble_eq_true rfl)⟩ (fun v2 σ2 hE => ?_)
  obtain ⟨rfl, rfl⟩ := hE
  have hr := r_feed (σ := σ) (x := xs (i + 1)) (n := xs (i + 2)) h
  refine qk_icmp_eq C dL_law_1049 1426 rfl 1052 rfl (fun _ => next _ hr.2) (fun c => absurd hr.1.symm c)
theorem law_27 (l : Launch) (G : qx_G) {Δ : qx_T} (C : qx_C G Δ cL_law RL 4 12 474) {b L : Nat} {xs : Nat → Int32} (S : qx_Sc Δ b L xs) (i : Nat) (hi : i + 6 ≤ L) (σ : qx_Sg) (h : rel σ) (next : ∀ σ2, rel σ2 → qx_K l G Δ σ2 1426 [(3, .int (nI i)), (0, .ref b), (1, .ref (qx_ad G 0)), (2, .ref (qx_ad G 53))] []) : qx_K l G Δ σ 1054 [(3, .int (nI i)), (0, .ref b), (1, .ref (qx_ad G 0)), (2, .ref (qx_ad G 53))] [] := by
  obtain ⟨N, hI, hH⟩ := h.1
  refine qk_aloadn C dL_law_1054 1055 rfl rfl 2 rfl ?_
  refine qk_callV C dL_law_1055 1058 rfl ql_L_125 qc_X5_wipe 0 (by decide) rfl rfl (c_X5_wipe l G σ) rfl rfl (Nat.le_of_ble_eq_true rfl) ⟨(Nat.le_of_ble_eq_true rfl), (Nat.le_of_ble_eq_true rfl)⟩ (qx_Ki ?_)
  refine qk_aloadn C dL_law_1058 1059 rfl rfl 3 rfl ?_
  refine qk_callV C dL_law_1059 1062 rfl ql_L_129 qc_X6_wipe 53 (by decide) rfl rfl (c_X6_wipe l G _) rfl rfl (Nat.le_of_ble_eq_true rfl) ⟨(Nat.le_of_ble_eq_true rfl), (Nat.le_of_ble_eq_true rfl)⟩ (qx_Ki ?_)
  refine qk_icmp_eq C dL_law_1062 1426 rfl 1065 rfl (fun _ => next _ (r_wipe h).2) (fun c => absurd (show σ 40 1 = _ from (r_wipe h).1.symm) c)
theorem law_28 (l : Launch) (G : qx_G) {Δ : qx_T} (C : qx_C G Δ cL_law RL 4 12 474) {b L : Nat} {xs : Nat → Int32} (S : qx_Sc Δ b L xs) (i : Nat) (hi : i + 6 ≤ L) (σ : qx_Sg) (h : rel σ) (next : ∀ σ2, rel σ2 → qx_K l G Δ σ2 1426 [(3, .int (nI i)), (0, .ref b), (1, .ref (qx_ad G 0)), (2, .ref (qx_ad G 53))] []) : qx_K l G Δ σ 1067 [(3, .int (nI i)), (0, .ref b), (1, .ref (qx_ad G 0)), (2, .ref (qx_ad G 53))] [] := by
  obtain ⟨N, hI, hH⟩ := h.1
  refine qk_aloadn C dL_law_1067 1068 rfl rfl 2 rfl ?_
  obtain ⟨t, t2, t3, t4⟩ := h.2.2.1.1
  refine qk_callV C dL_law_1068 1071 rfl ql_L_130 qc_X5_text 0 (by decide) rfl rfl (c_X5_text l G σ N (σ 54) hI hH t t2 t3) rfl rfl (Nat.le_of_ble_eq_true rfl) ⟨(Nat.le_of_ble_eq_true rfl), (Nat.le_of_ble_eq_true rfl)⟩ (fun v1 σ1 hE => ?_)
  obtain ⟨rfl, f1, f2, f3⟩ := hE
  refine qk_aloadn C dL_law_1071 1072 rfl rfl 3 rfl ?_
  have e54 : σ1 54 = σ 54 := f3 54 (by omega) (by omega) (by omega) (by omega)
  have e53 : σ1 53 = σ 53 := f3 53 (by omega) (by omega) (by omega) (by omega)
  have e58 : σ1 58 = σ 41 := (f3 58 (by omega) (by omega) (by omega) (by omega)).trans h.2.2.1.2.1.symm
  have hb : t_by (σ1 58) t := fun k hk => by rw [e58, h.2.2.1.2.1]; exact h.2.2.1.2.2 k
  refine qk_callV C dL_law_1072 1075 rfl ql_L_133 qc_X6_text 53 (by decide) rfl rfl (c_X6_text l G σ1 N (σ 54) hI e54 t t2 (by rw [e53]; exact t4) hb) rfl rfl (Nat.le_of_ble_eq_true rfl) ⟨(Nat.le_of_ble_eq_true rfl), (Nat.le_of_ble_eq_true rfl)⟩ (fun v2 σ2 hE => ?_)
  rw [e58] at hE
  obtain ⟨rfl, g1, g2, g3, g4⟩ := hE
  refine qk_icmp_eq C dL_law_1075 1426 rfl 1078 rfl (fun _ => next _ (r_text h (t_tx_ok hI 121 0 N (σ 54) 0 hI) f1 f2 f3 g1 g2 g3 g4)) (fun c => absurd rfl c)
theorem law_29 (l : Launch) (G : qx_G) {Δ : qx_T} (C : qx_C G Δ cL_law RL 4 12 474) {b L : Nat} {xs : Nat → Int32} (S : qx_Sc Δ b L xs) (i : Nat) (hi : i + 6 ≤ L) (σ : qx_Sg) (h : rel σ) (next : ∀ σ2, rel σ2 → qx_K l G Δ σ2 1426 [(3, .int (nI i)), (0, .ref b), (1, .ref (qx_ad G 0)), (2, .ref (qx_ad G 53))] []) : qx_K l G Δ σ 1080 [(3, .int (nI i)), (0, .ref b), (1, .ref (qx_ad G 0)), (2, .ref (qx_ad G 53))] [] := by
  obtain ⟨N, hI, hH⟩ := h.1
  refine qk_aloadn C dL_law_1080 1081 rfl rfl 2 rfl ?_
  refine qk_aloadn C dL_law_1081 1082 rfl rfl 1 rfl ?_
  refine qk_iloadn C dL_law_1082 1083 rfl rfl 0 rfl ?_
  refine qk_iconst C (1) dL_law_1083 1084 rfl rfl ?_
  refine qk_iadd C dL_law_1084 1085 rfl ?_
  refine qk_sld C S dL_law_1085 1086 rfl (i + 1) (nI_add i 1) (by omega) ?_
  refine qk_aloadn C dL_law_1086 1087 rfl rfl 1 rfl ?_
  refine qk_iloadn C dL_law_1087 1088 rfl rfl 0 rfl ?_
  refine qk_iconst C (2) dL_law_1088 1089 rfl rfl ?_
  refine qk_iadd C dL_law_1089 1090 rfl ?_
  refine qk_sld C S dL_law_1090 1091 rfl (i + 2) (nI_add i 2) (by omega) ?_
  refine qk_callV C dL_law_1091 1094 rfl ql_L_134 qc_X5_hold 0 (by decide) rfl rfl (c_X5_hold l G σ N (σ 54) hI hH (xs (i + 1)) (xs (i + 2))) rfl rfl (Nat.le_of_ble_eq_true rfl) ⟨(Nat.le_of_ble_eq_true rfl), (Nat.le_of_ble_eq_true rfl)⟩ (fun v1 σ1 hE => ?_)
  obtain ⟨rfl, hE⟩ := hE
  refine qk_aloadn C dL_law_1094 1095 rfl rfl 3 rfl ?_
  refine qk_aloadn C dL_law_1095 1096 rfl rfl 1 rfl ?_
  refine qk_iloadn C dL_law_1096 1097 rfl rfl 0 rfl ?_
  refine qk_iconst C (1) dL_law_1097 1098 rfl rfl ?_
  refine qk_iadd C dL_law_1098 1099 rfl ?_
  refine qk_sld C S dL_law_1099 1100 rfl (i + 1) (nI_add i 1) (by omega) ?_
  refine qk_aloadn C dL_law_1100 1101 rfl rfl 1 rfl ?_
  refine qk_iloadn C dL_law_1101 1102 rfl rfl 0 rfl ?_
  refine qk_iconst C (2) dL_law_1102 1103 rfl rfl ?_
  refine qk_iadd C dL_law_1103 1104 rfl ?_
  refine qk_sld C S dL_law_1104 1105 rfl (i + 2) (nI_add i 2) (by omega) ?_
  have e54 : σ1 54 = σ 54 := hE.2.2 54 (by omega) (by omega) (by omega)
  refine qk_sg (va_up σ1 54 (σ 54)) (by rw [← e54, m_upid]) ?_
  refine qk_callV C dL_law_1105 1108 rfl ql_L_137 qc_X6_hold 53 (by decide) rfl rfl (c_X6_hold l G σ1 N (σ 54) hI (xs (i + 1)) (xs (i + 2))) rfl rfl (Nat.le_of_ble_eq_true rfl) ⟨(Nat.le_of_ble_eq_true rfl), (Nat.le_of_ble_eq_true rfl)⟩ (fun v2 σ2 hE2 => ?_)
  obtain ⟨rfl, hE2⟩ := hE2
  refine qk_icmp_eq C dL_law_1108 1426 rfl 1111 rfl (fun _ => next _ (rel_S h (sG_hold hI) hE hE2)) (fun c => absurd rfl c)
theorem law_30 (l : Launch) (G : qx_G) {Δ : qx_T} (C : qx_C G Δ cL_law RL 4 12 474) {b L : Nat} {xs : Nat → Int32} (S : qx_Sc Δ b L xs) (i : Nat) (hi : i + 6 ≤ L) (σ : qx_Sg) (h : rel σ) (next : ∀ σ2, rel σ2 → qx_K l G Δ σ2 1426 [(3, .int (nI i)), (0, .ref b), (1, .ref (qx_ad G 0)), (2, .ref (qx_ad G 53))] []) : qx_K l G Δ σ 1113 [(3, .int (nI i)), (0, .ref b), (1, .ref (qx_ad G 0)), (2, .ref (qx_ad G 53))] [] := by
  obtain ⟨N, hI, hH⟩ := h.1
  refine qk_aloadn C dL_law_1113 1114 rfl rfl 2 rfl ?_
  refine qk_aloadn C dL_law_1114 1115 rfl rfl 1 rfl ?_
  refine qk_iloadn C dL_law_1115 1116 rfl rfl 0 rfl ?_
  refine qk_iconst C (1) dL_law_1116 1117 rfl rfl ?_
  refine qk_iadd C dL_law_1117 1118 rfl ?_
  refine qk_sld C S dL_law_1118 1119 rfl (i + 1) (nI_add i 1) (by omega) ?_
  refine qk_aloadn C dL_law_1119 1120 rfl rfl 1 rfl ?_
  refine qk_iloadn C dL_law_1120 1121 rfl rfl 0 rfl ?_
  refine qk_iconst C (2) dL_law_1121 1122 rfl rfl ?_
  refine qk_iadd C dL_law_1122 1123 rfl ?_
  refine qk_sld C S dL_law_1123 1124 rfl (i + 2) (nI_add i 2) (by omega) ?_
  refine qk_callV C dL_law_1124 1127 rfl ql_L_138 qc_X5_as 0 (by decide) rfl rfl (c_X5_as l G σ N (σ 54) hI hH (xs (i + 1)) (xs (i + 2))) rfl rfl (Nat.le_of_ble_eq_true rfl) ⟨(Nat.le_of_ble_eq_true rfl), (Nat.le_of_ble_eq_true rfl)⟩ (fun v1 σ1 hE => ?_)
  obtain ⟨rfl, hE⟩ := hE
  refine qk_aloadn C dL_law_1127 1128 rfl rfl 3 rfl ?_
  refine qk_aloadn C dL_law_1128 1129 rfl rfl 1 rfl ?_
  refine qk_iloadn C dL_law_1129 1130 rfl rfl 0 rfl ?_
  refine qk_iconst C (1) dL_law_1130 1131 rfl rfl ?_
  refine qk_iadd C dL_law_1131 1132 rfl ?_
  refine qk_sld C S dL_law_1132 1133 rfl (i + 1) (nI_add i 1) (by omega) ?_
  refine qk_aloadn C dL_law_1133 1134 rfl rfl 1 rfl ?_
  refine qk_iloadn C dL_law_1134 1135 rfl rfl 0 rfl ?_
  refine qk_iconst C (2) dL_law_1135 1136 rfl rfl ?_
  refine qk_iadd C dL_law_1136 1137 rfl ?_
  refine qk_sld C S dL_law_1137 1138 rfl (i + 2) (nI_add i 2) (by omega) ?_
  have e54 : σ1 54 = σ 54 := hE.2.2 54 (by omega) (by omega) (by omega)
  refine qk_sg (va_up σ1 54 (σ 54)) (by rw [← e54, m_upid]) ?_
  refine qk_callV C dL_law_1138 1141 rfl ql_L_141 qc_X6_as 53 (by decide) rfl rfl (c_X6_as l G σ1 N (σ 54) hI (xs (i + 1)) (xs (i + 2))) rfl rfl (Nat.le_of_ble_eq_true rfl) ⟨(Nat.le_of_ble_eq_true rfl), (Nat.le_of_ble_eq_true rfl)⟩ (fun v2 σ2 hE2 => ?_)
  obtain ⟨rfl, hE2⟩ := hE2
  refine qk_icmp_eq C dL_law_1141 1426 rfl 1144 rfl (fun _ => next _ (rel_S h (sG_as hI) hE hE2)) (fun c => absurd rfl c)
theorem law_31 (l : Launch) (G : qx_G) {Δ : qx_T} (C : qx_C G Δ cL_law RL 4 12 474) {b L : Nat} {xs : Nat → Int32} (S : qx_Sc Δ b L xs) (i : Nat) (hi : i + 6 ≤ L) (σ : qx_Sg) (h : rel σ) (next : ∀ σ2, rel σ2 → qx_K l G Δ σ2 1426 [(3, .int (nI i)), (0, .ref b), (1, .ref (qx_ad G 0)), (2, .ref (qx_ad G 53))] []) : qx_K l G Δ σ 1146 [(3, .int (nI i)), (0, .ref b), (1, .ref (qx_ad G 0)), (2, .ref (qx_ad G 53))] [] := by
  obtain ⟨N, hI, hH⟩ := h.1
  refine qk_aloadn C dL_law_1146 1147 rfl rfl 2 rfl ?_
  refine qk_aloadn C dL_law_1147 1148 rfl rfl 1 rfl ?_
  refine qk_iloadn C dL_law_1148 1149 rfl rfl 0 rfl ?_
  refine qk_iconst C (1) dL_law_1149 1150 rfl rfl ?_
  refine qk_iadd C dL_law_1150 1151 rfl ?_
  refine qk_sld C S dL_law_1151 1152 rfl (i + 1) (nI_add i 1) (by omega) ?_
  refine qk_aloadn C dL_law_1152 1153 rfl rfl 1 rfl ?_
  refine qk_iloadn C dL_law_1153 1154 rfl rfl 0 rfl ?_
  refine qk_iconst C (2) dL_law_1154 1155 rfl rfl ?_
  refine qk_iadd C dL_law_1155 1156 rfl ?_
  refine qk_sld C S dL_law_1156 1157 rfl (i + 2) (nI_add i 2) (by omega) ?_
  refine qk_aloadn C dL_law_1157 1158 rfl rfl 1 rfl ?_
  refine qk_iloadn C dL_law_1158 1159 rfl rfl 0 rfl ?_
  refine qk_iconst C (3) dL_law_1159 1160 rfl rfl ?_
  refine qk_iadd C dL_law_1160 1161 rfl ?_
  refine qk_sld C S dL_law_1161 1162 rfl (i + 3) (nI_add i 3) (by omega) ?_
  refine qk_callV C dL_law_1162 1165 rfl ql_L_142 qc_X5_sheet 0 (by decide) rfl rfl (c_X5_sheet l G σ h.2.2.2.2.2 (xs (i + 1)) (xs (i + 2)) (xs (i + 3))) rfl rfl (Nat.le_of_ble_eq_true rfl) ⟨(Nat.le_of_ble_eq_true rfl), (Nat.le_of_ble_eq_true rfl)⟩ (fun v1 σ1 hE => ?_)
  obtain ⟨rfl, rfl⟩ := hE
  refine qk_aloadn C dL_law_1165 1166 rfl rfl 3 rfl ?_
  refine qk_aloadn C dL_law_1166 1167 rfl rfl 1 rfl ?_
  refine qk_iloadn C dL_law_1167 1168 rfl rfl 0 rfl ?_
  refine qk_iconst C (1) dL_law_1168 1169 rfl rfl ?_
  refine qk_iadd C dL_law_1169 1170 rfl ?_
  refine qk_sld C S dL_law_1170 1171 rfl (i + 1) (nI_add i 1) (by omega) ?_
  refine qk_aloadn C dL_law_1171 1172 rfl rfl 1 rfl ?_
  refine qk_iloadn C dL_law_1172 1173 rfl rfl 0 rfl ?_
  refine qk_iconst C (2) dL_law_1173 1174 rfl rfl ?_
  refine qk_iadd C dL_law_1174 1175 rfl ?_
  refine qk_sld C S dL_law_1175 1176 rfl (i + 2) (nI_add i 2) (by omega) ?_
  refine qk_aloadn C dL_law_1176 1177 rfl rfl 1 rfl ?_
  refine qk_iloadn C dL_law_1177 1178 rfl rfl 0 rfl ?_
  refine qk_iconst C (3) dL_law_1178 1179 rfl rfl ?_
  refine qk_iadd C dL_law_1179 1180 rfl ?_
  refine qk_sld C S dL_law_1180 1181 rfl (i + 3) (nI_add i 3) (by omega) ?_
  refine qk_callV C dL_law_1181 1184 rfl ql_L_145 qc_X6_sheet 53 (by decide) rfl rfl (c_X6_sheet l G (T_sheet σ (xs (i + 1)) (xs (i + 2)) (xs (i + 3))).2 (xs (i + 1)) (xs (i + 2)) (xs (i + 3))) rfl rfl (Nat.le_of_ble_eq_true rfl) ⟨(Nat.le_of_ble_eq_true rfl), (Nat.le_of_ble_eq_true rfl)⟩ (fun v2 σ2 hE => ?_)
  obtain ⟨rfl, rfl⟩ := hE
  have hr := r_sheet (σ := σ) (s := xs (i + 1)) (b := xs (i + 2)) (n := xs (i + 3)) h
  refine qk_icmp_eq C dL_law_1184 1426 rfl 1187 rfl (fun _ => next _ hr.2) (fun c => absurd hr.1.symm c)
theorem law_32 (l : Launch) (G : qx_G) {Δ : qx_T} (C : qx_C G Δ cL_law RL 4 12 474) {b L : Nat} {xs : Nat → Int32} (S : qx_Sc Δ b L xs) (i : Nat) (hi : i + 6 ≤ L) (σ : qx_Sg) (h : rel σ) (next : ∀ σ2, rel σ2 → qx_K l G Δ σ2 1426 [(3, .int (nI i)), (0, .ref b), (1, .ref (qx_ad G 0)), (2, .ref (qx_ad G 53))] []) : qx_K l G Δ σ 1189 [(3, .int (nI i)), (0, .ref b), (1, .ref (qx_ad G 0)), (2, .ref (qx_ad G 53))] [] := by
  obtain ⟨N, hI, hH⟩ := h.1
  refine qk_aloadn C dL_law_1189 1190 rfl rfl 2 rfl ?_
  refine qk_aloadn C dL_law_1190 1191 rfl rfl 1 rfl ?_
  refine qk_iloadn C dL_law_1191 1192 rfl rfl 0 rfl ?_
  refine qk_iconst C (1) dL_law_1192 1193 rfl rfl ?_
  refine qk_iadd C dL_law_1193 1194 rfl ?_
  refine qk_sld C S dL_law_1194 1195 rfl (i + 1) (nI_add i 1) (by omega) ?_
  refine qk_aloadn C dL_law_1195 1196 rfl rfl 1 rfl ?_
  refine qk_iloadn C dL_law_1196 1197 rfl rfl 0 rfl ?_
  refine qk_iconst C (2) dL_law_1197 1198 rfl rfl ?_
  refine qk_iadd C dL_law_1198 1199 rfl ?_
  refine qk_sld C S dL_law_1199 1200 rfl (i + 2) (nI_add i 2) (by omega) ?_
  refine qk_aloadn C dL_law_1200 1201 rfl rfl 1 rfl ?_
  refine qk_iloadn C dL_law_1201 1202 rfl rfl 0 rfl ?_
  refine qk_iconst C (3) dL_law_1202 1203 rfl rfl ?_
  refine qk_iadd C dL_law_1203 1204 rfl ?_
  refine qk_sld C S dL_law_1204 1205 rfl (i + 3) (nI_add i 3) (by omega) ?_
  refine qk_callV C dL_law_1205 1208 rfl ql_L_146 qc_X5_write 0 (by decide) rfl rfl (c_X5_write l G σ h.2.2.2.2.2 (xs (i + 1)) (xs (i + 2)) (xs (i + 3))) rfl rfl (Nat.le_of_ble_eq_true rfl) ⟨(Nat.le_of_ble_eq_true rfl), (Nat.le_of_ble_eq_true rfl)⟩ (fun v1 σ1 hE => ?_)
  obtain ⟨rfl, rfl⟩ := hE
  refine qk_aloadn C dL_law_1208 1209 rfl rfl 3 rfl ?_
  refine qk_aloadn C dL_law_1209 1210 rfl rfl 1 rfl ?_
  refine qk_iloadn C dL_law_1210 1211 rfl rfl 0 rfl ?_
  refine qk_iconst C (1) dL_law_1211 1212 rfl rfl ?_
  refine qk_iadd C dL_law_1212 1213 rfl ?_
  refine qk_sld C S dL_law_1213 1214 rfl (i + 1) (nI_add i 1) (by omega) ?_
  refine qk_aloadn C dL_law_1214 1215 rfl rfl 1 rfl ?_
  refine qk_iloadn C dL_law_1215 1216 rfl rfl 0 rfl ?_
  refine qk_iconst C (2) dL_law_1216 1217 rfl rfl ?_
  refine qk_iadd C dL_law_1217 1218 rfl ?_
  refine qk_sld C S dL_law_1218 1219 rfl (i + 2) (nI_add i 2) (by omega) ?_
  refine qk_aloadn C dL_law_1219 1220 rfl rfl 1 rfl ?_
  refine qk_iloadn C dL_law_1220 1221 rfl rfl 0 rfl ?_
  refine qk_iconst C (3) dL_law_1221 1222 rfl rfl ?_
  refine qk_iadd C dL_law_1222 1223 rfl ?_
  refine qk_sld C S dL_law_1223 1224 rfl (i + 3) (nI_add i 3) (by omega) ?_
  obtain ⟨e61, e62⟩ := T_o_write (σ := σ) (x1 := xs (i + 1)) (x2 := xs (i + 2)) (x3 := xs (i + 3))
  refine qk_callV C dL_law_1224 1227 rfl ql_L_149 qc_X6_write 53 (by decide) rfl rfl (c_X6_write l G (T_write σ (xs (i + 1)) (xs (i + 2)) (xs (i + 3))).2 (r_qS h.2.2.2.1 h.2.2.2.2.2 e61 e62) (xs (i + 1)) (xs (i + 2)) (xs (i + 3))) rfl rfl (Nat.le_of_ble_eq_true rfl) ⟨(Nat.le_of_ble_eq_true rfl), (Nat.le_of_ble_eq_true rfl)⟩ (fun v2 σ2 hE => ?_)
  obtain ⟨rfl, rfl⟩ := hE
  have hr := r_write (σ := σ) (s := xs (i + 1)) (i := xs (i + 2)) (v := xs (i + 3)) h
  refine qk_icmp_eq C dL_law_1227 1426 rfl 1230 rfl (fun _ => next _ hr.2) (fun c => absurd hr.1.symm c)
theorem law_33 (l : Launch) (G : qx_G) {Δ : qx_T} (C : qx_C G Δ cL_law RL 4 12 474) {b L : Nat} {xs : Nat → Int32} (S : qx_Sc Δ b L xs) (i : Nat) (hi : i + 6 ≤ L) (σ : qx_Sg) (h : rel σ) (next : ∀ σ2, rel σ2 → qx_K l G Δ σ2 1426 [(3, .int (nI i)), (0, .ref b), (1, .ref (qx_ad G 0)), (2, .ref (qx_ad G 53))] []) : qx_K l G Δ σ 1232 [(3, .int (nI i)), (0, .ref b), (1, .ref (qx_ad G 0)), (2, .ref (qx_ad G 53))] [] := by
  obtain ⟨N, hI, hH⟩ := h.1
  refine qk_aloadn C dL_law_1232 1233 rfl rfl 2 rfl ?_
  refine qk_aloadn C dL_law_1233 1234 rfl rfl 1 rfl ?_
  refine qk_iloadn C dL_law_1234 1235 rfl rfl 0 rfl ?_
  refine qk_iconst C (1) dL_law_1235 1236 rfl rfl ?_
  refine qk_iadd C dL_law_1236 1237 rfl ?_
  refine qk_sld C S dL_law_1237 1238 rfl (i + 1) (nI_add i 1) (by omega) ?_
  refine qk_aloadn C dL_law_1238 1239 rfl rfl 1 rfl ?_
  refine qk_iloadn C dL_law_1239 1240 rfl rfl 0 rfl ?_
  refine qk_iconst C (2) dL_law_1240 1241 rfl rfl ?_
  refine qk_iadd C dL_law_1241 1242 rfl ?_
  refine qk_sld C S dL_law_1242 1243 rfl (i + 2) (nI_add i 2) (by omega) ?_
  refine qk_aloadn C dL_law_1243 1244 rfl rfl 1 rfl ?_
  refine qk_iloadn C dL_law_1244 1245 rfl rfl 0 rfl ?_
  refine qk_iconst C (3) dL_law_1245 1246 rfl rfl ?_
  refine qk_iadd C dL_law_1246 1247 rfl ?_
  refine qk_sld C S dL_law_1247 1248 rfl (i + 3) (nI_add i 3) (by omega) ?_
  refine qk_aloadn C dL_law_1248 1249 rfl rfl 1 rfl ?_
  refine qk_iloadn C dL_law_1249 1250 rfl rfl 0 rfl ?_
  refine qk_iconst C (4) dL_law_1250 1251 rfl rfl ?_
  refine qk_iadd C dL_law_1251 1252 rfl ?_
  refine qk_sld C S dL_law_1252 1253 rfl (i + 4) (nI_add i 4) (by omega) ?_
  refine qk_aloadn C dL_law_1253 1254 rfl rfl 1 rfl ?_
  refine qk_iloadn C dL_law_1254 1255 rfl rfl 0 rfl ?_
  refine qk_iconst C (5) dL_law_1255 1256 rfl rfl ?_
  refine qk_iadd C dL_law_1256 1257 rfl ?_
  refine qk_sld C S dL_law_1257 1258 rfl (i + 5) (nI_add i 5) (by omega) ?_
  refine qk_callV C dL_law_1258 1261 rfl ql_L_150 qc_X5_copy 0 (by decide) rfl rfl (c_X5_copy l G σ h.2.2.2.2.2 (xs (i + 1)) (xs (i + 2)) (xs (i + 3)) (xs (i + 4)) (xs (i + 5))) rfl rfl (Nat.le_of_ble_eq_true rfl) ⟨(Nat.le_of_ble_eq_true rfl), (Nat.le_of_ble_eq_true rfl)⟩ (fun v1 σ1 hE => ?_)
  obtain ⟨rfl, rfl⟩ := hE
  refine qk_aloadn C dL_law_1261 1262 rfl rfl 3 rfl ?_
  refine qk_aloadn C dL_law_1262 1263 rfl rfl 1 rfl ?_
  refine qk_iloadn C dL_law_1263 1264 rfl rfl 0 rfl ?_
  refine qk_iconst C (1) dL_law_1264 1265 rfl rfl ?_
  refine qk_iadd C dL_law_1265 1266 rfl ?_
  refine qk_sld C S dL_law_1266 1267 rfl (i + 1) (nI_add i 1) (by omega) ?_
  refine qk_aloadn C dL_law_1267 1268 rfl rfl 1 rfl ?_
  refine qk_iloadn C dL_law_1268 1269 rfl rfl 0 rfl ?_
  refine qk_iconst C (2) dL_law_1269 1270 rfl rfl ?_
  refine qk_iadd C dL_law_1270 1271 rfl ?_
  refine qk_sld C S dL_law_1271 1272 rfl (i + 2) (nI_add i 2) (by omega) ?_
  refine qk_aloadn C dL_law_1272 1273 rfl rfl 1 rfl ?_
  refine qk_iloadn C dL_law_1273 1274 rfl rfl 0 rfl ?_
  refine qk_iconst C (3) dL_law_1274 1275 rfl rfl ?_
  refine qk_iadd C dL_law_1275 1276 rfl ?_
  refine qk_sld C S dL_law_1276 1277 rfl (i + 3) (nI_add i 3) (by omega) ?_
  refine qk_aloadn C dL_law_1277 1278 rfl rfl 1 rfl ?_
  refine qk_iloadn C dL_law_1278 1279 rfl rfl 0 rfl ?_
  refine qk_iconst C (4) dL_law_1279 1280 rfl rfl ?_
  refine qk_iadd C dL_law_1280 1281 rfl ?_
  refine qk_sld C S dL_law_1281 1282 rfl (i + 4) (nI_add i 4) (by omega) ?_
  refine qk_aloadn C dL_law_1282 1283 rfl rfl 1 rfl ?_
  refine qk_iloadn C dL_law_1283 1284 rfl rfl 0 rfl ?_
  refine qk_iconst C (5) dL_law_1284 1285 rfl rfl ?_
  refine qk_iadd C dL_law_1285 1286 rfl ?_
  refine qk_sld C S dL_law_1286 1287 rfl (i + 5) (nI_add i 5) (by omega) ?_
  obtain ⟨e61, e62⟩ := T_o_copy (σ := σ) (x1 := xs (i + 1)) (x2 := xs (i + 2)) (x3 := xs (i + 3)) (x4 := xs (i + 4)) (x5 := xs (i + 5))
  refine qk_callV C dL_law_1287 1290 rfl ql_L_154 qc_X6_copy 53 (by decide) rfl rfl (c_X6_copy l G (T_copy σ (xs (i + 1)) (xs (i + 2)) (xs (i + 3)) (xs (i + 4)) (xs (i + 5))).2 (r_qS h.2.2.2.1 h.2.2.2.2.2 e61 e62) (xs (i + 1)) (xs (i + 2)) (xs (i + 3)) (xs (i + 4)) (xs (i + 5))) rfl rfl (Nat.le_of_ble_eq_true rfl) ⟨(Nat.le_of_ble_eq_true rfl), (Nat.le_of_ble_eq_true rfl)⟩ (fun v2 σ2 hE => ?_)
  obtain ⟨rfl, hE2⟩ := hE
  have hr := r_copy h hE2
  refine qk_icmp_eq C dL_law_1290 1426 rfl 1293 rfl (fun _ => next _ hr.2) (fun c => absurd hr.1.symm c)
theorem law_34 (l : Launch) (G : qx_G) {Δ : qx_T} (C : qx_C G Δ cL_law RL 4 12 474) {b L : Nat} {xs : Nat → Int32} (S : qx_Sc Δ b L xs) (i : Nat) (hi : i + 6 ≤ L) (σ : qx_Sg) (h : rel σ) (next : ∀ σ2, rel σ2 → qx_K l G Δ σ2 1426 [(3, .int (nI i)), (0, .ref b), (1, .ref (qx_ad G 0)), (2, .ref (qx_ad G 53))] []) : qx_K l G Δ σ 1295 [(3, .int (nI i)), (0, .ref b), (1, .ref (qx_ad G 0)), (2, .ref (qx_ad G 53))] [] := by
  obtain ⟨N, hI, hH⟩ := h.1
  refine qk_aloadn C dL_law_1295 1296 rfl rfl 2 rfl ?_
  refine qk_aloadn C dL_law_1296 1297 rfl rfl 1 rfl ?_
  refine qk_iloadn C dL_law_1297 1298 rfl rfl 0 rfl ?_
  refine qk_iconst C (1) dL_law_1298 1299 rfl rfl ?_
  refine qk_iadd C dL_law_1299 1300 rfl ?_
  refine qk_sld C S dL_law_1300 1301 rfl (i + 1) (nI_add i 1) (by omega) ?_
  refine qk_callV C dL_law_1301 1304 rfl ql_L_155 qc_X5_load 0 (by decide) rfl rfl (c_X5_load l G σ N (σ 54) hI hH h.2.2.2.2.2 (xs (i + 1))) rfl rfl (Nat.le_of_ble_eq_true rfl) ⟨(Nat.le_of_ble_eq_true rfl), (Nat.le_of_ble_eq_true rfl)⟩ (fun v1 σ1 hE => ?_)
  obtain ⟨rfl, hE⟩ := hE
  refine qk_aloadn C dL_law_1304 1305 rfl rfl 3 rfl ?_
  refine qk_aloadn C dL_law_1305 1306 rfl rfl 1 rfl ?_
  refine qk_iloadn C dL_law_1306 1307 rfl rfl 0 rfl ?_
  refine qk_iconst C (1) dL_law_1307 1308 rfl rfl ?_
  refine qk_iadd C dL_law_1308 1309 rfl ?_
  refine qk_sld C S dL_law_1309 1310 rfl (i + 1) (nI_add i 1) (by omega) ?_
  have e54 : σ1 54 = σ 54 := hE.2.2 54 (by omega) (by omega) (by omega)
  have oE : ∀ k, 53 ≤ k → k < 65 → σ1 k = σ k := fun k a c => hE.2.2 k c (by omega) (by omega)
  refine qk_sg (va_up σ1 54 (σ 54)) (by rw [← e54, m_upid]) ?_
  refine qk_callV C dL_law_1310 1313 rfl ql_L_158 qc_X6_load 53 (by decide) rfl rfl (c_X6_load l G σ1 N (σ 54) hI (r_qS h.2.2.2.1 h.2.2.2.2.2 (oE 61 (by omega) (by omega)) (oE 62 (by omega) (by omega))) (xs (i + 1))) rfl rfl (Nat.le_of_ble_eq_true rfl) ⟨(Nat.le_of_ble_eq_true rfl), (Nat.le_of_ble_eq_true rfl)⟩ (fun v2 σ2 hE2 => ?_)
  rw [r_load h.2.2.2.1 h.2.2.2.2.2 (oE 61 (by omega) (by omega)) (oE 62 (by omega) (by omega)) (oE 63 (by omega) (by omega))] at hE2
  obtain ⟨rfl, hE2⟩ := hE2
  refine qk_icmp_eq C dL_law_1313 1426 rfl 1316 rfl (fun _ => next _ (rel_S h (sG_load hI) hE hE2)) (fun c => absurd rfl c)
theorem law_35 (l : Launch) (G : qx_G) {Δ : qx_T} (C : qx_C G Δ cL_law RL 4 12 474) {b L : Nat} {xs : Nat → Int32} (S : qx_Sc Δ b L xs) (i : Nat) (hi : i + 6 ≤ L) (σ : qx_Sg) (h : rel σ) (next : ∀ σ2, rel σ2 → qx_K l G Δ σ2 1426 [(3, .int (nI i)), (0, .ref b), (1, .ref (qx_ad G 0)), (2, .ref (qx_ad G 53))] []) : qx_K l G Δ σ 1318 [(3, .int (nI i)), (0, .ref b), (1, .ref (qx_ad G 0)), (2, .ref (qx_ad G 53))] [] := by
  obtain ⟨N, hI, hH⟩ := h.1
  refine qk_aloadn C dL_law_1318 1319 rfl rfl 2 rfl ?_
  refine qk_aloadn C dL_law_1319 1320 rfl rfl 1 rfl ?_
  refine qk_iloadn C dL_law_1320 1321 rfl rfl 0 rfl ?_
  refine qk_iconst C (1) dL_law_1321 1322 rfl rfl ?_
  refine qk_iadd C dL_law_1322 1323 rfl ?_
  refine qk_sld C S dL_law_1323 1324 rfl (i + 1) (nI_add i 1) (by omega) ?_
  refine qk_callV C dL_law_1324 1327 rfl ql_L_159 qc_X5_judge 0 (by decide) rfl rfl (c_X5_judge l G σ N (σ 54) hI hH h.2.2.2.2.2 (xs (i + 1))) rfl rfl (Nat.le_of_ble_eq_true rfl) ⟨(Nat.le_of_ble_eq_true rfl), (Nat.le_of_ble_eq_true rfl)⟩ (fun v1 σ1 hE => ?_)
  obtain ⟨rfl, hE⟩ := hE
  refine qk_aloadn C dL_law_1327 1328 rfl rfl 3 rfl ?_
  refine qk_aloadn C dL_law_1328 1329 rfl rfl 1 rfl ?_
  refine qk_iloadn C dL_law_1329 1330 rfl rfl 0 rfl ?_
  refine qk_iconst C (1) dL_law_1330 1331 rfl rfl ?_
  refine qk_iadd C dL_law_1331 1332 rfl ?_
  refine qk_sld C S dL_law_1332 1333 rfl (i + 1) (nI_add i 1) (by omega) ?_
  have e54 : σ1 54 = σ 54 := hE.2.2 54 (by omega) (by omega) (by omega)
  have oE : ∀ k, 53 ≤ k → k < 65 → σ1 k = σ k := fun k a c => hE.2.2 k c (by omega) (by omega)
  refine qk_sg (va_up σ1 54 (σ 54)) (by rw [← e54, m_upid]) ?_
  refine qk_callV C dL_law_1333 1336 rfl ql_L_162 qc_X6_judge 53 (by decide) rfl rfl (c_X6_judge l G σ1 N (σ 54) hI (r_qS h.2.2.2.1 h.2.2.2.2.2 (oE 61 (by omega) (by omega)) (oE 62 (by omega) (by omega))) (xs (i + 1))) rfl rfl (Nat.le_of_ble_eq_true rfl) ⟨(Nat.le_of_ble_eq_true rfl), (Nat.le_of_ble_eq_true rfl)⟩ (fun v2 σ2 hE2 => ?_)
  rw [r_judge h.2.2.2.1 h.2.2.2.2.2 (oE 61 (by omega) (by omega)) (oE 62 (by omega) (by omega)) (oE 63 (by omega) (by omega))] at hE2
  obtain ⟨rfl, hE2⟩ := hE2
  refine qk_icmp_eq C dL_law_1336 1426 rfl 1339 rfl (fun _ => next _ (rel_S h (sG_judge hI) hE hE2)) (fun c => absurd rfl c)
theorem law_36 (l : Launch) (G : qx_G) {Δ : qx_T} (C : qx_C G Δ cL_law RL 4 12 474) {b L : Nat} {xs : Nat → Int32} (S : qx_Sc Δ b L xs) (i : Nat) (hi : i + 6 ≤ L) (σ : qx_Sg) (h : rel σ) (next : ∀ σ2, rel σ2 → qx_K l G Δ σ2 1426 [(3, .int (nI i)), (0, .ref b), (1, .ref (qx_ad G 0)), (2, .ref (qx_ad G 53))] []) : qx_K l G Δ σ 1341 [(3, .int (nI i)), (0, .ref b), (1, .ref (qx_ad G 0)), (2, .ref (qx_ad G 53))] [] := by
  obtain ⟨N, hI, hH⟩ := h.1
  refine qk_aloadn C dL_law_1341 1342 rfl rfl 2 rfl ?_
  refine qk_callV C dL_law_1342 1345 rfl ql_L_163 qc_X5_image 0 (by decide) rfl rfl (c_X5_image l G σ N (σ 54) hI hH) rfl rfl (Nat.le_of_ble_eq_true rfl) ⟨(Nat.le_of_ble_eq_true rfl), (Nat.le_of_ble_eq_true rfl)⟩ (qx_Ki ?_)
  refine qk_aloadn C dL_law_1345 1346 rfl rfl 3 rfl ?_
  have e54 : va_up (qL σ 27 N (σ 54)) 0 (upd (σ 0) 3 1) 54 = σ 54 := (qx_up_ne (by omega)).trans (qL_o (by have := hI.1; omega) (by omega))
  refine qk_sg (va_up (va_up (qL σ 27 N (σ 54)) 0 (upd (σ 0) 3 1)) 54 (σ 54)) (m_upid.symm.trans (congrArg (va_up (va_up (qL σ 27 N (σ 54)) 0 (upd (σ 0) 3 1)) 54) e54)) ?_
  refine qk_callV C dL_law_1346 1349 rfl ql_L_166 qc_X6_image 53 (by decide) rfl rfl (c_X6_image l G _ (σ 54)) rfl rfl (Nat.le_of_ble_eq_true rfl) ⟨(Nat.le_of_ble_eq_true rfl), (Nat.le_of_ble_eq_true rfl)⟩ (qx_Ki ?_)
  refine qk_icmp_eq C dL_law_1349 1426 rfl 1352 rfl (fun _ => next _ (r_image h hI hH)) (fun c => absurd rfl c)
theorem law_37 (l : Launch) (G : qx_G) {Δ : qx_T} (C : qx_C G Δ cL_law RL 4 12 474) {b L : Nat} {xs : Nat → Int32} (S : qx_Sc Δ b L xs) (i : Nat) (hi : i + 6 ≤ L) (σ : qx_Sg) (h : rel σ) (next : ∀ σ2, rel σ2 → qx_K l G Δ σ2 1426 [(3, .int (nI i)), (0, .ref b), (1, .ref (qx_ad G 0)), (2, .ref (qx_ad G 53))] []) : qx_K l G Δ σ 1354 [(3, .int (nI i)), (0, .ref b), (1, .ref (qx_ad G 0)), (2, .ref (qx_ad G 53))] [] := by
  obtain ⟨N, hI, hH⟩ := h.1
  refine qk_aloadn C dL_law_1354 1355 rfl rfl 2 rfl ?_
  refine qk_byc (σ 0 3 = 0) (fun c0 => ?_) (fun c0 => ?_)
  · refine qk_callV C dL_law_1355 1358 rfl ql_L_167 qc_X5_undo 0 (by decide) rfl rfl (c_X5_undo0 l G σ c0) rfl rfl (Nat.le_of_ble_eq_true rfl) ⟨(Nat.le_of_ble_eq_true rfl), (Nat.le_of_ble_eq_true rfl)⟩ (qx_Ki ?_)
    refine qk_aloadn C dL_law_1358 1359 rfl rfl 3 rfl ?_
    refine qk_callV C dL_law_1359 1362 rfl ql_L_170 qc_X6_undo 53 (by decide) rfl rfl (c_X6_undo l G (z_fnd σ 3)) rfl rfl (Nat.le_of_ble_eq_true rfl) ⟨(Nat.le_of_ble_eq_true rfl), (Nat.le_of_ble_eq_true rfl)⟩ (fun v2 σ2 hE => ?_)
    rw [show M_undo (z_fnd σ 3) = m_bw (z_fnd σ 3) 3 from zw_t (show z_fnd σ 3 53 3 = 0 from h.2.1.1.symm.trans c0)] at hE
    obtain ⟨rfl, rfl⟩ := hE
    refine qk_icmp_eq C dL_law_1362 1426 rfl 1365 rfl (fun _ => next _ (rel_bad (by omega) h)) (fun c => absurd rfl c)
  · have c1 : ¬ σ 53 3 = 0 := by rw [← h.2.1.1]; exact c0
    obtain ⟨M, hM, hJ⟩ := h.2.1.2 c1
    refine qk_callV C dL_law_1355 1358 rfl ql_L_167 qc_X5_undo 0 (by decide) rfl rfl (c_X5_undo1 l G σ M (σ 55) hM c0 hJ) rfl rfl (Nat.le_of_ble_eq_true rfl) ⟨(Nat.le_of_ble_eq_true rfl), (Nat.le_of_ble_eq_true rfl)⟩ (qx_Ki ?_)
    refine qk_aloadn C dL_law_1358 1359 rfl rfl 3 rfl ?_
    have e3 : qL σ 1 M (σ 55) 53 = σ 53 := qL_o (by have := hM.1; omega) (by omega)
    have e5 : qL σ 1 M (σ 55) 55 = σ 55 := qL_o (by have := hM.1; omega) (by omega)
    refine qk_callV C dL_law_1359 1362 rfl ql_L_170 qc_X6_undo 53 (by decide) rfl rfl (c_X6_undo l G (qL σ 1 M (σ 55))) rfl rfl (Nat.le_of_ble_eq_true rfl) ⟨(Nat.le_of_ble_eq_true rfl), (Nat.le_of_ble_eq_true rfl)⟩ (fun v2 σ2 hE => ?_)
    rw [show M_undo (qL σ 1 M (σ 55)) = (qL σ 1 M (σ 55) 55 0, va_up (qL σ 1 M (σ 55)) 54 (qL σ 1 M (σ 55) 55)) from zw_f (by rw [e3]; exact c1)] at hE
    obtain ⟨rfl, rfl⟩ := hE
    refine qk_icmp_eq C dL_law_1362 1426 rfl 1365 rfl (fun _ => next _ (r_undo1 h hM)) (fun c => absurd (show σ 55 0 = qL σ 1 M (σ 55) 55 0 from by rw [e5]) c)
theorem law_38 (l : Launch) (G : qx_G) {Δ : qx_T} (C : qx_C G Δ cL_law RL 4 12 474) {b L : Nat} {xs : Nat → Int32} (S : qx_Sc Δ b L xs) (i : Nat) (hi : i + 6 ≤ L) (σ : qx_Sg) (h : rel σ) (next : ∀ σ2, rel σ2 → qx_K l G Δ σ2 1426 [(3, .int (nI i)), (0, .ref b), (1, .ref (qx_ad G 0)), (2, .ref (qx_ad G 53))] []) : qx_K l G Δ σ 1367 [(3, .int (nI i)), (0, .ref b), (1, .ref (qx_ad G 0)), (2, .ref (qx_ad G 53))] [] := by
  obtain ⟨N, hI, hH⟩ := h.1
  refine qk_aloadn C dL_law_1367 1368 rfl rfl 2 rfl ?_
  refine qk_callV C dL_law_1368 1371 rfl ql_L_171 qc_X5_tear 0 (by decide) rfl rfl (c_X5_tear l G σ) rfl rfl (Nat.le_of_ble_eq_true rfl) ⟨(Nat.le_of_ble_eq_true rfl), (Nat.le_of_ble_eq_true rfl)⟩ (qx_Ki ?_)
  refine qk_aloadn C dL_law_1371 1372 rfl rfl 3 rfl ?_
  refine qk_callV C dL_law_1372 1375 rfl ql_L_174 qc_X6_tear 53 (by decide) rfl rfl (c_X6_tear l G _) rfl rfl (Nat.le_of_ble_eq_true rfl) ⟨(Nat.le_of_ble_eq_true rfl), (Nat.le_of_ble_eq_true rfl)⟩ (qx_Ki ?_)
  refine qk_icmp_eq C dL_law_1375 1426 rfl 1378 rfl (fun _ => next _ (r_tear h).2) (fun c => absurd (show qb (¬ σ 0 3 = 0) = _ from (r_tear h).1) c)
theorem law_39 (l : Launch) (G : qx_G) {Δ : qx_T} (C : qx_C G Δ cL_law RL 4 12 474) {b L : Nat} {xs : Nat → Int32} (S : qx_Sc Δ b L xs) (i : Nat) (hi : i + 6 ≤ L) (σ : qx_Sg) (h : rel σ) (next : ∀ σ2, rel σ2 → qx_K l G Δ σ2 1426 [(3, .int (nI i)), (0, .ref b), (1, .ref (qx_ad G 0)), (2, .ref (qx_ad G 53))] []) : qx_K l G Δ σ 1380 [(3, .int (nI i)), (0, .ref b), (1, .ref (qx_ad G 0)), (2, .ref (qx_ad G 53))] [] := by
  obtain ⟨N, hI, hH⟩ := h.1
  refine qk_aloadn C dL_law_1380 1381 rfl rfl 2 rfl ?_
  refine qk_aloadn C dL_law_1381 1382 rfl rfl 1 rfl ?_
  refine qk_iloadn C dL_law_1382 1383 rfl rfl 0 rfl ?_
  refine qk_iconst C (1) dL_law_1383 1384 rfl rfl ?_
  refine qk_iadd C dL_law_1384 1385 rfl ?_
  refine qk_sld C S dL_law_1385 1386 rfl (i + 1) (nI_add i 1) (by omega) ?_
  refine qk_callV C dL_law_1386 1389 rfl ql_L_175 qc_X5_count 0 (by decide) rfl rfl (c_X5_count l G σ N (σ 54) hI hH (xs (i + 1))) rfl rfl (Nat.le_of_ble_eq_true rfl) ⟨(Nat.le_of_ble_eq_true rfl), (Nat.le_of_ble_eq_true rfl)⟩ (fun v1 σ1 hE => ?_)
  obtain ⟨rfl, hE⟩ := hE
  refine qk_aloadn C dL_law_1389 1390 rfl rfl 3 rfl ?_
  refine qk_aloadn C dL_law_1390 1391 rfl rfl 1 rfl ?_
  refine qk_iloadn C dL_law_1391 1392 rfl rfl 0 rfl ?_
  refine qk_iconst C (1) dL_law_1392 1393 rfl rfl ?_
  refine qk_iadd C dL_law_1393 1394 rfl ?_
  refine qk_sld C S dL_law_1394 1395 rfl (i + 1) (nI_add i 1) (by omega) ?_
  have e54 : σ1 54 = σ 54 := hE.2.2 54 (by omega) (by omega) (by omega)
  have oE : ∀ k, 53 ≤ k → k < 65 → σ1 k = σ k := fun k a c => hE.2.2 k c (by omega) (by omega)
  refine qk_sg (va_up σ1 54 (σ 54)) (by rw [← e54, m_upid]) ?_
  refine qk_callV C dL_law_1395 1398 rfl ql_L_178 qc_X6_count 53 (by decide) rfl rfl (c_X6_count l G σ1 N (σ 54) hI (xs (i + 1))) rfl rfl (Nat.le_of_ble_eq_true rfl) ⟨(Nat.le_of_ble_eq_true rfl), (Nat.le_of_ble_eq_true rfl)⟩ (fun v2 σ2 hE2 => ?_)
  obtain ⟨t, t2, t3, t4⟩ := h.2.2.1.1
  rw [oE 53 (by omega) (by omega), t4, ← t3] at hE2
  obtain ⟨rfl, hE2⟩ := hE2
  refine qk_icmp_eq C dL_law_1398 1426 rfl 1401 rfl (fun _ => next _ (rel_S h (sG_count hI) hE hE2)) (fun c => absurd rfl c)
theorem law_40 (l : Launch) (G : qx_G) {Δ : qx_T} (C : qx_C G Δ cL_law RL 4 12 474) {b L : Nat} {xs : Nat → Int32} (S : qx_Sc Δ b L xs) (i : Nat) (hi : i + 6 ≤ L) (σ : qx_Sg) (h : rel σ) (next : ∀ σ2, rel σ2 → qx_K l G Δ σ2 1426 [(3, .int (nI i)), (0, .ref b), (1, .ref (qx_ad G 0)), (2, .ref (qx_ad G 53))] []) : qx_K l G Δ σ 1403 [(3, .int (nI i)), (0, .ref b), (1, .ref (qx_ad G 0)), (2, .ref (qx_ad G 53))] [] := by
  obtain ⟨N, hI, hH⟩ := h.1
  refine qk_aloadn C dL_law_1403 1404 rfl rfl 2 rfl ?_
  refine qk_aloadn C dL_law_1404 1405 rfl rfl 1 rfl ?_
  refine qk_iloadn C dL_law_1405 1406 rfl rfl 0 rfl ?_
  refine qk_iconst C (1) dL_law_1406 1407 rfl rfl ?_
  refine qk_iadd C dL_law_1407 1408 rfl ?_
  refine qk_sld C S dL_law_1408 1409 rfl (i + 1) (nI_add i 1) (by omega) ?_
  refine qk_callV C dL_law_1409 1412 rfl ql_L_179 qc_X5_status 0 (by decide) rfl rfl (c_X5_status l G σ (xs (i + 1))) rfl rfl (Nat.le_of_ble_eq_true rfl) ⟨(Nat.le_of_ble_eq_true rfl), (Nat.le_of_ble_eq_true rfl)⟩ (fun v1 σ1 hE => ?_)
  obtain ⟨rfl, rfl⟩ := hE
  refine qk_aloadn C dL_law_1412 1413 rfl rfl 3 rfl ?_
  refine qk_aloadn C dL_law_1413 1414 rfl rfl 1 rfl ?_
  refine qk_iloadn C dL_law_1414 1415 rfl rfl 0 rfl ?_
  refine qk_iconst C (1) dL_law_1415 1416 rfl rfl ?_
  refine qk_iadd C dL_law_1416 1417 rfl ?_
  refine qk_sld C S dL_law_1417 1418 rfl (i + 1) (nI_add i 1) (by omega) ?_
  refine qk_callV C dL_law_1418 1421 rfl ql_L_182 qc_X6_status 53 (by decide) rfl rfl (c_X6_status l G (T_status σ (xs (i + 1))).2 (xs (i + 1))) rfl rfl (Nat.le_of_ble_eq_true rfl) ⟨(Nat.le_of_ble_eq_true rfl), (Nat.le_of_ble_eq_true rfl)⟩ (fun v2 σ2 hE => ?_)
  obtain ⟨rfl, rfl⟩ := hE
  have hr := r_status (σ := σ) (x := xs (i + 1)) h
  refine qk_icmp_eq C dL_law_1421 1426 rfl 1424 rfl (fun _ => next _ hr.2) (fun c => absurd hr.1.symm c)
