/-! ===== the law's 28 cases ===== -/
section LC
variable {X : Cx} {l0 : Launch} {G : Gl} {b N n : Nat} {xs : Nat → Int32} {P : Nat → Nat} {V : Vt}
theorem law_c0 (E : Ey X l0 G b N xs) (hI : LI P V n) (hn : n ≤ 512) (hN : N ≤ 3072) (h6 : 6 * n + 6 ≤ N) (kk : ∀ P2 V2, LI P2 V2 (n + 1) → Ky X G P2 V2 [some (.ref b), some (.ref (ad G 10 0)), some (.ref (ad G 16 0)), some (.int (iI (6 * (n : Int))))] 954 []) : Ky X G P V [some (.ref b), some (.ref (ad G 10 0)), some (.ref (ad G 16 0)), some (.int (iI (6 * (n : Int))))] 160 [] := by
  refine y_aload_n E dL_law_160 1 rfl rfl ?_
  refine y_arg E (jj := 1) 1 rfl rfl rfl hN (by omega) dL_law_161 dL_law_162 dL_law_163 dL_law_164 dL_law_165 ?_
  refine y_arg E (jj := 2) 2 rfl rfl rfl hN (by omega) dL_law_166 dL_law_167 dL_law_168 dL_law_169 dL_law_170 ?_
  refine y_arg E (jj := 3) 3 rfl rfl rfl hN (by omega) dL_law_171 dL_law_172 dL_law_173 dL_law_174 dL_law_175 ?_
  refine y_callV E (ci := 5) (NN := 4) (C := RX5) (T := TX5) (n := 3) (st := []) (rfl : vl 10 0 = true) rfl rfl [.int (iI (xv xs n 1)), .int (iI (xv xs n 2)), .int (iI (xv xs n 3))] (kX5_write l0 G P V (xv xs n 1) (xv xs n 2) (xv xs n 3) hI.w0 hI.B hI.R.hn0 hI.R.hn1 hI.R.L hI.R.U (hI.h5 hn) hI.R.hcm hI.w1 hI.uw hI.o hI.z xv_R xv_R xv_R) gL_law_X5_write rfl ⟨rfl, rfl⟩ (by decide +kernel) ⟨Nat.le_of_ble_eq_true rfl, Nat.le_of_ble_eq_true rfl⟩ rfl rfl (Nat.le_of_ble_eq_true rfl) rfl dL_law_176 (fun r P1 V1 h1 => ?_)
  obtain ⟨hB1, Vq, hF, hq, kp⟩ := h1
  have k1 := ck hF kp
  have l6 := hI.l6 hn hB1 (fun r hr => k1 r 0 (by omega) (by omega))
  refine y_aload_n E dL_law_179 2 rfl rfl ?_
  refine y_arg E (jj := 1) 1 rfl rfl rfl hN (by omega) dL_law_180 dL_law_181 dL_law_182 dL_law_183 dL_law_184 ?_
  refine y_arg E (jj := 2) 2 rfl rfl rfl hN (by omega) dL_law_185 dL_law_186 dL_law_187 dL_law_188 dL_law_189 ?_
  refine y_arg E (jj := 3) 3 rfl rfl rfl hN (by omega) dL_law_190 dL_law_191 dL_law_192 dL_law_193 dL_law_194 ?_
  refine y_callV E (ci := 6) (NN := 16) (C := RX6) (T := TX6) (n := 3) (st := [.int (iI r)]) (rfl : vl 16 0 = true) rfl rfl [.int (iI (xv xs n 1)), .int (iI (xv xs n 2)), .int (iI (xv xs n 3))] (kX6_write l0 G P1 V1 (xv xs n 1) (xv xs n 2) (xv xs n 3) l6.B l6.m0 l6.m1 l6.M.l l6.M.hh l6.a5 l6.q l6.q4 xv_R xv_R xv_R) gL_law_X6_write rfl ⟨rfl, rfl⟩ (by decide +kernel) ⟨Nat.le_of_ble_eq_true rfl, Nat.le_of_ble_eq_true rfl⟩ rfl rfl (Nat.le_of_ble_eq_true rfl) rfl dL_law_195 (fun r2 P2 V2 h2 => ?_)
  obtain ⟨e2, hB2, _, h2⟩ := h2
  subst e2
  obtain ⟨s5, q5, w5⟩ := fillQ_sim hI.cpR hq
  have z := fi_of l6.M h2
  rw [k1 17 0 (by decide) (by decide)] at z
  obtain ⟨er, e17⟩ := qFi_det q5 z.1
  have hI2 := hI.change hF w5 kp hB2 (er ▸ z.2) e17 (qFi_MV hI.M z.1).2
  rw [er]
  exact y_eq E 954 dL_law_198 rfl (kk _ _ hI2)
theorem law_c1 (E : Ey X l0 G b N xs) (hI : LI P V n) (hn : n ≤ 512) (hN : N ≤ 3072) (h6 : 6 * n + 6 ≤ N) (kk : ∀ P2 V2, LI P2 V2 (n + 1) → Ky X G P2 V2 [some (.ref b), some (.ref (ad G 10 0)), some (.ref (ad G 16 0)), some (.int (iI (6 * (n : Int))))] 954 []) : Ky X G P V [some (.ref b), some (.ref (ad G 10 0)), some (.ref (ad G 16 0)), some (.int (iI (6 * (n : Int))))] 203 [] := by
  refine y_aload_n E dL_law_203 1 rfl rfl ?_
  refine y_arg E (jj := 1) 1 rfl rfl rfl hN (by omega) dL_law_204 dL_law_205 dL_law_206 dL_law_207 dL_law_208 ?_
  refine y_arg E (jj := 2) 2 rfl rfl rfl hN (by omega) dL_law_209 dL_law_210 dL_law_211 dL_law_212 dL_law_213 ?_
  refine y_arg E (jj := 3) 3 rfl rfl rfl hN (by omega) dL_law_214 dL_law_215 dL_law_216 dL_law_217 dL_law_218 ?_
  refine y_arg E (jj := 4) 4 rfl rfl rfl hN (by omega) dL_law_219 dL_law_220 dL_law_221 dL_law_222 dL_law_223 ?_
  refine y_callV E (ci := 5) (NN := 4) (C := RX5) (T := TX5) (n := 4) (st := []) (rfl : vl 10 0 = true) rfl rfl [.int (iI (xv xs n 1)), .int (iI (xv xs n 2)), .int (iI (xv xs n 3)), .int (iI (xv xs n 4))] (kX5_fill l0 G P V (xv xs n 1) (xv xs n 2) (xv xs n 3) (xv xs n 4) hI.w0 hI.B hI.R.hn0 hI.R.hn1 hI.R.L hI.R.U (hI.h5 hn) hI.R.hcm hI.w1 hI.uw hI.o hI.z xv_R xv_R xv_R xv_R) gL_law_X5_fill rfl ⟨rfl, rfl⟩ (by decide +kernel) ⟨Nat.le_of_ble_eq_true rfl, Nat.le_of_ble_eq_true rfl⟩ rfl rfl (Nat.le_of_ble_eq_true rfl) rfl dL_law_224 (fun r P1 V1 h1 => ?_)
  obtain ⟨hB1, Vq, hF, hq, kp⟩ := h1
  have k1 := ck hF kp
  have l6 := hI.l6 hn hB1 (fun r hr => k1 r 0 (by omega) (by omega))
  refine y_aload_n E dL_law_227 2 rfl rfl ?_
  refine y_arg E (jj := 1) 1 rfl rfl rfl hN (by omega) dL_law_228 dL_law_229 dL_law_230 dL_law_231 dL_law_232 ?_
  refine y_arg E (jj := 2) 2 rfl rfl rfl hN (by omega) dL_law_233 dL_law_234 dL_law_235 dL_law_236 dL_law_237 ?_
  refine y_arg E (jj := 3) 3 rfl rfl rfl hN (by omega) dL_law_238 dL_law_239 dL_law_240 dL_law_241 dL_law_242 ?_
  refine y_arg E (jj := 4) 4 rfl rfl rfl hN (by omega) dL_law_243 dL_law_244 dL_law_245 dL_law_246 dL_law_247 ?_
  refine y_callV E (ci := 6) (NN := 16) (C := RX6) (T := TX6) (n := 4) (st := [.int (iI r)]) (rfl : vl 16 0 = true) rfl rfl [.int (iI (xv xs n 1)), .int (iI (xv xs n 2)), .int (iI (xv xs n 3)), .int (iI (xv xs n 4))] (kX6_fill l0 G P1 V1 (xv xs n 1) (xv xs n 2) (xv xs n 3) (xv xs n 4) l6.B l6.m0 l6.m1 l6.M.l l6.M.hh l6.a5 l6.q l6.q4 xv_R xv_R xv_R xv_R) gL_law_X6_fill rfl ⟨rfl, rfl⟩ (by decide +kernel) ⟨Nat.le_of_ble_eq_true rfl, Nat.le_of_ble_eq_true rfl⟩ rfl rfl (Nat.le_of_ble_eq_true rfl) rfl dL_law_248 (fun r2 P2 V2 h2 => ?_)
  obtain ⟨e2, hB2, _, h2⟩ := h2
  subst e2
  obtain ⟨s5, q5, w5⟩ := fillQ_sim hI.cpR hq
  have z := fi_of l6.M h2
  rw [k1 17 0 (by decide) (by decide)] at z
  obtain ⟨er, e17⟩ := qFi_det q5 z.1
  have hI2 := hI.change hF w5 kp hB2 (er ▸ z.2) e17 (qFi_MV hI.M z.1).2
  rw [er]
  exact y_eq E 954 dL_law_251 rfl (kk _ _ hI2)
theorem law_c2 (E : Ey X l0 G b N xs) (hI : LI P V n) (hn : n ≤ 512) (hN : N ≤ 3072) (h6 : 6 * n + 6 ≤ N) (kk : ∀ P2 V2, LI P2 V2 (n + 1) → Ky X G P2 V2 [some (.ref b), some (.ref (ad G 10 0)), some (.ref (ad G 16 0)), some (.int (iI (6 * (n : Int))))] 954 []) : Ky X G P V [some (.ref b), some (.ref (ad G 10 0)), some (.ref (ad G 16 0)), some (.int (iI (6 * (n : Int))))] 256 [] := by
  refine y_aload_n E dL_law_256 1 rfl rfl ?_
  refine y_arg E (jj := 1) 1 rfl rfl rfl hN (by omega) dL_law_257 dL_law_258 dL_law_259 dL_law_260 dL_law_261 ?_
  refine y_arg E (jj := 2) 2 rfl rfl rfl hN (by omega) dL_law_262 dL_law_263 dL_law_264 dL_law_265 dL_law_266 ?_
  refine y_arg E (jj := 3) 3 rfl rfl rfl hN (by omega) dL_law_267 dL_law_268 dL_law_269 dL_law_270 dL_law_271 ?_
  refine y_arg E (jj := 4) 4 rfl rfl rfl hN (by omega) dL_law_272 dL_law_273 dL_law_274 dL_law_275 dL_law_276 ?_
  refine y_arg E (jj := 5) 5 rfl rfl rfl hN (by omega) dL_law_277 dL_law_278 dL_law_279 dL_law_280 dL_law_281 ?_
  refine y_callV E (ci := 5) (NN := 4) (C := RX5) (T := TX5) (n := 5) (st := []) (rfl : vl 10 0 = true) rfl rfl [.int (iI (xv xs n 1)), .int (iI (xv xs n 2)), .int (iI (xv xs n 3)), .int (iI (xv xs n 4)), .int (iI (xv xs n 5))] (kX5_copy l0 G P V (xv xs n 1) (xv xs n 2) (xv xs n 3) (xv xs n 4) (xv xs n 5) hI.w0 hI.B hI.R.hn0 hI.R.hn1 hI.R.L hI.R.U (hI.h5 hn) hI.R.hcm hI.w1 hI.uw hI.o hI.z xv_R xv_R xv_R xv_R xv_R) gL_law_X5_copy rfl ⟨rfl, rfl⟩ (by decide +kernel) ⟨Nat.le_of_ble_eq_true rfl, Nat.le_of_ble_eq_true rfl⟩ rfl rfl (Nat.le_of_ble_eq_true rfl) rfl dL_law_282 (fun r P1 V1 h1 => ?_)
  obtain ⟨hB1, Vq, hF, hq, kp⟩ := h1
  have k1 := ck hF kp
  have l6 := hI.l6 hn hB1 (fun r hr => k1 r 0 (by omega) (by omega))
  refine y_aload_n E dL_law_285 2 rfl rfl ?_
  refine y_arg E (jj := 1) 1 rfl rfl rfl hN (by omega) dL_law_286 dL_law_287 dL_law_288 dL_law_289 dL_law_290 ?_
  refine y_arg E (jj := 2) 2 rfl rfl rfl hN (by omega) dL_law_291 dL_law_292 dL_law_293 dL_law_294 dL_law_295 ?_
  refine y_arg E (jj := 3) 3 rfl rfl rfl hN (by omega) dL_law_296 dL_law_297 dL_law_298 dL_law_299 dL_law_300 ?_
  refine y_arg E (jj := 4) 4 rfl rfl rfl hN (by omega) dL_law_301 dL_law_302 dL_law_303 dL_law_304 dL_law_305 ?_
  refine y_arg E (jj := 5) 5 rfl rfl rfl hN (by omega) dL_law_306 dL_law_307 dL_law_308 dL_law_309 dL_law_310 ?_
  refine y_callV E (ci := 6) (NN := 16) (C := RX6) (T := TX6) (n := 5) (st := [.int (iI r)]) (rfl : vl 16 0 = true) rfl rfl [.int (iI (xv xs n 1)), .int (iI (xv xs n 2)), .int (iI (xv xs n 3)), .int (iI (xv xs n 4)), .int (iI (xv xs n 5))] (kX6_copy l0 G P1 V1 (xv xs n 1) (xv xs n 2) (xv xs n 3) (xv xs n 4) (xv xs n 5) l6.B l6.m0 l6.m1 l6.M.l l6.M.hh l6.a5 l6.q l6.q4 xv_R xv_R xv_R xv_R xv_R) gL_law_X6_copy rfl ⟨rfl, rfl⟩ (by decide +kernel) ⟨Nat.le_of_ble_eq_true rfl, Nat.le_of_ble_eq_true rfl⟩ rfl rfl (Nat.le_of_ble_eq_true rfl) rfl dL_law_311 (fun r2 P2 V2 h2 => ?_)
  obtain ⟨e2, hB2, _, h2⟩ := h2
  subst e2
  obtain ⟨s5, q5, w5⟩ := copyQ_sim hI.cpR hq
  have z := co_of l6.M h2
  rw [k1 17 0 (by decide) (by decide)] at z
  obtain ⟨er, e17⟩ := qCo_det q5 z.1
  have hI2 := hI.change hF w5 kp hB2 (er ▸ z.2) e17 (qCo_MV hI.M z.1).2
  rw [er]
  exact y_eq E 954 dL_law_314 rfl (kk _ _ hI2)
theorem law_c3 (E : Ey X l0 G b N xs) (hI : LI P V n) (hn : n ≤ 512) (hN : N ≤ 3072) (h6 : 6 * n + 6 ≤ N) (kk : ∀ P2 V2, LI P2 V2 (n + 1) → Ky X G P2 V2 [some (.ref b), some (.ref (ad G 10 0)), some (.ref (ad G 16 0)), some (.int (iI (6 * (n : Int))))] 954 []) : Ky X G P V [some (.ref b), some (.ref (ad G 10 0)), some (.ref (ad G 16 0)), some (.int (iI (6 * (n : Int))))] 319 [] := by
  refine y_aload_n E dL_law_319 1 rfl rfl ?_
  refine y_arg E (jj := 1) 1 rfl rfl rfl hN (by omega) dL_law_320 dL_law_321 dL_law_322 dL_law_323 dL_law_324 ?_
  refine y_arg E (jj := 2) 2 rfl rfl rfl hN (by omega) dL_law_325 dL_law_326 dL_law_327 dL_law_328 dL_law_329 ?_
  refine y_callV E (ci := 5) (NN := 4) (C := RX5) (T := TX5) (n := 2) (st := []) (rfl : vl 10 0 = true) rfl rfl [.int (iI (xv xs n 1)), .int (iI (xv xs n 2))] (kX5_merge l0 G P V (xv xs n 1) (xv xs n 2) hI.w0 hI.B hI.R.hn0 hI.R.hn1 hI.R.L hI.R.U (hI.h5 hn) hI.R.hcm hI.w1 hI.uw hI.o hI.z xv_R xv_R) gL_law_X5_merge rfl ⟨rfl, rfl⟩ (by decide +kernel) ⟨Nat.le_of_ble_eq_true rfl, Nat.le_of_ble_eq_true rfl⟩ rfl rfl (Nat.le_of_ble_eq_true rfl) rfl dL_law_330 (fun r P1 V1 h1 => ?_)
  obtain ⟨hB1, Vq, hF, hq, kp⟩ := h1
  have k1 := ck hF kp
  have l6 := hI.l6 hn hB1 (fun r hr => k1 r 0 (by omega) (by omega))
  refine y_aload_n E dL_law_333 2 rfl rfl ?_
  refine y_arg E (jj := 1) 1 rfl rfl rfl hN (by omega) dL_law_334 dL_law_335 dL_law_336 dL_law_337 dL_law_338 ?_
  refine y_arg E (jj := 2) 2 rfl rfl rfl hN (by omega) dL_law_339 dL_law_340 dL_law_341 dL_law_342 dL_law_343 ?_
  refine y_callV E (ci := 6) (NN := 16) (C := RX6) (T := TX6) (n := 2) (st := [.int (iI r)]) (rfl : vl 16 0 = true) rfl rfl [.int (iI (xv xs n 1)), .int (iI (xv xs n 2))] (kX6_merge l0 G P1 V1 (xv xs n 1) (xv xs n 2) l6.B l6.m0 l6.m1 l6.M.l l6.M.i l6.M.hh l6.a5 l6.q l6.q4 xv_R xv_R) gL_law_X6_merge rfl ⟨rfl, rfl⟩ (by decide +kernel) ⟨Nat.le_of_ble_eq_true rfl, Nat.le_of_ble_eq_true rfl⟩ rfl rfl (Nat.le_of_ble_eq_true rfl) rfl dL_law_344 (fun r2 P2 V2 h2 => ?_)
  obtain ⟨e2, hB2, _, h2⟩ := h2
  subst e2
  obtain ⟨s5, q5, w5⟩ := mergeQ_sim hI.cpR hq
  have z := me_of l6.M h2
  rw [k1 17 0 (by decide) (by decide)] at z
  obtain ⟨er, e17⟩ := qMe_det q5 z.1
  have hI2 := hI.change hF w5 kp hB2 (er ▸ z.2) e17 (qMe_MV hI.M z.1).2
  rw [er]
  exact y_eq E 954 dL_law_347 rfl (kk _ _ hI2)
theorem law_c4 (E : Ey X l0 G b N xs) (hI : LI P V n) (hn : n ≤ 512) (hN : N ≤ 3072) (h6 : 6 * n + 6 ≤ N) (kk : ∀ P2 V2, LI P2 V2 (n + 1) → Ky X G P2 V2 [some (.ref b), some (.ref (ad G 10 0)), some (.ref (ad G 16 0)), some (.int (iI (6 * (n : Int))))] 954 []) : Ky X G P V [some (.ref b), some (.ref (ad G 10 0)), some (.ref (ad G 16 0)), some (.int (iI (6 * (n : Int))))] 352 [] := by
  refine y_aload_n E dL_law_352 1 rfl rfl ?_
  refine y_arg E (jj := 1) 1 rfl rfl rfl hN (by omega) dL_law_353 dL_law_354 dL_law_355 dL_law_356 dL_law_357 ?_
  refine y_callV E (ci := 5) (NN := 4) (C := RX5) (T := TX5) (n := 1) (st := []) (rfl : vl 10 0 = true) rfl rfl [.int (iI (xv xs n 1))] (kX5_branch l0 G P V (xv xs n 1) hI.w0 hI.B hI.R.hn0 hI.R.hn1 hI.R.L hI.R.U (hI.h5 hn) hI.R.hcm hI.w1 hI.uw hI.o hI.z xv_R) gL_law_X5_branch rfl ⟨rfl, rfl⟩ (by decide +kernel) ⟨Nat.le_of_ble_eq_true rfl, Nat.le_of_ble_eq_true rfl⟩ rfl rfl (Nat.le_of_ble_eq_true rfl) rfl dL_law_358 (fun r P1 V1 h1 => ?_)
  obtain ⟨hB1, Vq, hF, hq, kp⟩ := h1
  have k1 := ck hF kp
  have l6 := hI.l6 hn hB1 (fun r hr => k1 r 0 (by omega) (by omega))
  refine y_aload_n E dL_law_361 2 rfl rfl ?_
  refine y_arg E (jj := 1) 1 rfl rfl rfl hN (by omega) dL_law_362 dL_law_363 dL_law_364 dL_law_365 dL_law_366 ?_
  refine y_callV E (ci := 6) (NN := 16) (C := RX6) (T := TX6) (n := 1) (st := [.int (iI r)]) (rfl : vl 16 0 = true) rfl rfl [.int (iI (xv xs n 1))] (kX6_branch l0 G P1 V1 (xv xs n 1) l6.B l6.m0 l6.m1 l6.q l6.q4 xv_R) gL_law_X6_branch rfl ⟨rfl, rfl⟩ (by decide +kernel) ⟨Nat.le_of_ble_eq_true rfl, Nat.le_of_ble_eq_true rfl⟩ rfl rfl (Nat.le_of_ble_eq_true rfl) rfl dL_law_367 (fun r2 P2 V2 h2 => ?_)
  obtain ⟨e2, hB2, h2⟩ := h2
  subst e2
  obtain ⟨s5, q5, w5⟩ := addBQ_sim hI.cpR hq
  have z := br_of h2
  rw [k1 17 0 (by decide) (by decide)] at z
  obtain ⟨er, e17⟩ := qBr_det q5 z.1
  have hI2 := hI.change hF w5 kp hB2 (er ▸ z.2) e17 (qBr_MV hI.M z.1).2
  rw [er]
  exact y_eq E 954 dL_law_370 rfl (kk _ _ hI2)
theorem law_c5 (E : Ey X l0 G b N xs) (hI : LI P V n) (hn : n ≤ 512) (hN : N ≤ 3072) (h6 : 6 * n + 6 ≤ N) (kk : ∀ P2 V2, LI P2 V2 (n + 1) → Ky X G P2 V2 [some (.ref b), some (.ref (ad G 10 0)), some (.ref (ad G 16 0)), some (.int (iI (6 * (n : Int))))] 954 []) : Ky X G P V [some (.ref b), some (.ref (ad G 10 0)), some (.ref (ad G 16 0)), some (.int (iI (6 * (n : Int))))] 375 [] := by
  refine y_aload_n E dL_law_375 1 rfl rfl ?_
  refine y_arg E (jj := 1) 1 rfl rfl rfl hN (by omega) dL_law_376 dL_law_377 dL_law_378 dL_law_379 dL_law_380 ?_
  refine y_callV E (ci := 5) (NN := 4) (C := RX5) (T := TX5) (n := 1) (st := []) (rfl : vl 10 0 = true) rfl rfl [.int (iI (xv xs n 1))] (kX5_leave l0 G P V (xv xs n 1) hI.w0 hI.B hI.R.hn0 hI.R.hn1 hI.R.L hI.R.U (hI.h5 hn) hI.R.hcm hI.w1 hI.uw hI.o hI.z xv_R) gL_law_X5_leave rfl ⟨rfl, rfl⟩ (by decide +kernel) ⟨Nat.le_of_ble_eq_true rfl, Nat.le_of_ble_eq_true rfl⟩ rfl rfl (Nat.le_of_ble_eq_true rfl) rfl dL_law_381 (fun r P1 V1 h1 => ?_)
  obtain ⟨hB1, Vq, hF, hq, kp⟩ := h1
  have k1 := ck hF kp
  have l6 := hI.l6 hn hB1 (fun r hr => k1 r 0 (by omega) (by omega))
  refine y_aload_n E dL_law_384 2 rfl rfl ?_
  refine y_arg E (jj := 1) 1 rfl rfl rfl hN (by omega) dL_law_385 dL_law_386 dL_law_387 dL_law_388 dL_law_389 ?_
  refine y_callV E (ci := 6) (NN := 16) (C := RX6) (T := TX6) (n := 1) (st := [.int (iI r)]) (rfl : vl 16 0 = true) rfl rfl [.int (iI (xv xs n 1))] (kX6_leave l0 G P1 V1 (xv xs n 1) l6.B l6.q l6.q4 xv_R) gL_law_X6_leave rfl ⟨rfl, rfl⟩ (by decide +kernel) ⟨Nat.le_of_ble_eq_true rfl, Nat.le_of_ble_eq_true rfl⟩ rfl rfl (Nat.le_of_ble_eq_true rfl) rfl dL_law_390 (fun r2 P2 V2 h2 => ?_)
  obtain ⟨e2, hB2, h2⟩ := h2
  subst e2
  obtain ⟨s5, q5, w5⟩ := dropQ_sim hI.cpR hq
  have z := le_of h2
  rw [k1 17 0 (by decide) (by decide)] at z
  obtain ⟨er, e17⟩ := qLe_det q5 z.1
  have hI2 := hI.change hF w5 kp hB2 (er ▸ z.2) e17 (qLe_MV hI.M z.1).2
  rw [er]
  exact y_eq E 954 dL_law_393 rfl (kk _ _ hI2)
theorem law_c6 (E : Ey X l0 G b N xs) (hI : LI P V n) (hn : n ≤ 512) (hN : N ≤ 3072) (h6 : 6 * n + 6 ≤ N) (kk : ∀ P2 V2, LI P2 V2 (n + 1) → Ky X G P2 V2 [some (.ref b), some (.ref (ad G 10 0)), some (.ref (ad G 16 0)), some (.int (iI (6 * (n : Int))))] 954 []) : Ky X G P V [some (.ref b), some (.ref (ad G 10 0)), some (.ref (ad G 16 0)), some (.int (iI (6 * (n : Int))))] 398 [] := by
  refine y_aload_n E dL_law_398 1 rfl rfl ?_
  refine y_arg E (jj := 1) 1 rfl rfl rfl hN (by omega) dL_law_399 dL_law_400 dL_law_401 dL_law_402 dL_law_403 ?_
  refine y_callV E (ci := 5) (NN := 4) (C := RX5) (T := TX5) (n := 1) (st := []) (rfl : vl 10 0 = true) rfl rfl [.int (iI (xv xs n 1))] (kX5_back l0 G P V (xv xs n 1) hI.w0 hI.B hI.R.hn0 hI.R.hn1 hI.R.L hI.R.U (hI.h5 hn) hI.R.hcm hI.w1 hI.uw hI.o hI.z xv_R) gL_law_X5_back rfl ⟨rfl, rfl⟩ (by decide +kernel) ⟨Nat.le_of_ble_eq_true rfl, Nat.le_of_ble_eq_true rfl⟩ rfl rfl (Nat.le_of_ble_eq_true rfl) rfl dL_law_404 (fun r P1 V1 h1 => ?_)
  obtain ⟨hB1, Vq, hF, hq, kp⟩ := h1
  have k1 := ck hF kp
  have l6 := hI.l6 hn hB1 (fun r hr => k1 r 0 (by omega) (by omega))
  refine y_aload_n E dL_law_407 2 rfl rfl ?_
  refine y_arg E (jj := 1) 1 rfl rfl rfl hN (by omega) dL_law_408 dL_law_409 dL_law_410 dL_law_411 dL_law_412 ?_
  refine y_callV E (ci := 6) (NN := 16) (C := RX6) (T := TX6) (n := 1) (st := [.int (iI r)]) (rfl : vl 16 0 = true) rfl rfl [.int (iI (xv xs n 1))] (kX6_back l0 G P1 V1 (xv xs n 1) l6.B l6.m0 l6.m1 l6.M.l l6.M.hh l6.q l6.q4 xv_R) gL_law_X6_back rfl ⟨rfl, rfl⟩ (by decide +kernel) ⟨Nat.le_of_ble_eq_true rfl, Nat.le_of_ble_eq_true rfl⟩ rfl rfl (Nat.le_of_ble_eq_true rfl) rfl dL_law_413 (fun r2 P2 V2 h2 => ?_)
  obtain ⟨e2, hB2, h2⟩ := h2
  subst e2
  obtain ⟨s5, q5, w5⟩ := backQ_sim hI.cpR hq
  have z := ba_of l6.M h2
  rw [k1 17 0 (by decide) (by decide)] at z
  obtain ⟨er, e17⟩ := qBa_det q5 z.1
  have hI2 := hI.change hF w5 kp hB2 (er ▸ z.2) e17 (qBa_MV hI.M z.1).2
  rw [er]
  exact y_eq E 954 dL_law_416 rfl (kk _ _ hI2)
theorem law_c7 (E : Ey X l0 G b N xs) (hI : LI P V n) (hn : n ≤ 512) (hN : N ≤ 3072) (h6 : 6 * n + 6 ≤ N) (kk : ∀ P2 V2, LI P2 V2 (n + 1) → Ky X G P2 V2 [some (.ref b), some (.ref (ad G 10 0)), some (.ref (ad G 16 0)), some (.int (iI (6 * (n : Int))))] 954 []) : Ky X G P V [some (.ref b), some (.ref (ad G 10 0)), some (.ref (ad G 16 0)), some (.int (iI (6 * (n : Int))))] 421 [] := by
  refine y_aload_n E dL_law_421 1 rfl rfl ?_
  refine y_arg E (jj := 1) 1 rfl rfl rfl hN (by omega) dL_law_422 dL_law_423 dL_law_424 dL_law_425 dL_law_426 ?_
  refine y_callV E (ci := 5) (NN := 4) (C := RX5) (T := TX5) (n := 1) (st := []) (rfl : vl 10 0 = true) rfl rfl [.int (iI (xv xs n 1))] (kX5_forget l0 G P V (xv xs n 1) hI.w0 hI.B hI.R.hn0 hI.R.hn1 hI.R.L hI.R.U (hI.h5 hn) hI.R.hcm hI.w1 hI.uw hI.o hI.z xv_R) gL_law_X5_forget rfl ⟨rfl, rfl⟩ (by decide +kernel) ⟨Nat.le_of_ble_eq_true rfl, Nat.le_of_ble_eq_true rfl⟩ rfl rfl (Nat.le_of_ble_eq_true rfl) rfl dL_law_427 (fun r P1 V1 h1 => ?_)
  obtain ⟨hB1, Vq, hF, hq, kp⟩ := h1
  have k1 := ck hF kp
  have l6 := hI.l6 hn hB1 (fun r hr => k1 r 0 (by omega) (by omega))
  refine y_aload_n E dL_law_430 2 rfl rfl ?_
  refine y_arg E (jj := 1) 1 rfl rfl rfl hN (by omega) dL_law_431 dL_law_432 dL_law_433 dL_law_434 dL_law_435 ?_
  refine y_callV E (ci := 6) (NN := 16) (C := RX6) (T := TX6) (n := 1) (st := [.int (iI r)]) (rfl : vl 16 0 = true) rfl rfl [.int (iI (xv xs n 1))] (kX6_forget l0 G P1 V1 (xv xs n 1) l6.B l6.m0 l6.m1 l6.M.l l6.q l6.q4 xv_R) gL_law_X6_forget rfl ⟨rfl, rfl⟩ (by decide +kernel) ⟨Nat.le_of_ble_eq_true rfl, Nat.le_of_ble_eq_true rfl⟩ rfl rfl (Nat.le_of_ble_eq_true rfl) rfl dL_law_436 (fun r2 P2 V2 h2 => ?_)
  obtain ⟨e2, hB2, h2⟩ := h2
  subst e2
  obtain ⟨s5, q5, w5⟩ := forgetQ_sim hI.cpR hq
  have z := fo_of h2
  rw [k1 17 0 (by decide) (by decide)] at z
  obtain ⟨er, e17⟩ := qFo_det q5 z.1
  have hI2 := hI.change hF w5 kp hB2 (er ▸ z.2) e17 (qFo_MV hI.M z.1).2
  rw [er]
  exact y_eq E 954 dL_law_439 rfl (kk _ _ hI2)
theorem law_c8 (E : Ey X l0 G b N xs) (hI : LI P V n) (hn : n ≤ 512) (hN : N ≤ 3072) (h6 : 6 * n + 6 ≤ N) (kk : ∀ P2 V2, LI P2 V2 (n + 1) → Ky X G P2 V2 [some (.ref b), some (.ref (ad G 10 0)), some (.ref (ad G 16 0)), some (.int (iI (6 * (n : Int))))] 954 []) : Ky X G P V [some (.ref b), some (.ref (ad G 10 0)), some (.ref (ad G 16 0)), some (.int (iI (6 * (n : Int))))] 444 [] := by
  refine y_aload_n E dL_law_444 1 rfl rfl ?_
  refine y_callV E (ci := 5) (NN := 4) (C := RX5) (T := TX5) (n := 0) (st := []) (rfl : vl 10 0 = true) rfl rfl [] (kX5_share l0 G P V hI.w0 hI.B hI.R.hn0 hI.R.hn1 hI.R.L hI.R.U (hI.h5 hn) hI.R.hcm hI.w1 hI.uw hI.o hI.z) gL_law_X5_share rfl ⟨rfl, rfl⟩ (by decide +kernel) ⟨Nat.le_of_ble_eq_true rfl, Nat.le_of_ble_eq_true rfl⟩ rfl rfl (Nat.le_of_ble_eq_true rfl) rfl dL_law_445 (fun r P1 V1 h1 => ?_)
  obtain ⟨hB1, Vq, hF, hq, kp⟩ := h1
  have k1 := ck hF kp
  have l6 := hI.l6 hn hB1 (fun r hr => k1 r 0 (by omega) (by omega))
  refine y_aload_n E dL_law_448 2 rfl rfl ?_
  refine y_callV E (ci := 6) (NN := 16) (C := RX6) (T := TX6) (n := 0) (st := [.int (iI r)]) (rfl : vl 16 0 = true) rfl rfl [] (kX6_share l0 G P1 V1 l6.B l6.m0 l6.m1 l6.M.l l6.M.u l6.q l6.q4) gL_law_X6_share rfl ⟨rfl, rfl⟩ (by decide +kernel) ⟨Nat.le_of_ble_eq_true rfl, Nat.le_of_ble_eq_true rfl⟩ rfl rfl (Nat.le_of_ble_eq_true rfl) rfl dL_law_449 (fun r2 P2 V2 h2 => ?_)
  obtain ⟨e2, hB2, h2⟩ := h2
  subst e2
  obtain ⟨s5, q5, w5⟩ := shareQ_sim hI.cpR hq
  have z := sh_of h2
  rw [k1 17 0 (by decide) (by decide)] at z
  obtain ⟨er, e17⟩ := qSh_det q5 z.1
  have hI2 := hI.change hF w5 kp hB2 (er ▸ z.2) e17 (qSh_MV hI.M z.1).2
  rw [er]
  exact y_eq E 954 dL_law_452 rfl (kk _ _ hI2)
theorem law_c9 (E : Ey X l0 G b N xs) (hI : LI P V n) (hn : n ≤ 512) (hN : N ≤ 3072) (h6 : 6 * n + 6 ≤ N) (kk : ∀ P2 V2, LI P2 V2 (n + 1) → Ky X G P2 V2 [some (.ref b), some (.ref (ad G 10 0)), some (.ref (ad G 16 0)), some (.int (iI (6 * (n : Int))))] 954 []) : Ky X G P V [some (.ref b), some (.ref (ad G 10 0)), some (.ref (ad G 16 0)), some (.int (iI (6 * (n : Int))))] 457 [] := by
  refine y_aload_n E dL_law_457 1 rfl rfl ?_
  refine y_arg E (jj := 1) 1 rfl rfl rfl hN (by omega) dL_law_458 dL_law_459 dL_law_460 dL_law_461 dL_law_462 ?_
  refine y_arg E (jj := 2) 2 rfl rfl rfl hN (by omega) dL_law_463 dL_law_464 dL_law_465 dL_law_466 dL_law_467 ?_
  refine y_callV E (ci := 5) (NN := 4) (C := RX5) (T := TX5) (n := 2) (st := []) (rfl : vl 10 0 = true) rfl rfl [.int (iI (xv xs n 1)), .int (iI (xv xs n 2))] (kX5_set l0 G P V (xv xs n 1) (xv xs n 2) hI.w0 hI.B hI.R.hn0 hI.R.hn1 hI.R.L hI.R.U (hI.h5 hn) hI.R.hcm hI.w1 hI.uw hI.o hI.z xv_R xv_R) gL_law_X5_set rfl ⟨rfl, rfl⟩ (by decide +kernel) ⟨Nat.le_of_ble_eq_true rfl, Nat.le_of_ble_eq_true rfl⟩ rfl rfl (Nat.le_of_ble_eq_true rfl) rfl dL_law_468 (fun r P1 V1 h1 => ?_)
  obtain ⟨hB1, Vq, hF, hq, kp⟩ := h1
  have k1 := ck hF kp
  have l6 := hI.l6 hn hB1 (fun r hr => k1 r 0 (by omega) (by omega))
  refine y_aload_n E dL_law_471 2 rfl rfl ?_
  refine y_arg E (jj := 1) 1 rfl rfl rfl hN (by omega) dL_law_472 dL_law_473 dL_law_474 dL_law_475 dL_law_476 ?_
  refine y_arg E (jj := 2) 2 rfl rfl rfl hN (by omega) dL_law_477 dL_law_478 dL_law_479 dL_law_480 dL_law_481 ?_
  refine y_callV E (ci := 6) (NN := 16) (C := RX6) (T := TX6) (n := 2) (st := [.int (iI r)]) (rfl : vl 16 0 = true) rfl rfl [.int (iI (xv xs n 1)), .int (iI (xv xs n 2))] (kX6_set l0 G P1 V1 (xv xs n 1) (xv xs n 2) l6.B l6.q l6.q4 xv_R xv_R) gL_law_X6_set rfl ⟨rfl, rfl⟩ (by decide +kernel) ⟨Nat.le_of_ble_eq_true rfl, Nat.le_of_ble_eq_true rfl⟩ rfl rfl (Nat.le_of_ble_eq_true rfl) rfl dL_law_482 (fun r2 P2 V2 h2 => ?_)
  obtain ⟨e2, hB2, h2⟩ := h2
  subst e2
  obtain ⟨s5, q5, w5⟩ := setQ_sim hI.cpR hq
  have z := se_of l6.M h2
  rw [k1 17 0 (by decide) (by decide)] at z
  obtain ⟨er, e17⟩ := qSe_det q5 z.1
  have hI2 := hI.change hF w5 kp hB2 (er ▸ z.2) e17 (qSe_MV hI.M z.1).2
  rw [er]
  exact y_eq E 954 dL_law_485 rfl (kk _ _ hI2)
theorem law_c10 (E : Ey X l0 G b N xs) (hI : LI P V n) (hn : n ≤ 512) (hN : N ≤ 3072) (h6 : 6 * n + 6 ≤ N) (kk : ∀ P2 V2, LI P2 V2 (n + 1) → Ky X G P2 V2 [some (.ref b), some (.ref (ad G 10 0)), some (.ref (ad G 16 0)), some (.int (iI (6 * (n : Int))))] 954 []) : Ky X G P V [some (.ref b), some (.ref (ad G 10 0)), some (.ref (ad G 16 0)), some (.int (iI (6 * (n : Int))))] 490 [] := by
  refine y_aload_n E dL_law_490 1 rfl rfl ?_
  refine y_arg E (jj := 1) 1 rfl rfl rfl hN (by omega) dL_law_491 dL_law_492 dL_law_493 dL_law_494 dL_law_495 ?_
  refine y_arg E (jj := 2) 2 rfl rfl rfl hN (by omega) dL_law_496 dL_law_497 dL_law_498 dL_law_499 dL_law_500 ?_
  refine y_callV E (ci := 5) (NN := 4) (C := RX5) (T := TX5) (n := 2) (st := []) (rfl : vl 10 0 = true) rfl rfl [.int (iI (xv xs n 1)), .int (iI (xv xs n 2))] (kX5_read l0 G P V (xv xs n 1) (xv xs n 2) hI.w0 hI.B hI.R.hn0 hI.R.hn1 hI.R.L xv_R xv_R) gL_law_X5_read rfl ⟨rfl, rfl⟩ (by decide +kernel) ⟨Nat.le_of_ble_eq_true rfl, Nat.le_of_ble_eq_true rfl⟩ rfl rfl (Nat.le_of_ble_eq_true rfl) rfl dL_law_501 (fun r P1 V1 h1 => ?_)
  obtain ⟨hr, hP, hV⟩ := h1
  subst hP hV
  have l6 := hI.l6 hn hI.B (fun _ _ => rfl)
  refine y_aload_n E dL_law_504 2 rfl rfl ?_
  refine y_arg E (jj := 1) 1 rfl rfl rfl hN (by omega) dL_law_505 dL_law_506 dL_law_507 dL_law_508 dL_law_509 ?_
  refine y_arg E (jj := 2) 2 rfl rfl rfl hN (by omega) dL_law_510 dL_law_511 dL_law_512 dL_law_513 dL_law_514 ?_
  refine y_callV E (ci := 6) (NN := 16) (C := RX6) (T := TX6) (n := 2) (st := [.int (iI r)]) (rfl : vl 16 0 = true) rfl rfl [.int (iI (xv xs n 1)), .int (iI (xv xs n 2))] (kX6_read l0 G P1 V1 (xv xs n 1) (xv xs n 2) l6.B l6.m0 l6.m1 l6.M.l xv_R xv_R) gL_law_X6_read rfl ⟨rfl, rfl⟩ (by decide +kernel) ⟨Nat.le_of_ble_eq_true rfl, Nat.le_of_ble_eq_true rfl⟩ rfl rfl (Nat.le_of_ble_eq_true rfl) rfl dL_law_515 (fun r2 P2 V2 h2 => ?_)
  obtain ⟨hr2, hP2, hV2⟩ := h2
  subst hP2 hV2
  have e : r2 = r := hr2.trans ((eq_read hI.R _ _).symm.trans hr.symm)
  rw [e]
  exact y_eq E 954 dL_law_518 rfl (kk _ _ hI.up1)
theorem law_c11 (E : Ey X l0 G b N xs) (hI : LI P V n) (hn : n ≤ 512) (hN : N ≤ 3072) (h6 : 6 * n + 6 ≤ N) (kk : ∀ P2 V2, LI P2 V2 (n + 1) → Ky X G P2 V2 [some (.ref b), some (.ref (ad G 10 0)), some (.ref (ad G 16 0)), some (.int (iI (6 * (n : Int))))] 954 []) : Ky X G P V [some (.ref b), some (.ref (ad G 10 0)), some (.ref (ad G 16 0)), some (.int (iI (6 * (n : Int))))] 523 [] := by
  refine y_aload_n E dL_law_523 1 rfl rfl ?_
  refine y_arg E (jj := 1) 1 rfl rfl rfl hN (by omega) dL_law_524 dL_law_525 dL_law_526 dL_law_527 dL_law_528 ?_
  refine y_arg E (jj := 2) 2 rfl rfl rfl hN (by omega) dL_law_529 dL_law_530 dL_law_531 dL_law_532 dL_law_533 ?_
  refine y_callV E (ci := 5) (NN := 4) (C := RX5) (T := TX5) (n := 2) (st := []) (rfl : vl 10 0 = true) rfl rfl [.int (iI (xv xs n 1)), .int (iI (xv xs n 2))] (kX5_stateOf l0 G P V (xv xs n 1) (xv xs n 2) hI.w0 hI.B hI.R.hn0 hI.R.hn1 hI.R.L hI.ps xv_R xv_R) gL_law_X5_stateOf rfl ⟨rfl, rfl⟩ (by decide +kernel) ⟨Nat.le_of_ble_eq_true rfl, Nat.le_of_ble_eq_true rfl⟩ rfl rfl (Nat.le_of_ble_eq_true rfl) rfl dL_law_534 (fun r P1 V1 h1 => ?_)
  obtain ⟨hr, hP, hV⟩ := h1
  subst hP hV
  have l6 := hI.l6 hn hI.B (fun _ _ => rfl)
  refine y_aload_n E dL_law_537 2 rfl rfl ?_
  refine y_arg E (jj := 1) 1 rfl rfl rfl hN (by omega) dL_law_538 dL_law_539 dL_law_540 dL_law_541 dL_law_542 ?_
  refine y_arg E (jj := 2) 2 rfl rfl rfl hN (by omega) dL_law_543 dL_law_544 dL_law_545 dL_law_546 dL_law_547 ?_
  refine y_callV E (ci := 6) (NN := 16) (C := RX6) (T := TX6) (n := 2) (st := [.int (iI r)]) (rfl : vl 16 0 = true) rfl rfl [.int (iI (xv xs n 1)), .int (iI (xv xs n 2))] (kX6_stateOf l0 G P1 V1 (xv xs n 1) (xv xs n 2) l6.B l6.m0 l6.m1 l6.M.l l6.M.i xv_R xv_R) gL_law_X6_stateOf rfl ⟨rfl, rfl⟩ (by decide +kernel) ⟨Nat.le_of_ble_eq_true rfl, Nat.le_of_ble_eq_true rfl⟩ rfl rfl (Nat.le_of_ble_eq_true rfl) rfl dL_law_548 (fun r2 P2 V2 h2 => ?_)
  obtain ⟨hr2, hP2, hV2⟩ := h2
  subst hP2 hV2
  have e : r2 = r := hr2.trans ((eq_stateOf hI.R _ _).symm.trans hr.symm)
  rw [e]
  exact y_eq E 954 dL_law_551 rfl (kk _ _ hI.up1)
theorem law_c12 (E : Ey X l0 G b N xs) (hI : LI P V n) (hn : n ≤ 512) (hN : N ≤ 3072) (h6 : 6 * n + 6 ≤ N) (kk : ∀ P2 V2, LI P2 V2 (n + 1) → Ky X G P2 V2 [some (.ref b), some (.ref (ad G 10 0)), some (.ref (ad G 16 0)), some (.int (iI (6 * (n : Int))))] 954 []) : Ky X G P V [some (.ref b), some (.ref (ad G 10 0)), some (.ref (ad G 16 0)), some (.int (iI (6 * (n : Int))))] 556 [] := by
  refine y_aload_n E dL_law_556 1 rfl rfl ?_
  refine y_arg E (jj := 1) 1 rfl rfl rfl hN (by omega) dL_law_557 dL_law_558 dL_law_559 dL_law_560 dL_law_561 ?_
  refine y_callV E (ci := 5) (NN := 4) (C := RX5) (T := TX5) (n := 1) (st := []) (rfl : vl 10 0 = true) rfl rfl [.int (iI (xv xs n 1))] (kX5_number l0 G P V (xv xs n 1) hI.w0 hI.B hI.R.hn0 hI.R.hn1 xv_R) gL_law_X5_number rfl ⟨rfl, rfl⟩ (by decide +kernel) ⟨Nat.le_of_ble_eq_true rfl, Nat.le_of_ble_eq_true rfl⟩ rfl rfl (Nat.le_of_ble_eq_true rfl) rfl dL_law_562 (fun r P1 V1 h1 => ?_)
  obtain ⟨hr, hP, hV⟩ := h1
  subst hP hV
  have l6 := hI.l6 hn hI.B (fun _ _ => rfl)
  refine y_aload_n E dL_law_565 2 rfl rfl ?_
  refine y_arg E (jj := 1) 1 rfl rfl rfl hN (by omega) dL_law_566 dL_law_567 dL_law_568 dL_law_569 dL_law_570 ?_
  refine y_callV E (ci := 6) (NN := 16) (C := RX6) (T := TX6) (n := 1) (st := [.int (iI r)]) (rfl : vl 16 0 = true) rfl rfl [.int (iI (xv xs n 1))] (kX6_number l0 G P1 V1 (xv xs n 1) l6.B l6.m0 l6.m1 xv_R) gL_law_X6_number rfl ⟨rfl, rfl⟩ (by decide +kernel) ⟨Nat.le_of_ble_eq_true rfl, Nat.le_of_ble_eq_true rfl⟩ rfl rfl (Nat.le_of_ble_eq_true rfl) rfl dL_law_571 (fun r2 P2 V2 h2 => ?_)
  obtain ⟨hr2, hP2, hV2⟩ := h2
  subst hP2 hV2
  have e : r2 = r := hr2.trans ((eq_number hI.R _).symm.trans hr.symm)
  rw [e]
  exact y_eq E 954 dL_law_574 rfl (kk _ _ hI.up1)
theorem law_c13 (E : Ey X l0 G b N xs) (hI : LI P V n) (hn : n ≤ 512) (hN : N ≤ 3072) (h6 : 6 * n + 6 ≤ N) (kk : ∀ P2 V2, LI P2 V2 (n + 1) → Ky X G P2 V2 [some (.ref b), some (.ref (ad G 10 0)), some (.ref (ad G 16 0)), some (.int (iI (6 * (n : Int))))] 954 []) : Ky X G P V [some (.ref b), some (.ref (ad G 10 0)), some (.ref (ad G 16 0)), some (.int (iI (6 * (n : Int))))] 579 [] := by
  refine y_aload_n E dL_law_579 1 rfl rfl ?_
  refine y_arg E (jj := 1) 1 rfl rfl rfl hN (by omega) dL_law_580 dL_law_581 dL_law_582 dL_law_583 dL_law_584 ?_
  refine y_arg E (jj := 2) 2 rfl rfl rfl hN (by omega) dL_law_585 dL_law_586 dL_law_587 dL_law_588 dL_law_589 ?_
  refine y_callV E (ci := 5) (NN := 4) (C := RX5) (T := TX5) (n := 2) (st := []) (rfl : vl 10 0 = true) rfl rfl [.int (iI (xv xs n 1)), .int (iI (xv xs n 2))] (kX5_blockAt l0 G P V (xv xs n 1) (xv xs n 2) hI.w0 hI.B hI.R.hn0 hI.R.hn1 hI.R.L xv_R xv_R) gL_law_X5_blockAt rfl ⟨rfl, rfl⟩ (by decide +kernel) ⟨Nat.le_of_ble_eq_true rfl, Nat.le_of_ble_eq_true rfl⟩ rfl rfl (Nat.le_of_ble_eq_true rfl) rfl dL_law_590 (fun r P1 V1 h1 => ?_)
  obtain ⟨hr, hP, hV⟩ := h1
  subst hP hV
  have l6 := hI.l6 hn hI.B (fun _ _ => rfl)
  refine y_aload_n E dL_law_593 2 rfl rfl ?_
  refine y_arg E (jj := 1) 1 rfl rfl rfl hN (by omega) dL_law_594 dL_law_595 dL_law_596 dL_law_597 dL_law_598 ?_
  refine y_arg E (jj := 2) 2 rfl rfl rfl hN (by omega) dL_law_599 dL_law_600 dL_law_601 dL_law_602 dL_law_603 ?_
  refine y_callV E (ci := 6) (NN := 16) (C := RX6) (T := TX6) (n := 2) (st := [.int (iI r)]) (rfl : vl 16 0 = true) rfl rfl [.int (iI (xv xs n 1)), .int (iI (xv xs n 2))] (kX6_blockAt l0 G P1 V1 (xv xs n 1) (xv xs n 2) l6.B l6.m0 l6.m1 l6.M.l xv_R xv_R) gL_law_X6_blockAt rfl ⟨rfl, rfl⟩ (by decide +kernel) ⟨Nat.le_of_ble_eq_true rfl, Nat.le_of_ble_eq_true rfl⟩ rfl rfl (Nat.le_of_ble_eq_true rfl) rfl dL_law_604 (fun r2 P2 V2 h2 => ?_)
  obtain ⟨hr2, hP2, hV2⟩ := h2
  subst hP2 hV2
  have e : r2 = r := hr2.trans ((eq_blockAt hI.R _ _).symm.trans hr.symm)
  rw [e]
  exact y_eq E 954 dL_law_607 rfl (kk _ _ hI.up1)
theorem law_c14 (E : Ey X l0 G b N xs) (hI : LI P V n) (hn : n ≤ 512) (hN : N ≤ 3072) (h6 : 6 * n + 6 ≤ N) (kk : ∀ P2 V2, LI P2 V2 (n + 1) → Ky X G P2 V2 [some (.ref b), some (.ref (ad G 10 0)), some (.ref (ad G 16 0)), some (.int (iI (6 * (n : Int))))] 954 []) : Ky X G P V [some (.ref b), some (.ref (ad G 10 0)), some (.ref (ad G 16 0)), some (.int (iI (6 * (n : Int))))] 612 [] := by
  refine y_aload_n E dL_law_612 1 rfl rfl ?_
  refine y_arg E (jj := 1) 1 rfl rfl rfl hN (by omega) dL_law_613 dL_law_614 dL_law_615 dL_law_616 dL_law_617 ?_
  refine y_arg E (jj := 2) 2 rfl rfl rfl hN (by omega) dL_law_618 dL_law_619 dL_law_620 dL_law_621 dL_law_622 ?_
  refine y_callV E (ci := 5) (NN := 4) (C := RX5) (T := TX5) (n := 2) (st := []) (rfl : vl 10 0 = true) rfl rfl [.int (iI (xv xs n 1)), .int (iI (xv xs n 2))] (kX5_blockOf l0 G P V (xv xs n 1) (xv xs n 2) hI.w0 hI.B hI.R.hn0 hI.R.hn1 hI.R.L xv_R xv_R) gL_law_X5_blockOf rfl ⟨rfl, rfl⟩ (by decide +kernel) ⟨Nat.le_of_ble_eq_true rfl, Nat.le_of_ble_eq_true rfl⟩ rfl rfl (Nat.le_of_ble_eq_true rfl) rfl dL_law_623 (fun r P1 V1 h1 => ?_)
  obtain ⟨hr, hP, hV⟩ := h1
  subst hP hV
  have l6 := hI.l6 hn hI.B (fun _ _ => rfl)
  refine y_aload_n E dL_law_626 2 rfl rfl ?_
  refine y_arg E (jj := 1) 1 rfl rfl rfl hN (by omega) dL_law_627 dL_law_628 dL_law_629 dL_law_630 dL_law_631 ?_
  refine y_arg E (jj := 2) 2 rfl rfl rfl hN (by omega) dL_law_632 dL_law_633 dL_law_634 dL_law_635 dL_law_636 ?_
  refine y_callV E (ci := 6) (NN := 16) (C := RX6) (T := TX6) (n := 2) (st := [.int (iI r)]) (rfl : vl 16 0 = true) rfl rfl [.int (iI (xv xs n 1)), .int (iI (xv xs n 2))] (kX6_blockOf l0 G P1 V1 (xv xs n 1) (xv xs n 2) l6.B l6.m0 l6.m1 l6.M.l xv_R xv_R) gL_law_X6_blockOf rfl ⟨rfl, rfl⟩ (by decide +kernel) ⟨Nat.le_of_ble_eq_true rfl, Nat.le_of_ble_eq_true rfl⟩ rfl rfl (Nat.le_of_ble_eq_true rfl) rfl dL_law_637 (fun r2 P2 V2 h2 => ?_)
  obtain ⟨hr2, hP2, hV2⟩ := h2
  subst hP2 hV2
  have e : r2 = r := hr2.trans ((eq_blockOf hI.R _ _).symm.trans hr.symm)
  rw [e]
  exact y_eq E 954 dL_law_640 rfl (kk _ _ hI.up1)
theorem law_c15 (E : Ey X l0 G b N xs) (hI : LI P V n) (hn : n ≤ 512) (hN : N ≤ 3072) (h6 : 6 * n + 6 ≤ N) (kk : ∀ P2 V2, LI P2 V2 (n + 1) → Ky X G P2 V2 [some (.ref b), some (.ref (ad G 10 0)), some (.ref (ad G 16 0)), some (.int (iI (6 * (n : Int))))] 954 []) : Ky X G P V [some (.ref b), some (.ref (ad G 10 0)), some (.ref (ad G 16 0)), some (.int (iI (6 * (n : Int))))] 645 [] := by
  refine y_aload_n E dL_law_645 1 rfl rfl ?_
  refine y_arg E (jj := 1) 1 rfl rfl rfl hN (by omega) dL_law_646 dL_law_647 dL_law_648 dL_law_649 dL_law_650 ?_
  refine y_callV E (ci := 5) (NN := 4) (C := RX5) (T := TX5) (n := 1) (st := []) (rfl : vl 10 0 = true) rfl rfl [.int (iI (xv xs n 1))] (kX5_head l0 G P V (xv xs n 1) hI.w0 hI.B xv_R) gL_law_X5_head rfl ⟨rfl, rfl⟩ (by decide +kernel) ⟨Nat.le_of_ble_eq_true rfl, Nat.le_of_ble_eq_true rfl⟩ rfl rfl (Nat.le_of_ble_eq_true rfl) rfl dL_law_651 (fun r P1 V1 h1 => ?_)
  obtain ⟨hr, hP, hV⟩ := h1
  subst hP hV
  have l6 := hI.l6 hn hI.B (fun _ _ => rfl)
  refine y_aload_n E dL_law_654 2 rfl rfl ?_
  refine y_arg E (jj := 1) 1 rfl rfl rfl hN (by omega) dL_law_655 dL_law_656 dL_law_657 dL_law_658 dL_law_659 ?_
  refine y_callV E (ci := 6) (NN := 16) (C := RX6) (T := TX6) (n := 1) (st := [.int (iI r)]) (rfl : vl 16 0 = true) rfl rfl [.int (iI (xv xs n 1))] (kX6_head l0 G P1 V1 (xv xs n 1) l6.B xv_R) gL_law_X6_head rfl ⟨rfl, rfl⟩ (by decide +kernel) ⟨Nat.le_of_ble_eq_true rfl, Nat.le_of_ble_eq_true rfl⟩ rfl rfl (Nat.le_of_ble_eq_true rfl) rfl dL_law_660 (fun r2 P2 V2 h2 => ?_)
  obtain ⟨hr2, hP2, hV2⟩ := h2
  subst hP2 hV2
  have e : r2 = r := hr2.trans ((eq_head hI.R _).symm.trans hr.symm)
  rw [e]
  exact y_eq E 954 dL_law_663 rfl (kk _ _ hI.up1)
theorem law_c16 (E : Ey X l0 G b N xs) (hI : LI P V n) (hn : n ≤ 512) (hN : N ≤ 3072) (h6 : 6 * n + 6 ≤ N) (kk : ∀ P2 V2, LI P2 V2 (n + 1) → Ky X G P2 V2 [some (.ref b), some (.ref (ad G 10 0)), some (.ref (ad G 16 0)), some (.int (iI (6 * (n : Int))))] 954 []) : Ky X G P V [some (.ref b), some (.ref (ad G 10 0)), some (.ref (ad G 16 0)), some (.int (iI (6 * (n : Int))))] 668 [] := by
  refine y_aload_n E dL_law_668 1 rfl rfl ?_
  refine y_arg E (jj := 1) 1 rfl rfl rfl hN (by omega) dL_law_669 dL_law_670 dL_law_671 dL_law_672 dL_law_673 ?_
  refine y_arg E (jj := 2) 2 rfl rfl rfl hN (by omega) dL_law_674 dL_law_675 dL_law_676 dL_law_677 dL_law_678 ?_
  refine y_arg E (jj := 3) 3 rfl rfl rfl hN (by omega) dL_law_679 dL_law_680 dL_law_681 dL_law_682 dL_law_683 ?_
  refine y_callV E (ci := 5) (NN := 4) (C := RX5) (T := TX5) (n := 3) (st := []) (rfl : vl 10 0 = true) rfl rfl [.int (iI (xv xs n 1)), .int (iI (xv xs n 2)), .int (iI (xv xs n 3))] (kX5_unlike l0 G P V (xv xs n 1) (xv xs n 2) (xv xs n 3) hI.w0 hI.B hI.R.hn0 hI.R.hn1 hI.R.L hI.R.hcm xv_R xv_R xv_R) gL_law_X5_unlike rfl ⟨rfl, rfl⟩ (by decide +kernel) ⟨Nat.le_of_ble_eq_true rfl, Nat.le_of_ble_eq_true rfl⟩ rfl rfl (Nat.le_of_ble_eq_true rfl) rfl dL_law_684 (fun r P1 V1 h1 => ?_)
  obtain ⟨hr, hP, hV⟩ := h1
  subst hP hV
  have l6 := hI.l6 hn hI.B (fun _ _ => rfl)
  refine y_aload_n E dL_law_687 2 rfl rfl ?_
  refine y_arg E (jj := 1) 1 rfl rfl rfl hN (by omega) dL_law_688 dL_law_689 dL_law_690 dL_law_691 dL_law_692 ?_
  refine y_arg E (jj := 2) 2 rfl rfl rfl hN (by omega) dL_law_693 dL_law_694 dL_law_695 dL_law_696 dL_law_697 ?_
  refine y_arg E (jj := 3) 3 rfl rfl rfl hN (by omega) dL_law_698 dL_law_699 dL_law_700 dL_law_701 dL_law_702 ?_
  refine y_callV E (ci := 6) (NN := 16) (C := RX6) (T := TX6) (n := 3) (st := [.int (iI r)]) (rfl : vl 16 0 = true) rfl rfl [.int (iI (xv xs n 1)), .int (iI (xv xs n 2)), .int (iI (xv xs n 3))] (kX6_unlike l0 G P1 V1 (xv xs n 1) (xv xs n 2) (xv xs n 3) l6.B l6.m0 l6.m1 l6.M.l l6.M.i xv_R xv_R xv_R) gL_law_X6_unlike rfl ⟨rfl, rfl⟩ (by decide +kernel) ⟨Nat.le_of_ble_eq_true rfl, Nat.le_of_ble_eq_true rfl⟩ rfl rfl (Nat.le_of_ble_eq_true rfl) rfl dL_law_703 (fun r2 P2 V2 h2 => ?_)
  obtain ⟨hr2, hP2, hV2⟩ := h2
  subst hP2 hV2
  have e : r2 = r := hr2.trans ((eq_unlike hI.R _ _ _).symm.trans hr.symm)
  rw [e]
  exact y_eq E 954 dL_law_706 rfl (kk _ _ hI.up1)
theorem law_c17 (E : Ey X l0 G b N xs) (hI : LI P V n) (hn : n ≤ 512) (hN : N ≤ 3072) (h6 : 6 * n + 6 ≤ N) (kk : ∀ P2 V2, LI P2 V2 (n + 1) → Ky X G P2 V2 [some (.ref b), some (.ref (ad G 10 0)), some (.ref (ad G 16 0)), some (.int (iI (6 * (n : Int))))] 954 []) : Ky X G P V [some (.ref b), some (.ref (ad G 10 0)), some (.ref (ad G 16 0)), some (.int (iI (6 * (n : Int))))] 711 [] := by
  refine y_aload_n E dL_law_711 1 rfl rfl ?_
  refine y_arg E (jj := 1) 1 rfl rfl rfl hN (by omega) dL_law_712 dL_law_713 dL_law_714 dL_law_715 dL_law_716 ?_
  refine y_callV E (ci := 5) (NN := 4) (C := RX5) (T := TX5) (n := 1) (st := []) (rfl : vl 10 0 = true) rfl rfl [.int (iI (xv xs n 1))] (kX5_like l0 G P V (xv xs n 1) hI.w0 hI.B hI.R.hn0 hI.R.hn1 hI.R.L xv_R) gL_law_X5_like rfl ⟨rfl, rfl⟩ (by decide +kernel) ⟨Nat.le_of_ble_eq_true rfl, Nat.le_of_ble_eq_true rfl⟩ rfl rfl (Nat.le_of_ble_eq_true rfl) rfl dL_law_717 (fun r P1 V1 h1 => ?_)
  obtain ⟨hr, hP, hV⟩ := h1
  subst hP hV
  have l6 := hI.l6 hn hI.B (fun _ _ => rfl)
  refine y_aload_n E dL_law_720 2 rfl rfl ?_
  refine y_arg E (jj := 1) 1 rfl rfl rfl hN (by omega) dL_law_721 dL_law_722 dL_law_723 dL_law_724 dL_law_725 ?_
  refine y_callV E (ci := 6) (NN := 16) (C := RX6) (T := TX6) (n := 1) (st := [.int (iI r)]) (rfl : vl 16 0 = true) rfl rfl [.int (iI (xv xs n 1))] (kX6_like l0 G P1 V1 (xv xs n 1) l6.B l6.m0 l6.m1 l6.M.l xv_R) gL_law_X6_like rfl ⟨rfl, rfl⟩ (by decide +kernel) ⟨Nat.le_of_ble_eq_true rfl, Nat.le_of_ble_eq_true rfl⟩ rfl rfl (Nat.le_of_ble_eq_true rfl) rfl dL_law_726 (fun r2 P2 V2 h2 => ?_)
  obtain ⟨hr2, hP2, hV2⟩ := h2
  subst hP2 hV2
  have e : r2 = r := hr2.trans ((eq_like hI.R _).symm.trans hr.symm)
  rw [e]
  exact y_eq E 954 dL_law_729 rfl (kk _ _ hI.up1)
theorem law_c18 (E : Ey X l0 G b N xs) (hI : LI P V n) (hn : n ≤ 512) (hN : N ≤ 3072) (h6 : 6 * n + 6 ≤ N) (kk : ∀ P2 V2, LI P2 V2 (n + 1) → Ky X G P2 V2 [some (.ref b), some (.ref (ad G 10 0)), some (.ref (ad G 16 0)), some (.int (iI (6 * (n : Int))))] 954 []) : Ky X G P V [some (.ref b), some (.ref (ad G 10 0)), some (.ref (ad G 16 0)), some (.int (iI (6 * (n : Int))))] 734 [] := by
  refine y_aload_n E dL_law_734 1 rfl rfl ?_
  refine y_arg E (jj := 1) 1 rfl rfl rfl hN (by omega) dL_law_735 dL_law_736 dL_law_737 dL_law_738 dL_law_739 ?_
  refine y_arg E (jj := 2) 2 rfl rfl rfl hN (by omega) dL_law_740 dL_law_741 dL_law_742 dL_law_743 dL_law_744 ?_
  refine y_callV E (ci := 5) (NN := 4) (C := RX5) (T := TX5) (n := 2) (st := []) (rfl : vl 10 0 = true) rfl rfl [.int (iI (xv xs n 1)), .int (iI (xv xs n 2))] (kX5_before l0 G P V (xv xs n 1) (xv xs n 2) hI.w0 hI.B hI.R.hn0 hI.R.hn1 hI.R.L xv_R xv_R) gL_law_X5_before rfl ⟨rfl, rfl⟩ (by decide +kernel) ⟨Nat.le_of_ble_eq_true rfl, Nat.le_of_ble_eq_true rfl⟩ rfl rfl (Nat.le_of_ble_eq_true rfl) rfl dL_law_745 (fun r P1 V1 h1 => ?_)
  obtain ⟨hr, hP, hV⟩ := h1
  subst hP hV
  have l6 := hI.l6 hn hI.B (fun _ _ => rfl)
  refine y_aload_n E dL_law_748 2 rfl rfl ?_
  refine y_arg E (jj := 1) 1 rfl rfl rfl hN (by omega) dL_law_749 dL_law_750 dL_law_751 dL_law_752 dL_law_753 ?_
  refine y_arg E (jj := 2) 2 rfl rfl rfl hN (by omega) dL_law_754 dL_law_755 dL_law_756 dL_law_757 dL_law_758 ?_
  refine y_callV E (ci := 6) (NN := 16) (C := RX6) (T := TX6) (n := 2) (st := [.int (iI r)]) (rfl : vl 16 0 = true) rfl rfl [.int (iI (xv xs n 1)), .int (iI (xv xs n 2))] (kX6_before l0 G P1 V1 (xv xs n 1) (xv xs n 2) l6.B l6.m0 l6.m1 l6.M.l l6.M.i xv_R xv_R) gL_law_X6_before rfl ⟨rfl, rfl⟩ (by decide +kernel) ⟨Nat.le_of_ble_eq_true rfl, Nat.le_of_ble_eq_true rfl⟩ rfl rfl (Nat.le_of_ble_eq_true rfl) rfl dL_law_759 (fun r2 P2 V2 h2 => ?_)
  obtain ⟨hr2, hP2, hV2⟩ := h2
  subst hP2 hV2
  have e : r2 = r := hr2.trans ((eq_before hI.R _ _).symm.trans hr.symm)
  rw [e]
  exact y_eq E 954 dL_law_762 rfl (kk _ _ hI.up1)
theorem law_c19 (E : Ey X l0 G b N xs) (hI : LI P V n) (hn : n ≤ 512) (hN : N ≤ 3072) (h6 : 6 * n + 6 ≤ N) (kk : ∀ P2 V2, LI P2 V2 (n + 1) → Ky X G P2 V2 [some (.ref b), some (.ref (ad G 10 0)), some (.ref (ad G 16 0)), some (.int (iI (6 * (n : Int))))] 954 []) : Ky X G P V [some (.ref b), some (.ref (ad G 10 0)), some (.ref (ad G 16 0)), some (.int (iI (6 * (n : Int))))] 767 [] := by
  refine y_aload_n E dL_law_767 1 rfl rfl ?_
  refine y_arg E (jj := 1) 1 rfl rfl rfl hN (by omega) dL_law_768 dL_law_769 dL_law_770 dL_law_771 dL_law_772 ?_
  refine y_arg E (jj := 2) 2 rfl rfl rfl hN (by omega) dL_law_773 dL_law_774 dL_law_775 dL_law_776 dL_law_777 ?_
  refine y_callV E (ci := 5) (NN := 4) (C := RX5) (T := TX5) (n := 2) (st := []) (rfl : vl 10 0 = true) rfl rfl [.int (iI (xv xs n 1)), .int (iI (xv xs n 2))] (kX5_conflicts l0 G P V (xv xs n 1) (xv xs n 2) hI.w0 hI.B hI.R.hn0 hI.R.hn1 hI.R.L hI.R.hcm xv_R xv_R) gL_law_X5_conflicts rfl ⟨rfl, rfl⟩ (by decide +kernel) ⟨Nat.le_of_ble_eq_true rfl, Nat.le_of_ble_eq_true rfl⟩ rfl rfl (Nat.le_of_ble_eq_true rfl) rfl dL_law_778 (fun r P1 V1 h1 => ?_)
  obtain ⟨hP, hB1, h1⟩ := h1
  subst hP
  have k1 : ∀ r w, r ≠ 9 → V1 r w = V r w := by
    rcases h1 with ⟨_, _, h1⟩ | ⟨_, _, h1⟩
    · rw [h1]; exact fun _ _ _ => rfl
    · rw [h1]; exact fun r w hr => by rw [up_r hr]
  have l6 := hI.l6 hn hB1 (fun r hr => k1 r 0 (by omega))
  refine y_aload_n E dL_law_781 2 rfl rfl ?_
  refine y_arg E (jj := 1) 1 rfl rfl rfl hN (by omega) dL_law_782 dL_law_783 dL_law_784 dL_law_785 dL_law_786 ?_
  refine y_arg E (jj := 2) 2 rfl rfl rfl hN (by omega) dL_law_787 dL_law_788 dL_law_789 dL_law_790 dL_law_791 ?_
  refine y_callV E (ci := 6) (NN := 16) (C := RX6) (T := TX6) (n := 2) (st := [.int (iI r)]) (rfl : vl 16 0 = true) rfl rfl [.int (iI (xv xs n 1)), .int (iI (xv xs n 2))] (kX6_conflicts l0 G P1 V1 (xv xs n 1) (xv xs n 2) l6.B l6.m0 l6.m1 l6.M.l l6.M.i l6.M.hh xv_R xv_R) gL_law_X6_conflicts rfl ⟨rfl, rfl⟩ (by decide +kernel) ⟨Nat.le_of_ble_eq_true rfl, Nat.le_of_ble_eq_true rfl⟩ rfl rfl (Nat.le_of_ble_eq_true rfl) rfl dL_law_792 (fun r2 P2 V2 h2 => ?_)
  obtain ⟨e2, hB2, h2⟩ := h2
  subst e2
  rw [k1 17 0 (by decide)] at h2
  have k2 : ∀ r w, r ≠ 21 → V2 r w = V1 r w := by
    rcases h2 with ⟨_, _, h2⟩ | ⟨_, _, h2⟩
    · rw [h2]; exact fun _ _ _ => rfl
    · rw [h2]; exact fun r w hr => by rw [up_r hr]
  have e : r2 = r := cf_ans hI.R (h1.imp (fun z => ⟨z.1, z.2.1⟩) (fun z => ⟨z.1, z.2.1⟩)) (h2.imp (fun z => ⟨z.1, z.2.1⟩) (fun z => ⟨z.1, z.2.1⟩))
  rw [e]
  exact y_eq E 954 dL_law_795 rfl (kk _ _ (hI.same2 hB2 (fun r w h9 _ h21 => by rw [k2 r w h21, k1 r w h9])))
theorem law_c20 (E : Ey X l0 G b N xs) (hI : LI P V n) (hn : n ≤ 512) (hN : N ≤ 3072) (h6 : 6 * n + 6 ≤ N) (kk : ∀ P2 V2, LI P2 V2 (n + 1) → Ky X G P2 V2 [some (.ref b), some (.ref (ad G 10 0)), some (.ref (ad G 16 0)), some (.int (iI (6 * (n : Int))))] 954 []) : Ky X G P V [some (.ref b), some (.ref (ad G 10 0)), some (.ref (ad G 16 0)), some (.int (iI (6 * (n : Int))))] 800 [] := by
  refine y_aload_n E dL_law_800 1 rfl rfl ?_
  refine y_arg E (jj := 1) 1 rfl rfl rfl hN (by omega) dL_law_801 dL_law_802 dL_law_803 dL_law_804 dL_law_805 ?_
  refine y_callV E (ci := 5) (NN := 4) (C := RX5) (T := TX5) (n := 1) (st := []) (rfl : vl 10 0 = true) rfl rfl [.int (iI (xv xs n 1))] (kX5_frees l0 G P V (xv xs n 1) hI.w0 hI.B hI.R.hn0 hI.R.hn1 hI.R.L xv_R) gL_law_X5_frees rfl ⟨rfl, rfl⟩ (by decide +kernel) ⟨Nat.le_of_ble_eq_true rfl, Nat.le_of_ble_eq_true rfl⟩ rfl rfl (Nat.le_of_ble_eq_true rfl) rfl dL_law_806 (fun r P1 V1 h1 => ?_)
  obtain ⟨hr, hP, hV⟩ := h1
  subst hP hV
  have l6 := hI.l6 hn hI.B (fun _ _ => rfl)
  refine y_aload_n E dL_law_809 2 rfl rfl ?_
  refine y_arg E (jj := 1) 1 rfl rfl rfl hN (by omega) dL_law_810 dL_law_811 dL_law_812 dL_law_813 dL_law_814 ?_
  refine y_callV E (ci := 6) (NN := 16) (C := RX6) (T := TX6) (n := 1) (st := [.int (iI r)]) (rfl : vl 16 0 = true) rfl rfl [.int (iI (xv xs n 1))] (kX6_frees l0 G P1 V1 (xv xs n 1) l6.B l6.m0 l6.m1 l6.M.l xv_R) gL_law_X6_frees rfl ⟨rfl, rfl⟩ (by decide +kernel) ⟨Nat.le_of_ble_eq_true rfl, Nat.le_of_ble_eq_true rfl⟩ rfl rfl (Nat.le_of_ble_eq_true rfl) rfl dL_law_815 (fun r2 P2 V2 h2 => ?_)
  obtain ⟨e2, hB2, h2⟩ := h2
  subst e2
  have k2 : ∀ r w, r ≠ 19 → V2 r w = V1 r w := by
    rcases h2 with ⟨_, _, h2⟩ | ⟨_, _, _, h2⟩ | ⟨_, _, _, h2⟩
    · rw [h2]; exact fun _ _ _ => rfl
    · rw [h2]; exact fun _ _ _ => rfl
    · rw [h2]; exact fun r w hr => by rw [up_r hr]
  have e : r = r2 := eq_frees hI.R hr (h2.imp (fun z => ⟨z.1, z.2.1⟩) (fun z => z.imp (fun z => ⟨z.1, z.2.1, z.2.2.1⟩) (fun z => ⟨z.1, z.2.1, z.2.2.1⟩)))
  rw [e]
  exact y_eq E 954 dL_law_818 rfl (kk _ _ (hI.same2 hB2 (fun r w _ h19 _ => k2 r w h19)))
theorem law_c21 (E : Ey X l0 G b N xs) (hI : LI P V n) (hn : n ≤ 512) (hN : N ≤ 3072) (h6 : 6 * n + 6 ≤ N) (kk : ∀ P2 V2, LI P2 V2 (n + 1) → Ky X G P2 V2 [some (.ref b), some (.ref (ad G 10 0)), some (.ref (ad G 16 0)), some (.int (iI (6 * (n : Int))))] 954 []) : Ky X G P V [some (.ref b), some (.ref (ad G 10 0)), some (.ref (ad G 16 0)), some (.int (iI (6 * (n : Int))))] 823 [] := by
  refine y_aload_n E dL_law_823 1 rfl rfl ?_
  refine y_arg E (jj := 1) 1 rfl rfl rfl hN (by omega) dL_law_824 dL_law_825 dL_law_826 dL_law_827 dL_law_828 ?_
  refine y_callV E (ci := 5) (NN := 4) (C := RX5) (T := TX5) (n := 1) (st := []) (rfl : vl 10 0 = true) rfl rfl [.int (iI (xv xs n 1))] (kX5_heaviest l0 G P V (xv xs n 1) hI.w0 hI.B hI.R.hn0 hI.R.hn1 hI.R.L xv_R) gL_law_X5_heaviest rfl ⟨rfl, rfl⟩ (by decide +kernel) ⟨Nat.le_of_ble_eq_true rfl, Nat.le_of_ble_eq_true rfl⟩ rfl rfl (Nat.le_of_ble_eq_true rfl) rfl dL_law_829 (fun r P1 V1 h1 => ?_)
  obtain ⟨hr, hP, hV⟩ := h1
  subst hP hV
  have l6 := hI.l6 hn hI.B (fun _ _ => rfl)
  refine y_aload_n E dL_law_832 2 rfl rfl ?_
  refine y_arg E (jj := 1) 1 rfl rfl rfl hN (by omega) dL_law_833 dL_law_834 dL_law_835 dL_law_836 dL_law_837 ?_
  refine y_callV E (ci := 6) (NN := 16) (C := RX6) (T := TX6) (n := 1) (st := [.int (iI r)]) (rfl : vl 16 0 = true) rfl rfl [.int (iI (xv xs n 1))] (kX6_heaviest l0 G P1 V1 (xv xs n 1) l6.B l6.m0 l6.m1 l6.M.l xv_R) gL_law_X6_heaviest rfl ⟨rfl, rfl⟩ (by decide +kernel) ⟨Nat.le_of_ble_eq_true rfl, Nat.le_of_ble_eq_true rfl⟩ rfl rfl (Nat.le_of_ble_eq_true rfl) rfl dL_law_838 (fun r2 P2 V2 h2 => ?_)
  obtain ⟨e2, hB2, h2⟩ := h2
  subst e2
  have k2 : ∀ r w, r ≠ 19 → V2 r w = V1 r w := by
    rcases h2 with ⟨_, _, h2⟩ | ⟨_, h2 | h2, _⟩
    · rw [h2]; exact fun _ _ _ => rfl
    · rw [h2]; exact fun _ _ _ => rfl
    · rw [h2]; exact fun r w hr => by rw [up_r hr]
  have e : r = r2 := eq_heaviest hI.R hr (h2.imp (fun z => ⟨z.1, z.2.1⟩) (fun z => ⟨z.1, z.2.2⟩))
  rw [e]
  exact y_eq E 954 dL_law_841 rfl (kk _ _ (hI.same2 hB2 (fun r w _ h19 _ => k2 r w h19)))
theorem law_c22 (E : Ey X l0 G b N xs) (hI : LI P V n) (hn : n ≤ 512) (hN : N ≤ 3072) (h6 : 6 * n + 6 ≤ N) (kk : ∀ P2 V2, LI P2 V2 (n + 1) → Ky X G P2 V2 [some (.ref b), some (.ref (ad G 10 0)), some (.ref (ad G 16 0)), some (.int (iI (6 * (n : Int))))] 954 []) : Ky X G P V [some (.ref b), some (.ref (ad G 10 0)), some (.ref (ad G 16 0)), some (.int (iI (6 * (n : Int))))] 846 [] := by
  refine y_aload_n E dL_law_846 1 rfl rfl ?_
  refine y_arg E (jj := 1) 1 rfl rfl rfl hN (by omega) dL_law_847 dL_law_848 dL_law_849 dL_law_850 dL_law_851 ?_
  refine y_callV E (ci := 5) (NN := 4) (C := RX5) (T := TX5) (n := 1) (st := []) (rfl : vl 10 0 = true) rfl rfl [.int (iI (xv xs n 1))] (kX5_count l0 G P V (xv xs n 1) hI.w0 hI.B hI.R.hn0 hI.R.hn1 hI.R.L xv_R) gL_law_X5_count rfl ⟨rfl, rfl⟩ (by decide +kernel) ⟨Nat.le_of_ble_eq_true rfl, Nat.le_of_ble_eq_true rfl⟩ rfl rfl (Nat.le_of_ble_eq_true rfl) rfl dL_law_852 (fun r P1 V1 h1 => ?_)
  obtain ⟨hr, hP, hV⟩ := h1
  subst hP hV
  have l6 := hI.l6 hn hI.B (fun _ _ => rfl)
  refine y_aload_n E dL_law_855 2 rfl rfl ?_
  refine y_arg E (jj := 1) 1 rfl rfl rfl hN (by omega) dL_law_856 dL_law_857 dL_law_858 dL_law_859 dL_law_860 ?_
  refine y_callV E (ci := 6) (NN := 16) (C := RX6) (T := TX6) (n := 1) (st := [.int (iI r)]) (rfl : vl 16 0 = true) rfl rfl [.int (iI (xv xs n 1))] (kX6_count l0 G P1 V1 (xv xs n 1) l6.B xv_R) gL_law_X6_count rfl ⟨rfl, rfl⟩ (by decide +kernel) ⟨Nat.le_of_ble_eq_true rfl, Nat.le_of_ble_eq_true rfl⟩ rfl rfl (Nat.le_of_ble_eq_true rfl) rfl dL_law_861 (fun r2 P2 V2 h2 => ?_)
  obtain ⟨hr2, hP2, hV2⟩ := h2
  subst hP2 hV2
  rw [hI.e3, hI.e6] at hr2
  have e : r2 = r := hr2.trans ((eq_count hI.R _ _ _).symm.trans hr.symm)
  rw [e]
  exact y_eq E 954 dL_law_864 rfl (kk _ _ hI.up1)
theorem law_c23 (E : Ey X l0 G b N xs) (hI : LI P V n) (hn : n ≤ 512) (hN : N ≤ 3072) (h6 : 6 * n + 6 ≤ N) (kk : ∀ P2 V2, LI P2 V2 (n + 1) → Ky X G P2 V2 [some (.ref b), some (.ref (ad G 10 0)), some (.ref (ad G 16 0)), some (.int (iI (6 * (n : Int))))] 954 []) : Ky X G P V [some (.ref b), some (.ref (ad G 10 0)), some (.ref (ad G 16 0)), some (.int (iI (6 * (n : Int))))] 869 [] := by
  refine y_aload_n E dL_law_869 1 rfl rfl ?_
  refine y_callV E (ci := 5) (NN := 4) (C := RX5) (T := TX5) (n := 0) (st := []) (rfl : vl 10 0 = true) rfl rfl [] (kX5_undo l0 G P V hI.w0 hI.B hI.o hI.z) gL_law_X5_undo rfl ⟨rfl, rfl⟩ (by decide +kernel) ⟨Nat.le_of_ble_eq_true rfl, Nat.le_of_ble_eq_true rfl⟩ rfl rfl (Nat.le_of_ble_eq_true rfl) rfl dL_law_870 (fun r P1 V1 h1 => ?_)
  have k1 : ∀ r w, r ≠ 11 → V1 r w = V r w := by
    rcases h1.2 with ⟨_, _, _, h1⟩ | ⟨_, _, _, h1⟩
    · rw [h1]; exact fun _ _ _ => rfl
    · rw [h1]; exact fun r w hr => by unfold unV; rw [up_r hr]
  have l6 := hI.l6 hn h1.1 (fun r hr => k1 r 0 (by omega))
  refine y_aload_n E dL_law_873 2 rfl rfl ?_
  refine y_callV E (ci := 6) (NN := 16) (C := RX6) (T := TX6) (n := 0) (st := [.int (iI r)]) (rfl : vl 16 0 = true) rfl rfl [] (kX6_undo l0 G P1 V1 l6.B l6.q l6.pa) gL_law_X6_undo rfl ⟨rfl, rfl⟩ (by decide +kernel) ⟨Nat.le_of_ble_eq_true rfl, Nat.le_of_ble_eq_true rfl⟩ rfl rfl (Nat.le_of_ble_eq_true rfl) rfl dL_law_874 (fun r2 P2 V2 h2 => ?_)
  have z := st_undo hI h1 h2
  rw [z.1]
  exact y_eq E 954 dL_law_877 rfl (kk _ _ z.2)
theorem law_c24 (E : Ey X l0 G b N xs) (hI : LI P V n) (hn : n ≤ 512) (hN : N ≤ 3072) (h6 : 6 * n + 6 ≤ N) (kk : ∀ P2 V2, LI P2 V2 (n + 1) → Ky X G P2 V2 [some (.ref b), some (.ref (ad G 10 0)), some (.ref (ad G 16 0)), some (.int (iI (6 * (n : Int))))] 954 []) : Ky X G P V [some (.ref b), some (.ref (ad G 10 0)), some (.ref (ad G 16 0)), some (.int (iI (6 * (n : Int))))] 882 [] := by
  refine y_aload_n E dL_law_882 1 rfl rfl ?_
  refine y_arg E (jj := 1) 1 rfl rfl rfl hN (by omega) dL_law_883 dL_law_884 dL_law_885 dL_law_886 dL_law_887 ?_
  refine y_callV E (ci := 5) (NN := 4) (C := RX5) (T := TX5) (n := 1) (st := []) (rfl : vl 10 0 = true) rfl rfl [.int (iI (xv xs n 1))] (kX5_type l0 G P V (xv xs n 1) hI.w0 hI.B hI.ol xv_R) gL_law_X5_type rfl ⟨rfl, rfl⟩ (by decide +kernel) ⟨Nat.le_of_ble_eq_true rfl, Nat.le_of_ble_eq_true rfl⟩ rfl rfl (Nat.le_of_ble_eq_true rfl) rfl dL_law_888 (fun r P1 V1 h1 => ?_)
  have k1 : ∀ r w, 16 ≤ r → V1 r w = V r w := by
    rcases h1.2.2 with ⟨_, _, h1⟩ | ⟨_, _, _, h1⟩ | ⟨_, _, _, h1⟩
    · rw [h1]; exact fun _ _ _ => rfl
    · rw [h1]; exact fun _ _ _ => rfl
    · rw [h1]; exact fun r w hr => by rw [up_r (by omega), up_r (by omega)]
  have l6 := hI.l6 hn h1.2.1 (fun r hr => k1 r 0 hr)
  refine y_aload_n E dL_law_891 2 rfl rfl ?_
  refine y_arg E (jj := 1) 1 rfl rfl rfl hN (by omega) dL_law_892 dL_law_893 dL_law_894 dL_law_895 dL_law_896 ?_
  refine y_callV E (ci := 6) (NN := 16) (C := RX6) (T := TX6) (n := 1) (st := [.int (iI r)]) (rfl : vl 16 0 = true) rfl rfl [.int (iI (xv xs n 1))] (kX6_type l0 G P1 V1 (xv xs n 1) l6.B l6.t xv_R) gL_law_X6_type rfl ⟨rfl, rfl⟩ (by decide +kernel) ⟨Nat.le_of_ble_eq_true rfl, Nat.le_of_ble_eq_true rfl⟩ rfl rfl (Nat.le_of_ble_eq_true rfl) rfl dL_law_897 (fun r2 P2 V2 h2 => ?_)
  have z := st_type hI h1 h2
  rw [z.1]
  exact y_eq E 954 dL_law_900 rfl (kk _ _ z.2)
theorem law_c25 (E : Ey X l0 G b N xs) (hI : LI P V n) (hn : n ≤ 512) (hN : N ≤ 3072) (h6 : 6 * n + 6 ≤ N) (kk : ∀ P2 V2, LI P2 V2 (n + 1) → Ky X G P2 V2 [some (.ref b), some (.ref (ad G 10 0)), some (.ref (ad G 16 0)), some (.int (iI (6 * (n : Int))))] 954 []) : Ky X G P V [some (.ref b), some (.ref (ad G 10 0)), some (.ref (ad G 16 0)), some (.int (iI (6 * (n : Int))))] 905 [] := by
  refine y_aload_n E dL_law_905 1 rfl rfl ?_
  refine y_callV E (ci := 5) (NN := 4) (C := RX5) (T := TX5) (n := 0) (st := []) (rfl : vl 10 0 = true) rfl rfl [] (kX5_clearText l0 G P V hI.w0 hI.B hI.ol) gL_law_X5_clearText rfl ⟨rfl, rfl⟩ (by decide +kernel) ⟨Nat.le_of_ble_eq_true rfl, Nat.le_of_ble_eq_true rfl⟩ rfl rfl (Nat.le_of_ble_eq_true rfl) rfl dL_law_906 (fun r P1 V1 h1 => ?_)
  have k1 : ∀ r w, 16 ≤ r → V1 r w = V r w := fun r w hr => by rw [h1.2.2.2, up_r (by omega)]
  have l6 := hI.l6 hn h1.2.1 (fun r hr => k1 r 0 hr)
  refine y_aload_n E dL_law_909 2 rfl rfl ?_
  refine y_callV E (ci := 6) (NN := 16) (C := RX6) (T := TX6) (n := 0) (st := [.int (iI r)]) (rfl : vl 16 0 = true) rfl rfl [] (kX6_clearText l0 G P1 V1 l6.B) gL_law_X6_clearText rfl ⟨rfl, rfl⟩ (by decide +kernel) ⟨Nat.le_of_ble_eq_true rfl, Nat.le_of_ble_eq_true rfl⟩ rfl rfl (Nat.le_of_ble_eq_true rfl) rfl dL_law_910 (fun r2 P2 V2 h2 => ?_)
  have z := st_clear hI h1 h2
  rw [z.1]
  exact y_eq E 954 dL_law_913 rfl (kk _ _ z.2)
theorem law_c26 (E : Ey X l0 G b N xs) (hI : LI P V n) (hn : n ≤ 512) (hN : N ≤ 3072) (h6 : 6 * n + 6 ≤ N) (kk : ∀ P2 V2, LI P2 V2 (n + 1) → Ky X G P2 V2 [some (.ref b), some (.ref (ad G 10 0)), some (.ref (ad G 16 0)), some (.int (iI (6 * (n : Int))))] 954 []) : Ky X G P V [some (.ref b), some (.ref (ad G 10 0)), some (.ref (ad G 16 0)), some (.int (iI (6 * (n : Int))))] 918 [] := by
  refine y_aload_n E dL_law_918 1 rfl rfl ?_
  refine y_arg E (jj := 1) 1 rfl rfl rfl hN (by omega) dL_law_919 dL_law_920 dL_law_921 dL_law_922 dL_law_923 ?_
  refine y_callV E (ci := 5) (NN := 4) (C := RX5) (T := TX5) (n := 1) (st := []) (rfl : vl 10 0 = true) rfl rfl [.int (iI (xv xs n 1))] (kX5_fault l0 G P V (xv xs n 1) hI.w0 hI.B hI.w1 hI.uw (V 17 0) hI.R (by have := hI.s1; omega) hI.ol xv_R) gL_law_X5_fault rfl ⟨rfl, rfl⟩ (by decide +kernel) ⟨Nat.le_of_ble_eq_true rfl, Nat.le_of_ble_eq_true rfl⟩ rfl rfl (Nat.le_of_ble_eq_true rfl) rfl dL_law_924 (fun r P1 V1 h1 => ?_)
  have k1 : ∀ r w, 16 ≤ r → V1 r w = V r w := by
    rcases h1.2.2 with ⟨_, _, h1⟩ | ⟨_, h1, _⟩
    · rw [h1]; exact fun _ _ _ => rfl
    · exact fun r w hr => h1 r w (by omega) (by omega) (by omega)
  have l6 := hI.l6 hn h1.2.1 (fun r hr => k1 r 0 hr)
  refine y_aload_n E dL_law_927 2 rfl rfl ?_
  refine y_arg E (jj := 1) 1 rfl rfl rfl hN (by omega) dL_law_928 dL_law_929 dL_law_930 dL_law_931 dL_law_932 ?_
  refine y_callV E (ci := 6) (NN := 16) (C := RX6) (T := TX6) (n := 1) (st := [.int (iI r)]) (rfl : vl 16 0 = true) rfl rfl [.int (iI (xv xs n 1))] (kX6_fault l0 G P1 V1 (xv xs n 1) l6.B l6.M l6.q l6.t l6.s xv_R) gL_law_X6_fault rfl ⟨rfl, rfl⟩ (by decide +kernel) ⟨Nat.le_of_ble_eq_true rfl, Nat.le_of_ble_eq_true rfl⟩ rfl rfl (Nat.le_of_ble_eq_true rfl) rfl dL_law_933 (fun r2 P2 V2 h2 => ?_)
  have z := st_fault hI h1 h2
  rw [z.1]
  exact y_eq E 954 dL_law_936 rfl (kk _ _ z.2)
theorem law_c27 (E : Ey X l0 G b N xs) (hI : LI P V n) (hn : n ≤ 512) (hN : N ≤ 3072) (h6 : 6 * n + 6 ≤ N) (kk : ∀ P2 V2, LI P2 V2 (n + 1) → Ky X G P2 V2 [some (.ref b), some (.ref (ad G 10 0)), some (.ref (ad G 16 0)), some (.int (iI (6 * (n : Int))))] 954 []) : Ky X G P V [some (.ref b), some (.ref (ad G 10 0)), some (.ref (ad G 16 0)), some (.int (iI (6 * (n : Int))))] 941 [] := by
  refine y_aload_n E dL_law_941 1 rfl rfl ?_
  refine y_callV E (ci := 5) (NN := 4) (C := RX5) (T := TX5) (n := 0) (st := []) (rfl : vl 10 0 = true) rfl rfl [] (kX5_play l0 G P V hI.w0 hI.B hI.w1 hI.uw (V 17 0) hI.R (by have := hI.s1; omega) hI.ol hI.o hI.z) gL_law_X5_play rfl ⟨rfl, rfl⟩ (by decide +kernel) ⟨Nat.le_of_ble_eq_true rfl, Nat.le_of_ble_eq_true rfl⟩ rfl rfl (Nat.le_of_ble_eq_true rfl) rfl dL_law_942 (fun r P1 V1 h1 => ?_)
  obtain ⟨hB1, Vx, hF, h13, m, res, pos, rea, cau, s5, hp, hr, kp⟩ := h1
  have k1 := pk hF kp
  have l6 := hI.l6 hn hB1 (fun r hr => k1 r 0 (by omega) (by omega))
  refine y_aload_n E dL_law_945 2 rfl rfl ?_
  refine y_callV E (ci := 6) (NN := 16) (C := RX6) (T := TX6) (n := 0) (st := [.int (iI r)]) (rfl : vl 16 0 = true) rfl rfl [] (kX6_play l0 G P1 V1 l6.B l6.M l6.q l6.t l6.s) gL_law_X6_play rfl ⟨rfl, rfl⟩ (by decide +kernel) ⟨Nat.le_of_ble_eq_true rfl, Nat.le_of_ble_eq_true rfl⟩ rfl rfl (Nat.le_of_ble_eq_true rfl) rfl dL_law_946 (fun r2 P2 V2 h2 => ?_)
  have z := st_play hI hF h13 hp hr kp h2
  rw [z.1]
  exact y_eq E 954 dL_law_949 rfl (kk _ _ z.2)
theorem law_sw (E : Ey X l0 G b N xs) (hI : LI P V n) (hn : n ≤ 512) (hN : N ≤ 3072) (h6 : 6 * n + 6 ≤ N) (x : Int32) (kk : ∀ P2 V2, LI P2 V2 (n + 1) → Ky X G P2 V2 [some (.ref b), some (.ref (ad G 10 0)), some (.ref (ad G 16 0)), some (.int (iI (6 * (n : Int))))] 954 []) : Ky X G P V [some (.ref b), some (.ref (ad G 10 0)), some (.ref (ad G 16 0)), some (.int (iI (6 * (n : Int))))] 33 [.int x] := by
  by_cases hx : x.toInt < 0 ∨ 27 < x.toInt
  · exact y_tsO E 954 dL_law_33 hx rfl (kk _ _ hI.up1)
  · rcases (show x.toInt = 0 ∨ x.toInt = 1 ∨ x.toInt = 2 ∨ x.toInt = 3 ∨ x.toInt = 4 ∨ x.toInt = 5 ∨ x.toInt = 6 ∨ x.toInt = 7 ∨ x.toInt = 8 ∨ x.toInt = 9 ∨ x.toInt = 10 ∨ x.toInt = 11 ∨ x.toInt = 12 ∨ x.toInt = 13 ∨ x.toInt = 14 ∨ x.toInt = 15 ∨ x.toInt = 16 ∨ x.toInt = 17 ∨ x.toInt = 18 ∨ x.toInt = 19 ∨ x.toInt = 20 ∨ x.toInt = 21 ∨ x.toInt = 22 ∨ x.toInt = 23 ∨ x.toInt = 24 ∨ x.toInt = 25 ∨ x.toInt = 26 ∨ x.toInt = 27 by omega) with h | h | h | h | h | h | h | h | h | h | h | h | h | h | h | h | h | h | h | h | h | h | h | h | h | h | h | h
    · exact y_tsI E 0 160 h dL_law_33 (by omega) (by omega) rfl rfl (law_c0 E hI hn hN h6 kk)
    · exact y_tsI E 1 203 h dL_law_33 (by omega) (by omega) rfl rfl (law_c1 E hI hn hN h6 kk)
    · exact y_tsI E 2 256 h dL_law_33 (by omega) (by omega) rfl rfl (law_c2 E hI hn hN h6 kk)
    · exact y_tsI E 3 319 h dL_law_33 (by omega) (by omega) rfl rfl (law_c3 E hI hn hN h6 kk)
    · exact y_tsI E 4 352 h dL_law_33 (by omega) (by omega) rfl rfl (law_c4 E hI hn hN h6 kk)
    · exact y_tsI E 5 375 h dL_law_33 (by omega) (by omega) rfl rfl (law_c5 E hI hn hN h6 kk)
    · exact y_tsI E 6 398 h dL_law_33 (by omega) (by omega) rfl rfl (law_c6 E hI hn hN h6 kk)
    · exact y_tsI E 7 421 h dL_law_33 (by omega) (by omega) rfl rfl (law_c7 E hI hn hN h6 kk)
    · exact y_tsI E 8 444 h dL_law_33 (by omega) (by omega) rfl rfl (law_c8 E hI hn hN h6 kk)
    · exact y_tsI E 9 457 h dL_law_33 (by omega) (by omega) rfl rfl (law_c9 E hI hn hN h6 kk)
    · exact y_tsI E 10 490 h dL_law_33 (by omega) (by omega) rfl rfl (law_c10 E hI hn hN h6 kk)
    · exact y_tsI E 11 523 h dL_law_33 (by omega) (by omega) rfl rfl (law_c11 E hI hn hN h6 kk)
    · exact y_tsI E 12 556 h dL_law_33 (by omega) (by omega) rfl rfl (law_c12 E hI hn hN h6 kk)
    · exact y_tsI E 13 579 h dL_law_33 (by omega) (by omega) rfl rfl (law_c13 E hI hn hN h6 kk)
    · exact y_tsI E 14 612 h dL_law_33 (by omega) (by omega) rfl rfl (law_c14 E hI hn hN h6 kk)
    · exact y_tsI E 15 645 h dL_law_33 (by omega) (by omega) rfl rfl (law_c15 E hI hn hN h6 kk)
    · exact y_tsI E 16 668 h dL_law_33 (by omega) (by omega) rfl rfl (law_c16 E hI hn hN h6 kk)
    · exact y_tsI E 17 711 h dL_law_33 (by omega) (by omega) rfl rfl (law_c17 E hI hn hN h6 kk)
    · exact y_tsI E 18 734 h dL_law_33 (by omega) (by omega) rfl rfl (law_c18 E hI hn hN h6 kk)
    · exact y_tsI E 19 767 h dL_law_33 (by omega) (by omega) rfl rfl (law_c19 E hI hn hN h6 kk)
    · exact y_tsI E 20 800 h dL_law_33 (by omega) (by omega) rfl rfl (law_c20 E hI hn hN h6 kk)
    · exact y_tsI E 21 823 h dL_law_33 (by omega) (by omega) rfl rfl (law_c21 E hI hn hN h6 kk)
    · exact y_tsI E 22 846 h dL_law_33 (by omega) (by omega) rfl rfl (law_c22 E hI hn hN h6 kk)
    · exact y_tsI E 23 869 h dL_law_33 (by omega) (by omega) rfl rfl (law_c23 E hI hn hN h6 kk)
    · exact y_tsI E 24 882 h dL_law_33 (by omega) (by omega) rfl rfl (law_c24 E hI hn hN h6 kk)
    · exact y_tsI E 25 905 h dL_law_33 (by omega) (by omega) rfl rfl (law_c25 E hI hn hN h6 kk)
    · exact y_tsI E 26 918 h dL_law_33 (by omega) (by omega) rfl rfl (law_c26 E hI hn hN h6 kk)
    · exact y_tsI E 27 941 h dL_law_33 (by omega) (by omega) rfl rfl (law_c27 E hI hn hN h6 kk)
theorem law_loop (E : Ey X l0 G b N xs) (hN : N ≤ 3072) : ∀ (d n : Nat) (P : Nat → Nat) (V : Vt), LI P V n → N + 6 ≤ 6 * n + 6 * d → 6 * n ≤ N + 5 → Ky X G P V [some (.ref b), some (.ref (ad G 10 0)), some (.ref (ad G 16 0)), some (.int (iI (6 * (n : Int))))] 18 [] := by
  intro d
  induction d with
  | zero => intro n P V hI hd h5; omega
  | succ d ih =>
    intro n P V hI hd h5
    refine y_iload_n E dL_law_18 3 rfl rfl ?_
    refine y_aload_n E dL_law_19 0 rfl rfl ?_
    refine y_slen E dL_law_20 ?_
    refine y_bipush E dL_law_21 rfl ?_
    refine y_isub E ((N : Int) - 6) rfl dL_law_23 ?_
    refine y_gt E 960 dL_law_24 rfl (by omega) (by omega) (fun _ => ?_) (fun hq => ?_)
    · refine y_iconst E dL_law_960 ?_
      exact y_end E dL_law_961
    · have h6 : 6 * n + 6 ≤ N := by omega
      refine y_aload_n E dL_law_27 0 rfl rfl ?_
      refine y_iload_n E dL_law_28 3 rfl rfl ?_
      refine y_sld E (6 * n) (by omega) (by omega) hN dL_law_29 ?_
      refine y_bipush E dL_law_30 rfl ?_
      refine y_iand E dL_law_32 ?_
      refine law_sw E hI (by omega) hN h6 _ (fun P2 V2 hI2 => ?_)
      refine y_iinc E (6 * (n : Int)) (6 * ((n + 1 : Nat) : Int)) dL_law_954 (Nat.le_of_ble_eq_true rfl) rfl (by omega) rfl ?_
      refine y_goto E 18 dL_law_957 rfl ?_
      exact ih (n + 1) P2 V2 hI2 (by omega) (by omega)
end LC
