set_option maxRecDepth 10000 in
set_option maxHeartbeats 4000000 in
theorem s_L_law_L23 {G : o_G} {N : Nat} {b Ls : Nat} {xs : Nat → Int32} {σ' : o_S} : ∀ (n : Nat) (l4 : Int32) (s : o_S), f_L_law_L23 N Ls xs n l4 s = some ((1 : Int32), σ') → o_Z (o_up (o_ou G)) RL code ret 7 608 (o_EL (o_up (o_ou G)) b Ls xs) (o_k σ') s 23 [(0, .ref b), (1, .ref (g_ad G 0)), (2, .ref (g_ad G 6)), (3, .ref (g_ad G 43)), (4, .int l4)] [] := by
  intro n
  induction n with
  | zero => intro l4 s h; cases h
  | succ n ih =>
    intro l4 s h
    rw [f_L_law_L23] at h
    refine z_iload dL_law_23 4 rfl ?_
    refine z_aload_n dL_law_25 0 rfl ?_
    refine zl_slen dL_law_26 ?_
    refine z_iconst (v := 4) dL_law_27 (by decide) ?_
    refine z_isub dL_law_28 ?_
    refine z_icmp_gt (tgt := 1375) dL_law_29 (by decide) (fun hc1 => ?_) (fun hc1 => ?_)
    · replace h := o_ip hc1 h
      refine z_iconst (v := 1) dL_law_1375 (by decide) ?_
      cases h
      exact zl_ret rfl dL_law_1376
    · replace h := o_in hc1 h
      refine z_aload_n dL_law_32 0 rfl ?_
      refine z_iload dL_law_33 4 rfl ?_
      obtain ⟨g2, h⟩ := o_gd h
      replace h := o_dd h
      refine zl_sld g2 dL_law_35 ?_
      refine z_bipush (v := 31) dL_law_36 (by decide) ?_
      refine z_iand dL_law_38 ?_
      by_cases hc4 : (xs (Int32.toNatClampNeg l4) &&& (31 : Int32)) = 0
      · replace h := o_ip hc4 h
        refine z_tableIn (tgt := 148) dL_law_39 (off := 109) (by rw [hc4]; decide) (by rw [hc4]; decide) (by rw [hc4]; rfl) (by decide) ?_
        refine z_aload_n dL_law_148 1 rfl ?_
        refine z_aload_n dL_law_149 0 rfl ?_
        refine z_iload dL_law_150 4 rfl ?_
        refine z_iconst (v := 1) dL_law_152 (by decide) ?_
        refine z_iadd dL_law_153 ?_
        obtain ⟨g5, h⟩ := o_gd h
        replace h := o_dd h
        refine zl_sld g5 dL_law_154 ?_
        refine z_i2l dL_law_155 ?_
        refine z_bipush (v := 32) dL_law_156 (by decide) ?_
        refine z_lshl dL_law_158 ?_
        refine z_aload_n dL_law_159 0 rfl ?_
        refine z_iload dL_law_160 4 rfl ?_
        refine z_iconst (v := 2) dL_law_162 (by decide) ?_
        refine z_iadd dL_law_163 ?_
        obtain ⟨g7, h⟩ := o_gd h
        replace h := o_dd h
        refine zl_sld g7 dL_law_164 ?_
        refine z_i2l dL_law_165 ?_
        refine z_ldc2 cl_L_72 dL_law_166 ?_
        refine z_land dL_law_169 ?_
        refine z_lor dL_law_170 ?_
        refine z_aload_n dL_law_171 3 rfl ?_
        obtain ⟨x11, s9, e10, h⟩ := o_bdi h
        refine z_callWi (As := [.ref _, .long _, .ref _]) (e_L_feed e10) (by decide) mi_L_feed ml_L_74 rfl rfl (Nat.le_of_ble_eq_true rfl) dL_law_172 ?_
        refine z_istore (L' := [(5, .int _), (0, .ref _), (1, .ref _), (2, .ref _), (3, .ref _), (4, .int _)]) dL_law_175 (by decide) rfl ?_
        refine z_aload_n dL_law_177 3 rfl ?_
        refine z_aload_n dL_law_178 1 rfl ?_
        refine z_iload dL_law_179 5 rfl ?_
        refine z_iconst (v := 1) dL_law_181 (by decide) ?_
        refine z_iadd dL_law_182 ?_
        obtain ⟨g12, h⟩ := o_gd h
        replace h := o_dd h
        refine zl_sld g12 dL_law_183 ?_
        refine z_i2l dL_law_184 ?_
        refine z_bipush (v := 32) dL_law_185 (by decide) ?_
        refine z_lshl dL_law_187 ?_
        refine z_aload_n dL_law_188 1 rfl ?_
        refine z_iload dL_law_189 5 rfl ?_
        refine z_iconst (v := 2) dL_law_191 (by decide) ?_
        refine z_iadd dL_law_192 ?_
        obtain ⟨g14, h⟩ := o_gd h
        replace h := o_dd h
        refine zl_sld g14 dL_law_193 ?_
        refine z_i2l dL_law_194 ?_
        refine z_ldc2 cl_L_72 dL_law_195 ?_
        refine z_land dL_law_198 ?_
        refine z_lor dL_law_199 ?_
        obtain ⟨x18, s16, e17, h⟩ := o_bdi h
        refine z_callVi (As := [.long _]) (e_X7_feed e17) (by decide) mi_X7_feed ml_L_79 rfl rfl (Nat.le_of_ble_eq_true rfl) rv_6 dL_law_200 ?_
        refine z_istore (L' := [(6, .int _), (5, .int _), (0, .ref _), (1, .ref _), (2, .ref _), (3, .ref _), (4, .int _)]) dL_law_203 (by decide) rfl ?_
        refine z_aload_n dL_law_205 4 rfl ?_
        obtain ⟨x21, s19, e20, h⟩ := o_bdi h
        refine z_callVi (As := []) (e_X7_thrown e20) (by decide) mi_X7_thrown ml_L_80 rfl rfl (Nat.le_of_ble_eq_true rfl) rv_6 dL_law_206 ?_
        refine z_iload dL_law_209 1 rfl ?_
        refine z_icmp_eq (tgt := 216) dL_law_211 (by decide) (fun hc22 => ?_) (fun hc22 => ?_)
        · replace h := o_ip hc22 h
          refine z_iload dL_law_216 1 rfl ?_
          refine z_if_ne (tgt := 233) dL_law_218 (by decide) (fun hc23 => ?_) (fun hc23 => ?_)
          · replace h := o_in hc23 h
            refine z_goto (tgt := 1369) dL_law_233 (by decide) ?_
            refine z_iinc (v := _ + 4) (L' := [(4, .int _), (6, .int _), (5, .int _), (0, .ref _), (1, .ref _), (2, .ref _), (3, .ref _)]) dL_law_1369 6 rfl rfl (by decide) rfl ?_
            refine z_goto (tgt := 23) dL_law_1372 (by decide) ?_
            exact o_Z.sub [3, 4, 5, 6, 0] rfl (ih _ _ h)
          · replace h := o_ip hc23 h
            refine z_aload_n dL_law_221 5 rfl ?_
            refine z_iconst (v := 0) dL_law_222 (by decide) ?_
            refine za_outL (by decide) dL_law_223 ?_
            refine z_iload dL_law_224 0 rfl ?_
            refine z_i2l dL_law_226 ?_
            refine z_lcmp dL_law_227 ?_
            refine z_if_eq (tgt := 233) dL_law_228 (by decide) (fun hc24 => ?_) (fun hc24 => ?_)
            · replace h := o_ip hc24 h
              refine z_goto (tgt := 1369) dL_law_233 (by decide) ?_
              refine z_iinc (v := _ + 4) (L' := [(4, .int _), (6, .int _), (5, .int _), (0, .ref _), (1, .ref _), (2, .ref _), (3, .ref _)]) dL_law_1369 6 rfl rfl (by decide) rfl ?_
              refine z_goto (tgt := 23) dL_law_1372 (by decide) ?_
              exact o_Z.sub [3, 4, 5, 6, 0] rfl (ih _ _ h)
            · replace h := o_in hc24 h
              refine z_iconst (v := 0) dL_law_231 (by decide) ?_
              exact (o_n01 h).elim
        · replace h := o_in hc22 h
          refine z_iconst (v := 0) dL_law_214 (by decide) ?_
          exact (o_n01 h).elim
      · replace h := o_in hc4 h
        by_cases hc25 : (xs (Int32.toNatClampNeg l4) &&& (31 : Int32)) = 1
        · replace h := o_ip hc25 h
          refine z_tableIn (tgt := 236) dL_law_39 (off := 197) (by rw [hc25]; decide) (by rw [hc25]; decide) (by rw [hc25]; rfl) (by decide) ?_
          refine z_aload_n dL_law_236 1 rfl ?_
          refine z_aload_n dL_law_237 0 rfl ?_
          refine z_iload dL_law_238 4 rfl ?_
          refine z_iconst (v := 1) dL_law_240 (by decide) ?_
          refine z_iadd dL_law_241 ?_
          obtain ⟨g26, h⟩ := o_gd h
          replace h := o_dd h
          refine zl_sld g26 dL_law_242 ?_
          refine z_aload_n dL_law_243 3 rfl ?_
          obtain ⟨x30, s28, e29, h⟩ := o_bdi h
          refine z_callWi (As := [.ref _, .int _, .ref _]) (e_L_trim e29) (by decide) mi_L_trim ml_L_84 rfl rfl (Nat.le_of_ble_eq_true rfl) dL_law_244 ?_
          refine z_istore (L' := [(5, .int _), (0, .ref _), (1, .ref _), (2, .ref _), (3, .ref _), (4, .int _)]) dL_law_247 (by decide) rfl ?_
          refine z_aload_n dL_law_249 3 rfl ?_
          refine z_aload_n dL_law_250 1 rfl ?_
          refine z_iload dL_law_251 5 rfl ?_
          refine z_iconst (v := 1) dL_law_253 (by decide) ?_
          refine z_iadd dL_law_254 ?_
          obtain ⟨g31, h⟩ := o_gd h
          replace h := o_dd h
          refine zl_sld g31 dL_law_255 ?_
          obtain ⟨x35, s33, e34, h⟩ := o_bdi h
          refine z_callVi (As := [.int _]) (e_X7_trim e34) (by decide) mi_X7_trim ml_L_87 rfl rfl (Nat.le_of_ble_eq_true rfl) rv_6 dL_law_256 ?_
          refine z_istore (L' := [(6, .int _), (5, .int _), (0, .ref _), (1, .ref _), (2, .ref _), (3, .ref _), (4, .int _)]) dL_law_259 (by decide) rfl ?_
          refine z_aload_n dL_law_261 4 rfl ?_
          obtain ⟨x38, s36, e37, h⟩ := o_bdi h
          refine z_callVi (As := []) (e_X7_thrown e37) (by decide) mi_X7_thrown ml_L_80 rfl rfl (Nat.le_of_ble_eq_true rfl) rv_6 dL_law_262 ?_
          refine z_iload dL_law_265 1 rfl ?_
          refine z_icmp_eq (tgt := 272) dL_law_267 (by decide) (fun hc39 => ?_) (fun hc39 => ?_)
          · replace h := o_ip hc39 h
            refine z_iload dL_law_272 1 rfl ?_
            refine z_if_ne (tgt := 289) dL_law_274 (by decide) (fun hc40 => ?_) (fun hc40 => ?_)
            · replace h := o_in hc40 h
              refine z_goto (tgt := 1369) dL_law_289 (by decide) ?_
              refine z_iinc (v := _ + 4) (L' := [(4, .int _), (6, .int _), (5, .int _), (0, .ref _), (1, .ref _), (2, .ref _), (3, .ref _)]) dL_law_1369 6 rfl rfl (by decide) rfl ?_
              refine z_goto (tgt := 23) dL_law_1372 (by decide) ?_
              exact o_Z.sub [3, 4, 5, 6, 0] rfl (ih _ _ h)
            · replace h := o_ip hc40 h
              refine z_aload_n dL_law_277 5 rfl ?_
              refine z_iconst (v := 0) dL_law_278 (by decide) ?_
              refine za_outL (by decide) dL_law_279 ?_
              refine z_iload dL_law_280 0 rfl ?_
              refine z_i2l dL_law_282 ?_
              refine z_lcmp dL_law_283 ?_
              refine z_if_eq (tgt := 289) dL_law_284 (by decide) (fun hc41 => ?_) (fun hc41 => ?_)
              · replace h := o_ip hc41 h
                refine z_goto (tgt := 1369) dL_law_289 (by decide) ?_
                refine z_iinc (v := _ + 4) (L' := [(4, .int _), (6, .int _), (5, .int _), (0, .ref _), (1, .ref _), (2, .ref _), (3, .ref _)]) dL_law_1369 6 rfl rfl (by decide) rfl ?_
                refine z_goto (tgt := 23) dL_law_1372 (by decide) ?_
                exact o_Z.sub [3, 4, 5, 6, 0] rfl (ih _ _ h)
              · replace h := o_in hc41 h
                refine z_iconst (v := 0) dL_law_287 (by decide) ?_
                exact (o_n01 h).elim
          · replace h := o_in hc39 h
            refine z_iconst (v := 0) dL_law_270 (by decide) ?_
            exact (o_n01 h).elim
        · replace h := o_in hc25 h
          by_cases hc42 : (xs (Int32.toNatClampNeg l4) &&& (31 : Int32)) = 2
          · replace h := o_ip hc42 h
            refine z_tableIn (tgt := 292) dL_law_39 (off := 253) (by rw [hc42]; decide) (by rw [hc42]; decide) (by rw [hc42]; rfl) (by decide) ?_
            refine z_aload_n dL_law_292 1 rfl ?_
            obtain ⟨x45, s43, e44, h⟩ := o_bdi h
            refine z_callVi (As := []) (e_X6_length e44) (by decide) mi_X6_length ml_L_88 rfl rfl (Nat.le_of_ble_eq_true rfl) rv_0 dL_law_293 ?_
            refine z_aload_n dL_law_296 2 rfl ?_
            obtain ⟨x48, s46, e47, h⟩ := o_bdi h
            refine z_callVi (As := []) (e_X7_length e47) (by decide) mi_X7_length ml_L_91 rfl rfl (Nat.le_of_ble_eq_true rfl) rv_6 dL_law_297 ?_
            refine z_icmp_eq (tgt := 1369) dL_law_300 (by decide) (fun hc49 => ?_) (fun hc49 => ?_)
            · replace h := o_ip hc49 h
              refine z_iinc (v := _ + 4) (L' := [(4, .int _), (0, .ref _), (1, .ref _), (2, .ref _), (3, .ref _)]) dL_law_1369 4 rfl rfl (by decide) rfl ?_
              refine z_goto (tgt := 23) dL_law_1372 (by decide) ?_
              exact o_Z.sub [1, 2, 3, 4, 0] rfl (ih _ _ h)
            · replace h := o_in hc49 h
              refine z_iconst (v := 0) dL_law_303 (by decide) ?_
              exact (o_n01 h).elim
          · replace h := o_in hc42 h
            by_cases hc50 : (xs (Int32.toNatClampNeg l4) &&& (31 : Int32)) = 3
            · replace h := o_ip hc50 h
              refine z_tableIn (tgt := 305) dL_law_39 (off := 266) (by rw [hc50]; decide) (by rw [hc50]; decide) (by rw [hc50]; rfl) (by decide) ?_
              refine z_aload_n dL_law_305 1 rfl ?_
              obtain ⟨x53, s51, e52, h⟩ := o_bdi h
              refine z_callVi (As := []) (e_X6_parse e52) (by decide) mi_X6_parse ml_L_92 rfl rfl (Nat.le_of_ble_eq_true rfl) rv_0 dL_law_306 ?_
              refine z_aload_n dL_law_309 2 rfl ?_
              obtain ⟨x56, s54, e55, h⟩ := o_bdi h
              refine z_callVi (As := []) (e_X7_parse e55) (by decide) mi_X7_parse ml_L_95 rfl rfl (Nat.le_of_ble_eq_true rfl) rv_6 dL_law_310 ?_
              refine z_icmp_eq (tgt := 1369) dL_law_313 (by decide) (fun hc57 => ?_) (fun hc57 => ?_)
              · replace h := o_ip hc57 h
                refine z_iinc (v := _ + 4) (L' := [(4, .int _), (0, .ref _), (1, .ref _), (2, .ref _), (3, .ref _)]) dL_law_1369 4 rfl rfl (by decide) rfl ?_
                refine z_goto (tgt := 23) dL_law_1372 (by decide) ?_
                exact o_Z.sub [1, 2, 3, 4, 0] rfl (ih _ _ h)
              · replace h := o_in hc57 h
                refine z_iconst (v := 0) dL_law_316 (by decide) ?_
                exact (o_n01 h).elim
            · replace h := o_in hc50 h
              by_cases hc58 : (xs (Int32.toNatClampNeg l4) &&& (31 : Int32)) = 4
              · replace h := o_ip hc58 h
                refine z_tableIn (tgt := 318) dL_law_39 (off := 279) (by rw [hc58]; decide) (by rw [hc58]; decide) (by rw [hc58]; rfl) (by decide) ?_
                refine z_aload_n dL_law_318 1 rfl ?_
                obtain ⟨x61, s59, e60, h⟩ := o_bdi h
                refine z_callVi (As := []) (e_X6_repairCount e60) (by decide) mi_X6_repairCount ml_L_96 rfl rfl (Nat.le_of_ble_eq_true rfl) rv_0 dL_law_319 ?_
                refine z_aload_n dL_law_322 2 rfl ?_
                obtain ⟨x64, s62, e63, h⟩ := o_bdi h
                refine z_callVi (As := []) (e_X7_repairCount e63) (by decide) mi_X7_repairCount ml_L_99 rfl rfl (Nat.le_of_ble_eq_true rfl) rv_6 dL_law_323 ?_
                refine z_icmp_eq (tgt := 1369) dL_law_326 (by decide) (fun hc65 => ?_) (fun hc65 => ?_)
                · replace h := o_ip hc65 h
                  refine z_iinc (v := _ + 4) (L' := [(4, .int _), (0, .ref _), (1, .ref _), (2, .ref _), (3, .ref _)]) dL_law_1369 4 rfl rfl (by decide) rfl ?_
                  refine z_goto (tgt := 23) dL_law_1372 (by decide) ?_
                  exact o_Z.sub [1, 2, 3, 4, 0] rfl (ih _ _ h)
                · replace h := o_in hc65 h
                  refine z_iconst (v := 0) dL_law_329 (by decide) ?_
                  exact (o_n01 h).elim
              · replace h := o_in hc58 h
                by_cases hc66 : (xs (Int32.toNatClampNeg l4) &&& (31 : Int32)) = 5
                · replace h := o_ip hc66 h
                  refine z_tableIn (tgt := 331) dL_law_39 (off := 292) (by rw [hc66]; decide) (by rw [hc66]; decide) (by rw [hc66]; rfl) (by decide) ?_
                  refine z_aload_n dL_law_331 1 rfl ?_
                  refine z_aload_n dL_law_332 0 rfl ?_
                  refine z_iload dL_law_333 4 rfl ?_
                  refine z_iconst (v := 1) dL_law_335 (by decide) ?_
                  refine z_iadd dL_law_336 ?_
                  obtain ⟨g67, h⟩ := o_gd h
                  replace h := o_dd h
                  refine zl_sld g67 dL_law_337 ?_
                  refine z_aload_n dL_law_338 0 rfl ?_
                  refine z_iload dL_law_339 4 rfl ?_
                  refine z_iconst (v := 2) dL_law_341 (by decide) ?_
                  refine z_iadd dL_law_342 ?_
                  obtain ⟨g69, h⟩ := o_gd h
                  replace h := o_dd h
                  refine zl_sld g69 dL_law_343 ?_
                  refine z_aload_n dL_law_344 3 rfl ?_
                  obtain ⟨x73, s71, e72, h⟩ := o_bdi h
                  refine z_callWi (As := [.ref _, .int _, .int _, .ref _]) (e_L_repair e72) (by decide) mi_L_repair ml_L_100 rfl rfl (Nat.le_of_ble_eq_true rfl) dL_law_345 ?_
                  refine z_istore (L' := [(5, .int _), (0, .ref _), (1, .ref _), (2, .ref _), (3, .ref _), (4, .int _)]) dL_law_348 (by decide) rfl ?_
                  refine z_aload_n dL_law_350 3 rfl ?_
                  refine z_aload_n dL_law_351 1 rfl ?_
                  refine z_iload dL_law_352 5 rfl ?_
                  refine z_iconst (v := 1) dL_law_354 (by decide) ?_
                  refine z_iadd dL_law_355 ?_
                  obtain ⟨g74, h⟩ := o_gd h
                  replace h := o_dd h
                  refine zl_sld g74 dL_law_356 ?_
                  refine z_aload_n dL_law_357 1 rfl ?_
                  refine z_iload dL_law_358 5 rfl ?_
                  refine z_iconst (v := 2) dL_law_360 (by decide) ?_
                  refine z_iadd dL_law_361 ?_
                  obtain ⟨g76, h⟩ := o_gd h
                  replace h := o_dd h
                  refine zl_sld g76 dL_law_362 ?_
                  obtain ⟨x80, s78, e79, h⟩ := o_bdi h
                  refine z_callVi (As := [.int _, .int _]) (e_X7_repair_ e79) (by decide) mi_X7_repair_ ml_L_103 rfl rfl (Nat.le_of_ble_eq_true rfl) rv_6 dL_law_363 ?_
                  refine z_istore (L' := [(6, .int _), (5, .int _), (0, .ref _), (1, .ref _), (2, .ref _), (3, .ref _), (4, .int _)]) dL_law_366 (by decide) rfl ?_
                  refine z_aload_n dL_law_368 4 rfl ?_
                  obtain ⟨x83, s81, e82, h⟩ := o_bdi h
                  refine z_callVi (As := []) (e_X7_thrown e82) (by decide) mi_X7_thrown ml_L_80 rfl rfl (Nat.le_of_ble_eq_true rfl) rv_6 dL_law_369 ?_
                  refine z_iload dL_law_372 1 rfl ?_
                  refine z_icmp_eq (tgt := 379) dL_law_374 (by decide) (fun hc84 => ?_) (fun hc84 => ?_)
                  · replace h := o_ip hc84 h
                    refine z_iload dL_law_379 1 rfl ?_
                    refine z_if_ne (tgt := 396) dL_law_381 (by decide) (fun hc85 => ?_) (fun hc85 => ?_)
                    · replace h := o_in hc85 h
                      refine z_goto (tgt := 1369) dL_law_396 (by decide) ?_
                      refine z_iinc (v := _ + 4) (L' := [(4, .int _), (6, .int _), (5, .int _), (0, .ref _), (1, .ref _), (2, .ref _), (3, .ref _)]) dL_law_1369 6 rfl rfl (by decide) rfl ?_
                      refine z_goto (tgt := 23) dL_law_1372 (by decide) ?_
                      exact o_Z.sub [3, 4, 5, 6, 0] rfl (ih _ _ h)
                    · replace h := o_ip hc85 h
                      refine z_aload_n dL_law_384 5 rfl ?_
                      refine z_iconst (v := 0) dL_law_385 (by decide) ?_
                      refine za_outL (by decide) dL_law_386 ?_
                      refine z_iload dL_law_387 0 rfl ?_
                      refine z_i2l dL_law_389 ?_
                      refine z_lcmp dL_law_390 ?_
                      refine z_if_eq (tgt := 396) dL_law_391 (by decide) (fun hc86 => ?_) (fun hc86 => ?_)
                      · replace h := o_ip hc86 h
                        refine z_goto (tgt := 1369) dL_law_396 (by decide) ?_
                        refine z_iinc (v := _ + 4) (L' := [(4, .int _), (6, .int _), (5, .int _), (0, .ref _), (1, .ref _), (2, .ref _), (3, .ref _)]) dL_law_1369 6 rfl rfl (by decide) rfl ?_
                        refine z_goto (tgt := 23) dL_law_1372 (by decide) ?_
                        exact o_Z.sub [3, 4, 5, 6, 0] rfl (ih _ _ h)
                      · replace h := o_in hc86 h
                        refine z_iconst (v := 0) dL_law_394 (by decide) ?_
                        exact (o_n01 h).elim
                  · replace h := o_in hc84 h
                    refine z_iconst (v := 0) dL_law_377 (by decide) ?_
                    exact (o_n01 h).elim
                · replace h := o_in hc66 h
                  by_cases hc87 : (xs (Int32.toNatClampNeg l4) &&& (31 : Int32)) = 6
                  · replace h := o_ip hc87 h
                    refine z_tableIn (tgt := 399) dL_law_39 (off := 360) (by rw [hc87]; decide) (by rw [hc87]; decide) (by rw [hc87]; rfl) (by decide) ?_
                    refine z_aload_n dL_law_399 1 rfl ?_
                    obtain ⟨x90, s88, e89, h⟩ := o_bdi h
                    refine z_callVi (As := []) (e_X6_nodeCount e89) (by decide) mi_X6_nodeCount ml_L_104 rfl rfl (Nat.le_of_ble_eq_true rfl) rv_0 dL_law_400 ?_
                    refine z_aload_n dL_law_403 2 rfl ?_
                    obtain ⟨x93, s91, e92, h⟩ := o_bdi h
                    refine z_callVi (As := []) (e_X7_nodeCount e92) (by decide) mi_X7_nodeCount ml_L_107 rfl rfl (Nat.le_of_ble_eq_true rfl) rv_6 dL_law_404 ?_
                    refine z_icmp_eq (tgt := 1369) dL_law_407 (by decide) (fun hc94 => ?_) (fun hc94 => ?_)
                    · replace h := o_ip hc94 h
                      refine z_iinc (v := _ + 4) (L' := [(4, .int _), (0, .ref _), (1, .ref _), (2, .ref _), (3, .ref _)]) dL_law_1369 4 rfl rfl (by decide) rfl ?_
                      refine z_goto (tgt := 23) dL_law_1372 (by decide) ?_
                      exact o_Z.sub [1, 2, 3, 4, 0] rfl (ih _ _ h)
                    · replace h := o_in hc94 h
                      refine z_iconst (v := 0) dL_law_410 (by decide) ?_
                      exact (o_n01 h).elim
                  · replace h := o_in hc87 h
                    by_cases hc95 : (xs (Int32.toNatClampNeg l4) &&& (31 : Int32)) = 7
                    · replace h := o_ip hc95 h
                      refine z_tableIn (tgt := 412) dL_law_39 (off := 373) (by rw [hc95]; decide) (by rw [hc95]; decide) (by rw [hc95]; rfl) (by decide) ?_
                      refine z_aload_n dL_law_412 1 rfl ?_
                      refine z_aload_n dL_law_413 0 rfl ?_
                      refine z_iload dL_law_414 4 rfl ?_
                      refine z_iconst (v := 1) dL_law_416 (by decide) ?_
                      refine z_iadd dL_law_417 ?_
                      obtain ⟨g96, h⟩ := o_gd h
                      replace h := o_dd h
                      refine zl_sld g96 dL_law_418 ?_
                      refine z_aload_n dL_law_419 3 rfl ?_
                      obtain ⟨x100, s98, e99, h⟩ := o_bdi h
                      refine z_callWi (As := [.ref _, .int _, .ref _]) (e_L_kind e99) (by decide) mi_L_kind ml_L_108 rfl rfl (Nat.le_of_ble_eq_true rfl) dL_law_420 ?_
                      refine z_istore (L' := [(5, .int _), (0, .ref _), (1, .ref _), (2, .ref _), (3, .ref _), (4, .int _)]) dL_law_423 (by decide) rfl ?_
                      refine z_aload_n dL_law_425 3 rfl ?_
                      refine z_aload_n dL_law_426 1 rfl ?_
                      refine z_iload dL_law_427 5 rfl ?_
                      refine z_iconst (v := 1) dL_law_429 (by decide) ?_
                      refine z_iadd dL_law_430 ?_
                      obtain ⟨g101, h⟩ := o_gd h
                      replace h := o_dd h
                      refine zl_sld g101 dL_law_431 ?_
                      obtain ⟨x105, s103, e104, h⟩ := o_bdi h
                      refine z_callVi (As := [.int _]) (e_X7_kind e104) (by decide) mi_X7_kind ml_L_110 rfl rfl (Nat.le_of_ble_eq_true rfl) rv_6 dL_law_432 ?_
                      refine z_istore (L' := [(6, .int _), (5, .int _), (0, .ref _), (1, .ref _), (2, .ref _), (3, .ref _), (4, .int _)]) dL_law_435 (by decide) rfl ?_
                      refine z_aload_n dL_law_437 4 rfl ?_
                      obtain ⟨x108, s106, e107, h⟩ := o_bdi h
                      refine z_callVi (As := []) (e_X7_thrown e107) (by decide) mi_X7_thrown ml_L_80 rfl rfl (Nat.le_of_ble_eq_true rfl) rv_6 dL_law_438 ?_
                      refine z_iload dL_law_441 1 rfl ?_
                      refine z_icmp_eq (tgt := 448) dL_law_443 (by decide) (fun hc109 => ?_) (fun hc109 => ?_)
                      · replace h := o_ip hc109 h
                        refine z_iload dL_law_448 1 rfl ?_
                        refine z_if_ne (tgt := 465) dL_law_450 (by decide) (fun hc110 => ?_) (fun hc110 => ?_)
                        · replace h := o_in hc110 h
                          refine z_goto (tgt := 1369) dL_law_465 (by decide) ?_
                          refine z_iinc (v := _ + 4) (L' := [(4, .int _), (6, .int _), (5, .int _), (0, .ref _), (1, .ref _), (2, .ref _), (3, .ref _)]) dL_law_1369 6 rfl rfl (by decide) rfl ?_
                          refine z_goto (tgt := 23) dL_law_1372 (by decide) ?_
                          exact o_Z.sub [3, 4, 5, 6, 0] rfl (ih _ _ h)
                        · replace h := o_ip hc110 h
                          refine z_aload_n dL_law_453 5 rfl ?_
                          refine z_iconst (v := 0) dL_law_454 (by decide) ?_
                          refine za_outL (by decide) dL_law_455 ?_
                          refine z_iload dL_law_456 0 rfl ?_
                          refine z_i2l dL_law_458 ?_
                          refine z_lcmp dL_law_459 ?_
                          refine z_if_eq (tgt := 465) dL_law_460 (by decide) (fun hc111 => ?_) (fun hc111 => ?_)
                          · replace h := o_ip hc111 h
                            refine z_goto (tgt := 1369) dL_law_465 (by decide) ?_
                            refine z_iinc (v := _ + 4) (L' := [(4, .int _), (6, .int _), (5, .int _), (0, .ref _), (1, .ref _), (2, .ref _), (3, .ref _)]) dL_law_1369 6 rfl rfl (by decide) rfl ?_
                            refine z_goto (tgt := 23) dL_law_1372 (by decide) ?_
                            exact o_Z.sub [3, 4, 5, 6, 0] rfl (ih _ _ h)
                          · replace h := o_in hc111 h
                            refine z_iconst (v := 0) dL_law_463 (by decide) ?_
                            exact (o_n01 h).elim
                      · replace h := o_in hc109 h
                        refine z_iconst (v := 0) dL_law_446 (by decide) ?_
                        exact (o_n01 h).elim
                    · replace h := o_in hc95 h
                      by_cases hc112 : (xs (Int32.toNatClampNeg l4) &&& (31 : Int32)) = 8
                      · replace h := o_ip hc112 h
                        refine z_tableIn (tgt := 468) dL_law_39 (off := 429) (by rw [hc112]; decide) (by rw [hc112]; decide) (by rw [hc112]; rfl) (by decide) ?_
                        refine z_aload_n dL_law_468 1 rfl ?_
                        refine z_aload_n dL_law_469 0 rfl ?_
                        refine z_iload dL_law_470 4 rfl ?_
                        refine z_iconst (v := 1) dL_law_472 (by decide) ?_
                        refine z_iadd dL_law_473 ?_
                        obtain ⟨g113, h⟩ := o_gd h
                        replace h := o_dd h
                        refine zl_sld g113 dL_law_474 ?_
                        refine z_aload_n dL_law_475 3 rfl ?_
                        obtain ⟨x117, s115, e116, h⟩ := o_bdi h
                        refine z_callWi (As := [.ref _, .int _, .ref _]) (e_L_parent e116) (by decide) mi_L_parent ml_L_111 rfl rfl (Nat.le_of_ble_eq_true rfl) dL_law_476 ?_
                        refine z_istore (L' := [(5, .int _), (0, .ref _), (1, .ref _), (2, .ref _), (3, .ref _), (4, .int _)]) dL_law_479 (by decide) rfl ?_
                        refine z_aload_n dL_law_481 3 rfl ?_
                        refine z_aload_n dL_law_482 1 rfl ?_
                        refine z_iload dL_law_483 5 rfl ?_
                        refine z_iconst (v := 1) dL_law_485 (by decide) ?_
                        refine z_iadd dL_law_486 ?_
                        obtain ⟨g118, h⟩ := o_gd h
                        replace h := o_dd h
                        refine zl_sld g118 dL_law_487 ?_
                        obtain ⟨x122, s120, e121, h⟩ := o_bdi h
                        refine z_callVi (As := [.int _]) (e_X7_parent e121) (by decide) mi_X7_parent ml_L_113 rfl rfl (Nat.le_of_ble_eq_true rfl) rv_6 dL_law_488 ?_
                        refine z_istore (L' := [(6, .int _), (5, .int _), (0, .ref _), (1, .ref _), (2, .ref _), (3, .ref _), (4, .int _)]) dL_law_491 (by decide) rfl ?_
                        refine z_aload_n dL_law_493 4 rfl ?_
                        obtain ⟨x125, s123, e124, h⟩ := o_bdi h
                        refine z_callVi (As := []) (e_X7_thrown e124) (by decide) mi_X7_thrown ml_L_80 rfl rfl (Nat.le_of_ble_eq_true rfl) rv_6 dL_law_494 ?_
                        refine z_iload dL_law_497 1 rfl ?_
                        refine z_icmp_eq (tgt := 504) dL_law_499 (by decide) (fun hc126 => ?_) (fun hc126 => ?_)
                        · replace h := o_ip hc126 h
                          refine z_iload dL_law_504 1 rfl ?_
                          refine z_if_ne (tgt := 521) dL_law_506 (by decide) (fun hc127 => ?_) (fun hc127 => ?_)
                          · replace h := o_in hc127 h
                            refine z_goto (tgt := 1369) dL_law_521 (by decide) ?_
                            refine z_iinc (v := _ + 4) (L' := [(4, .int _), (6, .int _), (5, .int _), (0, .ref _), (1, .ref _), (2, .ref _), (3, .ref _)]) dL_law_1369 6 rfl rfl (by decide) rfl ?_
                            refine z_goto (tgt := 23) dL_law_1372 (by decide) ?_
                            exact o_Z.sub [3, 4, 5, 6, 0] rfl (ih _ _ h)
                          · replace h := o_ip hc127 h
                            refine z_aload_n dL_law_509 5 rfl ?_
                            refine z_iconst (v := 0) dL_law_510 (by decide) ?_
                            refine za_outL (by decide) dL_law_511 ?_
                            refine z_iload dL_law_512 0 rfl ?_
                            refine z_i2l dL_law_514 ?_
                            refine z_lcmp dL_law_515 ?_
                            refine z_if_eq (tgt := 521) dL_law_516 (by decide) (fun hc128 => ?_) (fun hc128 => ?_)
                            · replace h := o_ip hc128 h
                              refine z_goto (tgt := 1369) dL_law_521 (by decide) ?_
                              refine z_iinc (v := _ + 4) (L' := [(4, .int _), (6, .int _), (5, .int _), (0, .ref _), (1, .ref _), (2, .ref _), (3, .ref _)]) dL_law_1369 6 rfl rfl (by decide) rfl ?_
                              refine z_goto (tgt := 23) dL_law_1372 (by decide) ?_
                              exact o_Z.sub [3, 4, 5, 6, 0] rfl (ih _ _ h)
                            · replace h := o_in hc128 h
                              refine z_iconst (v := 0) dL_law_519 (by decide) ?_
                              exact (o_n01 h).elim
                        · replace h := o_in hc126 h
                          refine z_iconst (v := 0) dL_law_502 (by decide) ?_
                          exact (o_n01 h).elim
                      · replace h := o_in hc112 h
                        by_cases hc129 : (xs (Int32.toNatClampNeg l4) &&& (31 : Int32)) = 9
                        · replace h := o_ip hc129 h
                          refine z_tableIn (tgt := 524) dL_law_39 (off := 485) (by rw [hc129]; decide) (by rw [hc129]; decide) (by rw [hc129]; rfl) (by decide) ?_
                          refine z_aload_n dL_law_524 1 rfl ?_
                          refine z_aload_n dL_law_525 0 rfl ?_
                          refine z_iload dL_law_526 4 rfl ?_
                          refine z_iconst (v := 1) dL_law_528 (by decide) ?_
                          refine z_iadd dL_law_529 ?_
                          obtain ⟨g130, h⟩ := o_gd h
                          replace h := o_dd h
                          refine zl_sld g130 dL_law_530 ?_
                          refine z_aload_n dL_law_531 3 rfl ?_
                          obtain ⟨x134, s132, e133, h⟩ := o_bdi h
                          refine z_callWi (As := [.ref _, .int _, .ref _]) (e_L_childCount e133) (by decide) mi_L_childCount ml_L_114 rfl rfl (Nat.le_of_ble_eq_true rfl) dL_law_532 ?_
                          refine z_istore (L' := [(5, .int _), (0, .ref _), (1, .ref _), (2, .ref _), (3, .ref _), (4, .int _)]) dL_law_535 (by decide) rfl ?_
                          refine z_aload_n dL_law_537 3 rfl ?_
                          refine z_aload_n dL_law_538 1 rfl ?_
                          refine z_iload dL_law_539 5 rfl ?_
                          refine z_iconst (v := 1) dL_law_541 (by decide) ?_
                          refine z_iadd dL_law_542 ?_
                          obtain ⟨g135, h⟩ := o_gd h
                          replace h := o_dd h
                          refine zl_sld g135 dL_law_543 ?_
                          obtain ⟨x139, s137, e138, h⟩ := o_bdi h
                          refine z_callVi (As := [.int _]) (e_X7_childCount e138) (by decide) mi_X7_childCount ml_L_116 rfl rfl (Nat.le_of_ble_eq_true rfl) rv_6 dL_law_544 ?_
                          refine z_istore (L' := [(6, .int _), (5, .int _), (0, .ref _), (1, .ref _), (2, .ref _), (3, .ref _), (4, .int _)]) dL_law_547 (by decide) rfl ?_
                          refine z_aload_n dL_law_549 4 rfl ?_
                          obtain ⟨x142, s140, e141, h⟩ := o_bdi h
                          refine z_callVi (As := []) (e_X7_thrown e141) (by decide) mi_X7_thrown ml_L_80 rfl rfl (Nat.le_of_ble_eq_true rfl) rv_6 dL_law_550 ?_
                          refine z_iload dL_law_553 1 rfl ?_
                          refine z_icmp_eq (tgt := 560) dL_law_555 (by decide) (fun hc143 => ?_) (fun hc143 => ?_)
                          · replace h := o_ip hc143 h
                            refine z_iload dL_law_560 1 rfl ?_
                            refine z_if_ne (tgt := 577) dL_law_562 (by decide) (fun hc144 => ?_) (fun hc144 => ?_)
                            · replace h := o_in hc144 h
                              refine z_goto (tgt := 1369) dL_law_577 (by decide) ?_
                              refine z_iinc (v := _ + 4) (L' := [(4, .int _), (6, .int _), (5, .int _), (0, .ref _), (1, .ref _), (2, .ref _), (3, .ref _)]) dL_law_1369 6 rfl rfl (by decide) rfl ?_
                              refine z_goto (tgt := 23) dL_law_1372 (by decide) ?_
                              exact o_Z.sub [3, 4, 5, 6, 0] rfl (ih _ _ h)
                            · replace h := o_ip hc144 h
                              refine z_aload_n dL_law_565 5 rfl ?_
                              refine z_iconst (v := 0) dL_law_566 (by decide) ?_
                              refine za_outL (by decide) dL_law_567 ?_
                              refine z_iload dL_law_568 0 rfl ?_
                              refine z_i2l dL_law_570 ?_
                              refine z_lcmp dL_law_571 ?_
                              refine z_if_eq (tgt := 577) dL_law_572 (by decide) (fun hc145 => ?_) (fun hc145 => ?_)
                              · replace h := o_ip hc145 h
                                refine z_goto (tgt := 1369) dL_law_577 (by decide) ?_
                                refine z_iinc (v := _ + 4) (L' := [(4, .int _), (6, .int _), (5, .int _), (0, .ref _), (1, .ref _), (2, .ref _), (3, .ref _)]) dL_law_1369 6 rfl rfl (by decide) rfl ?_
                                refine z_goto (tgt := 23) dL_law_1372 (by decide) ?_
                                exact o_Z.sub [3, 4, 5, 6, 0] rfl (ih _ _ h)
                              · replace h := o_in hc145 h
                                refine z_iconst (v := 0) dL_law_575 (by decide) ?_
                                exact (o_n01 h).elim
                          · replace h := o_in hc143 h
                            refine z_iconst (v := 0) dL_law_558 (by decide) ?_
                            exact (o_n01 h).elim
                        · replace h := o_in hc129 h
                          by_cases hc146 : (xs (Int32.toNatClampNeg l4) &&& (31 : Int32)) = 10
                          · replace h := o_ip hc146 h
                            refine z_tableIn (tgt := 580) dL_law_39 (off := 541) (by rw [hc146]; decide) (by rw [hc146]; decide) (by rw [hc146]; rfl) (by decide) ?_
                            refine z_aload_n dL_law_580 1 rfl ?_
                            refine z_aload_n dL_law_581 0 rfl ?_
                            refine z_iload dL_law_582 4 rfl ?_
                            refine z_iconst (v := 1) dL_law_584 (by decide) ?_
                            refine z_iadd dL_law_585 ?_
                            obtain ⟨g147, h⟩ := o_gd h
                            replace h := o_dd h
                            refine zl_sld g147 dL_law_586 ?_
                            refine z_aload_n dL_law_587 0 rfl ?_
                            refine z_iload dL_law_588 4 rfl ?_
                            refine z_iconst (v := 2) dL_law_590 (by decide) ?_
                            refine z_iadd dL_law_591 ?_
                            obtain ⟨g149, h⟩ := o_gd h
                            replace h := o_dd h
                            refine zl_sld g149 dL_law_592 ?_
                            refine z_aload_n dL_law_593 3 rfl ?_
                            obtain ⟨x153, s151, e152, h⟩ := o_bdi h
                            refine z_callWi (As := [.ref _, .int _, .int _, .ref _]) (e_L_child e152) (by decide) mi_L_child ml_L_117 rfl rfl (Nat.le_of_ble_eq_true rfl) dL_law_594 ?_
                            refine z_istore (L' := [(5, .int _), (0, .ref _), (1, .ref _), (2, .ref _), (3, .ref _), (4, .int _)]) dL_law_597 (by decide) rfl ?_
                            refine z_aload_n dL_law_599 3 rfl ?_
                            refine z_aload_n dL_law_600 1 rfl ?_
                            refine z_iload dL_law_601 5 rfl ?_
                            refine z_iconst (v := 1) dL_law_603 (by decide) ?_
                            refine z_iadd dL_law_604 ?_
                            obtain ⟨g154, h⟩ := o_gd h
                            replace h := o_dd h
                            refine zl_sld g154 dL_law_605 ?_
                            refine z_aload_n dL_law_606 1 rfl ?_
                            refine z_iload dL_law_607 5 rfl ?_
                            refine z_iconst (v := 2) dL_law_609 (by decide) ?_
                            refine z_iadd dL_law_610 ?_
                            obtain ⟨g156, h⟩ := o_gd h
                            replace h := o_dd h
                            refine zl_sld g156 dL_law_611 ?_
                            obtain ⟨x160, s158, e159, h⟩ := o_bdi h
                            refine z_callVi (As := [.int _, .int _]) (e_X7_child e159) (by decide) mi_X7_child ml_L_119 rfl rfl (Nat.le_of_ble_eq_true rfl) rv_6 dL_law_612 ?_
                            refine z_istore (L' := [(6, .int _), (5, .int _), (0, .ref _), (1, .ref _), (2, .ref _), (3, .ref _), (4, .int _)]) dL_law_615 (by decide) rfl ?_
                            refine z_aload_n dL_law_617 4 rfl ?_
                            obtain ⟨x163, s161, e162, h⟩ := o_bdi h
                            refine z_callVi (As := []) (e_X7_thrown e162) (by decide) mi_X7_thrown ml_L_80 rfl rfl (Nat.le_of_ble_eq_true rfl) rv_6 dL_law_618 ?_
                            refine z_iload dL_law_621 1 rfl ?_
                            refine z_icmp_eq (tgt := 628) dL_law_623 (by decide) (fun hc164 => ?_) (fun hc164 => ?_)
                            · replace h := o_ip hc164 h
                              refine z_iload dL_law_628 1 rfl ?_
                              refine z_if_ne (tgt := 645) dL_law_630 (by decide) (fun hc165 => ?_) (fun hc165 => ?_)
                              · replace h := o_in hc165 h
                                refine z_goto (tgt := 1369) dL_law_645 (by decide) ?_
                                refine z_iinc (v := _ + 4) (L' := [(4, .int _), (6, .int _), (5, .int _), (0, .ref _), (1, .ref _), (2, .ref _), (3, .ref _)]) dL_law_1369 6 rfl rfl (by decide) rfl ?_
                                refine z_goto (tgt := 23) dL_law_1372 (by decide) ?_
                                exact o_Z.sub [3, 4, 5, 6, 0] rfl (ih _ _ h)
                              · replace h := o_ip hc165 h
                                refine z_aload_n dL_law_633 5 rfl ?_
                                refine z_iconst (v := 0) dL_law_634 (by decide) ?_
                                refine za_outL (by decide) dL_law_635 ?_
                                refine z_iload dL_law_636 0 rfl ?_
                                refine z_i2l dL_law_638 ?_
                                refine z_lcmp dL_law_639 ?_
                                refine z_if_eq (tgt := 645) dL_law_640 (by decide) (fun hc166 => ?_) (fun hc166 => ?_)
                                · replace h := o_ip hc166 h
                                  refine z_goto (tgt := 1369) dL_law_645 (by decide) ?_
                                  refine z_iinc (v := _ + 4) (L' := [(4, .int _), (6, .int _), (5, .int _), (0, .ref _), (1, .ref _), (2, .ref _), (3, .ref _)]) dL_law_1369 6 rfl rfl (by decide) rfl ?_
                                  refine z_goto (tgt := 23) dL_law_1372 (by decide) ?_
                                  exact o_Z.sub [3, 4, 5, 6, 0] rfl (ih _ _ h)
                                · replace h := o_in hc166 h
                                  refine z_iconst (v := 0) dL_law_643 (by decide) ?_
                                  exact (o_n01 h).elim
                            · replace h := o_in hc164 h
                              refine z_iconst (v := 0) dL_law_626 (by decide) ?_
                              exact (o_n01 h).elim
                          · replace h := o_in hc146 h
                            by_cases hc167 : (xs (Int32.toNatClampNeg l4) &&& (31 : Int32)) = 11
                            · replace h := o_ip hc167 h
                              refine z_tableIn (tgt := 648) dL_law_39 (off := 609) (by rw [hc167]; decide) (by rw [hc167]; decide) (by rw [hc167]; rfl) (by decide) ?_
                              refine z_aload_n dL_law_648 1 rfl ?_
                              refine z_aload_n dL_law_649 0 rfl ?_
                              refine z_iload dL_law_650 4 rfl ?_
                              refine z_iconst (v := 1) dL_law_652 (by decide) ?_
                              refine z_iadd dL_law_653 ?_
                              obtain ⟨g168, h⟩ := o_gd h
                              replace h := o_dd h
                              refine zl_sld g168 dL_law_654 ?_
                              refine z_aload_n dL_law_655 3 rfl ?_
                              obtain ⟨x172, s170, e171, h⟩ := o_bdi h
                              refine z_callWi (As := [.ref _, .int _, .ref _]) (e_L_line e171) (by decide) mi_L_line ml_L_120 rfl rfl (Nat.le_of_ble_eq_true rfl) dL_law_656 ?_
                              refine z_istore (L' := [(5, .int _), (0, .ref _), (1, .ref _), (2, .ref _), (3, .ref _), (4, .int _)]) dL_law_659 (by decide) rfl ?_
                              refine z_aload_n dL_law_661 3 rfl ?_
                              refine z_aload_n dL_law_662 1 rfl ?_
                              refine z_iload dL_law_663 5 rfl ?_
                              refine z_iconst (v := 1) dL_law_665 (by decide) ?_
                              refine z_iadd dL_law_666 ?_
                              obtain ⟨g173, h⟩ := o_gd h
                              replace h := o_dd h
                              refine zl_sld g173 dL_law_667 ?_
                              obtain ⟨x177, s175, e176, h⟩ := o_bdi h
                              refine z_callVi (As := [.int _]) (e_X7_line e176) (by decide) mi_X7_line ml_L_122 rfl rfl (Nat.le_of_ble_eq_true rfl) rv_6 dL_law_668 ?_
                              refine z_istore (L' := [(6, .int _), (5, .int _), (0, .ref _), (1, .ref _), (2, .ref _), (3, .ref _), (4, .int _)]) dL_law_671 (by decide) rfl ?_
                              refine z_aload_n dL_law_673 4 rfl ?_
                              obtain ⟨x180, s178, e179, h⟩ := o_bdi h
                              refine z_callVi (As := []) (e_X7_thrown e179) (by decide) mi_X7_thrown ml_L_80 rfl rfl (Nat.le_of_ble_eq_true rfl) rv_6 dL_law_674 ?_
                              refine z_iload dL_law_677 1 rfl ?_
                              refine z_icmp_eq (tgt := 684) dL_law_679 (by decide) (fun hc181 => ?_) (fun hc181 => ?_)
                              · replace h := o_ip hc181 h
                                refine z_iload dL_law_684 1 rfl ?_
                                refine z_if_ne (tgt := 701) dL_law_686 (by decide) (fun hc182 => ?_) (fun hc182 => ?_)
                                · replace h := o_in hc182 h
                                  refine z_goto (tgt := 1369) dL_law_701 (by decide) ?_
                                  refine z_iinc (v := _ + 4) (L' := [(4, .int _), (6, .int _), (5, .int _), (0, .ref _), (1, .ref _), (2, .ref _), (3, .ref _)]) dL_law_1369 6 rfl rfl (by decide) rfl ?_
                                  refine z_goto (tgt := 23) dL_law_1372 (by decide) ?_
                                  exact o_Z.sub [3, 4, 5, 6, 0] rfl (ih _ _ h)
                                · replace h := o_ip hc182 h
                                  refine z_aload_n dL_law_689 5 rfl ?_
                                  refine z_iconst (v := 0) dL_law_690 (by decide) ?_
                                  refine za_outL (by decide) dL_law_691 ?_
                                  refine z_iload dL_law_692 0 rfl ?_
                                  refine z_i2l dL_law_694 ?_
                                  refine z_lcmp dL_law_695 ?_
                                  refine z_if_eq (tgt := 701) dL_law_696 (by decide) (fun hc183 => ?_) (fun hc183 => ?_)
                                  · replace h := o_ip hc183 h
                                    refine z_goto (tgt := 1369) dL_law_701 (by decide) ?_
                                    refine z_iinc (v := _ + 4) (L' := [(4, .int _), (6, .int _), (5, .int _), (0, .ref _), (1, .ref _), (2, .ref _), (3, .ref _)]) dL_law_1369 6 rfl rfl (by decide) rfl ?_
                                    refine z_goto (tgt := 23) dL_law_1372 (by decide) ?_
                                    exact o_Z.sub [3, 4, 5, 6, 0] rfl (ih _ _ h)
                                  · replace h := o_in hc183 h
                                    refine z_iconst (v := 0) dL_law_699 (by decide) ?_
                                    exact (o_n01 h).elim
                              · replace h := o_in hc181 h
                                refine z_iconst (v := 0) dL_law_682 (by decide) ?_
                                exact (o_n01 h).elim
                            · replace h := o_in hc167 h
                              by_cases hc184 : (xs (Int32.toNatClampNeg l4) &&& (31 : Int32)) = 12
                              · replace h := o_ip hc184 h
                                refine z_tableIn (tgt := 704) dL_law_39 (off := 665) (by rw [hc184]; decide) (by rw [hc184]; decide) (by rw [hc184]; rfl) (by decide) ?_
                                refine z_aload_n dL_law_704 1 rfl ?_
                                refine z_aload_n dL_law_705 0 rfl ?_
                                refine z_iload dL_law_706 4 rfl ?_
                                refine z_iconst (v := 1) dL_law_708 (by decide) ?_
                                refine z_iadd dL_law_709 ?_
                                obtain ⟨g185, h⟩ := o_gd h
                                replace h := o_dd h
                                refine zl_sld g185 dL_law_710 ?_
                                refine z_aload_n dL_law_711 3 rfl ?_
                                obtain ⟨x189, s187, e188, h⟩ := o_bdi h
                                refine z_callWi (As := [.ref _, .int _, .ref _]) (e_L_column e188) (by decide) mi_L_column ml_L_123 rfl rfl (Nat.le_of_ble_eq_true rfl) dL_law_712 ?_
                                refine z_istore (L' := [(5, .int _), (0, .ref _), (1, .ref _), (2, .ref _), (3, .ref _), (4, .int _)]) dL_law_715 (by decide) rfl ?_
                                refine z_aload_n dL_law_717 3 rfl ?_
                                refine z_aload_n dL_law_718 1 rfl ?_
                                refine z_iload dL_law_719 5 rfl ?_
                                refine z_iconst (v := 1) dL_law_721 (by decide) ?_
                                refine z_iadd dL_law_722 ?_
                                obtain ⟨g190, h⟩ := o_gd h
                                replace h := o_dd h
                                refine zl_sld g190 dL_law_723 ?_
                                obtain ⟨x194, s192, e193, h⟩ := o_bdi h
                                refine z_callVi (As := [.int _]) (e_X7_column e193) (by decide) mi_X7_column ml_L_125 rfl rfl (Nat.le_of_ble_eq_true rfl) rv_6 dL_law_724 ?_
                                refine z_istore (L' := [(6, .int _), (5, .int _), (0, .ref _), (1, .ref _), (2, .ref _), (3, .ref _), (4, .int _)]) dL_law_727 (by decide) rfl ?_
                                refine z_aload_n dL_law_729 4 rfl ?_
                                obtain ⟨x197, s195, e196, h⟩ := o_bdi h
                                refine z_callVi (As := []) (e_X7_thrown e196) (by decide) mi_X7_thrown ml_L_80 rfl rfl (Nat.le_of_ble_eq_true rfl) rv_6 dL_law_730 ?_
                                refine z_iload dL_law_733 1 rfl ?_
                                refine z_icmp_eq (tgt := 740) dL_law_735 (by decide) (fun hc198 => ?_) (fun hc198 => ?_)
                                · replace h := o_ip hc198 h
                                  refine z_iload dL_law_740 1 rfl ?_
                                  refine z_if_ne (tgt := 757) dL_law_742 (by decide) (fun hc199 => ?_) (fun hc199 => ?_)
                                  · replace h := o_in hc199 h
                                    refine z_goto (tgt := 1369) dL_law_757 (by decide) ?_
                                    refine z_iinc (v := _ + 4) (L' := [(4, .int _), (6, .int _), (5, .int _), (0, .ref _), (1, .ref _), (2, .ref _), (3, .ref _)]) dL_law_1369 6 rfl rfl (by decide) rfl ?_
                                    refine z_goto (tgt := 23) dL_law_1372 (by decide) ?_
                                    exact o_Z.sub [3, 4, 5, 6, 0] rfl (ih _ _ h)
                                  · replace h := o_ip hc199 h
                                    refine z_aload_n dL_law_745 5 rfl ?_
                                    refine z_iconst (v := 0) dL_law_746 (by decide) ?_
                                    refine za_outL (by decide) dL_law_747 ?_
                                    refine z_iload dL_law_748 0 rfl ?_
                                    refine z_i2l dL_law_750 ?_
                                    refine z_lcmp dL_law_751 ?_
                                    refine z_if_eq (tgt := 757) dL_law_752 (by decide) (fun hc200 => ?_) (fun hc200 => ?_)
                                    · replace h := o_ip hc200 h
                                      refine z_goto (tgt := 1369) dL_law_757 (by decide) ?_
                                      refine z_iinc (v := _ + 4) (L' := [(4, .int _), (6, .int _), (5, .int _), (0, .ref _), (1, .ref _), (2, .ref _), (3, .ref _)]) dL_law_1369 6 rfl rfl (by decide) rfl ?_
                                      refine z_goto (tgt := 23) dL_law_1372 (by decide) ?_
                                      exact o_Z.sub [3, 4, 5, 6, 0] rfl (ih _ _ h)
                                    · replace h := o_in hc200 h
                                      refine z_iconst (v := 0) dL_law_755 (by decide) ?_
                                      exact (o_n01 h).elim
                                · replace h := o_in hc198 h
                                  refine z_iconst (v := 0) dL_law_738 (by decide) ?_
                                  exact (o_n01 h).elim
                              · replace h := o_in hc184 h
                                by_cases hc201 : (xs (Int32.toNatClampNeg l4) &&& (31 : Int32)) = 13
                                · replace h := o_ip hc201 h
                                  refine z_tableIn (tgt := 760) dL_law_39 (off := 721) (by rw [hc201]; decide) (by rw [hc201]; decide) (by rw [hc201]; rfl) (by decide) ?_
                                  refine z_aload_n dL_law_760 1 rfl ?_
                                  refine z_aload_n dL_law_761 0 rfl ?_
                                  refine z_iload dL_law_762 4 rfl ?_
                                  refine z_iconst (v := 1) dL_law_764 (by decide) ?_
                                  refine z_iadd dL_law_765 ?_
                                  obtain ⟨g202, h⟩ := o_gd h
                                  replace h := o_dd h
                                  refine zl_sld g202 dL_law_766 ?_
                                  refine z_aload_n dL_law_767 3 rfl ?_
                                  obtain ⟨x206, s204, e205, h⟩ := o_bdi h
                                  refine z_callWi (As := [.ref _, .int _, .ref _]) (e_L_value e205) (by decide) mi_L_value ml_L_126 rfl rfl (Nat.le_of_ble_eq_true rfl) dL_law_768 ?_
                                  refine z_istore (L' := [(5, .int _), (0, .ref _), (1, .ref _), (2, .ref _), (3, .ref _), (4, .int _)]) dL_law_771 (by decide) rfl ?_
                                  refine z_aload_n dL_law_773 3 rfl ?_
                                  refine z_aload_n dL_law_774 1 rfl ?_
                                  refine z_iload dL_law_775 5 rfl ?_
                                  refine z_iconst (v := 1) dL_law_777 (by decide) ?_
                                  refine z_iadd dL_law_778 ?_
                                  obtain ⟨g207, h⟩ := o_gd h
                                  replace h := o_dd h
                                  refine zl_sld g207 dL_law_779 ?_
                                  obtain ⟨x211, s209, e210, h⟩ := o_bdi h
                                  refine z_callVi (As := [.int _]) (e_X7_value e210) (by decide) mi_X7_value ml_L_128 rfl rfl (Nat.le_of_ble_eq_true rfl) rv_6 dL_law_780 ?_
                                  refine z_istore (L' := [(6, .int _), (5, .int _), (0, .ref _), (1, .ref _), (2, .ref _), (3, .ref _), (4, .int _)]) dL_law_783 (by decide) rfl ?_
                                  refine z_aload_n dL_law_785 4 rfl ?_
                                  obtain ⟨x214, s212, e213, h⟩ := o_bdi h
                                  refine z_callVi (As := []) (e_X7_thrown e213) (by decide) mi_X7_thrown ml_L_80 rfl rfl (Nat.le_of_ble_eq_true rfl) rv_6 dL_law_786 ?_
                                  refine z_iload dL_law_789 1 rfl ?_
                                  refine z_icmp_eq (tgt := 796) dL_law_791 (by decide) (fun hc215 => ?_) (fun hc215 => ?_)
                                  · replace h := o_ip hc215 h
                                    refine z_iload dL_law_796 1 rfl ?_
                                    refine z_if_ne (tgt := 813) dL_law_798 (by decide) (fun hc216 => ?_) (fun hc216 => ?_)
                                    · replace h := o_in hc216 h
                                      refine z_goto (tgt := 1369) dL_law_813 (by decide) ?_
                                      refine z_iinc (v := _ + 4) (L' := [(4, .int _), (6, .int _), (5, .int _), (0, .ref _), (1, .ref _), (2, .ref _), (3, .ref _)]) dL_law_1369 6 rfl rfl (by decide) rfl ?_
                                      refine z_goto (tgt := 23) dL_law_1372 (by decide) ?_
                                      exact o_Z.sub [3, 4, 5, 6, 0] rfl (ih _ _ h)
                                    · replace h := o_ip hc216 h
                                      refine z_aload_n dL_law_801 5 rfl ?_
                                      refine z_iconst (v := 0) dL_law_802 (by decide) ?_
                                      refine za_outL (by decide) dL_law_803 ?_
                                      refine z_iload dL_law_804 0 rfl ?_
                                      refine z_i2l dL_law_806 ?_
                                      refine z_lcmp dL_law_807 ?_
                                      refine z_if_eq (tgt := 813) dL_law_808 (by decide) (fun hc217 => ?_) (fun hc217 => ?_)
                                      · replace h := o_ip hc217 h
                                        refine z_goto (tgt := 1369) dL_law_813 (by decide) ?_
                                        refine z_iinc (v := _ + 4) (L' := [(4, .int _), (6, .int _), (5, .int _), (0, .ref _), (1, .ref _), (2, .ref _), (3, .ref _)]) dL_law_1369 6 rfl rfl (by decide) rfl ?_
                                        refine z_goto (tgt := 23) dL_law_1372 (by decide) ?_
                                        exact o_Z.sub [3, 4, 5, 6, 0] rfl (ih _ _ h)
                                      · replace h := o_in hc217 h
                                        refine z_iconst (v := 0) dL_law_811 (by decide) ?_
                                        exact (o_n01 h).elim
                                  · replace h := o_in hc215 h
                                    refine z_iconst (v := 0) dL_law_794 (by decide) ?_
                                    exact (o_n01 h).elim
                                · replace h := o_in hc201 h
                                  by_cases hc218 : (xs (Int32.toNatClampNeg l4) &&& (31 : Int32)) = 14
                                  · replace h := o_ip hc218 h
                                    refine z_tableIn (tgt := 816) dL_law_39 (off := 777) (by rw [hc218]; decide) (by rw [hc218]; decide) (by rw [hc218]; rfl) (by decide) ?_
                                    refine z_aload_n dL_law_816 1 rfl ?_
                                    refine z_aload_n dL_law_817 0 rfl ?_
                                    refine z_iload dL_law_818 4 rfl ?_
                                    refine z_iconst (v := 1) dL_law_820 (by decide) ?_
                                    refine z_iadd dL_law_821 ?_
                                    obtain ⟨g219, h⟩ := o_gd h
                                    replace h := o_dd h
                                    refine zl_sld g219 dL_law_822 ?_
                                    refine z_aload_n dL_law_823 0 rfl ?_
                                    refine z_iload dL_law_824 4 rfl ?_
                                    refine z_iconst (v := 2) dL_law_826 (by decide) ?_
                                    refine z_iadd dL_law_827 ?_
                                    obtain ⟨g221, h⟩ := o_gd h
                                    replace h := o_dd h
                                    refine zl_sld g221 dL_law_828 ?_
                                    refine z_aload_n dL_law_829 3 rfl ?_
                                    obtain ⟨x225, s223, e224, h⟩ := o_bdi h
                                    refine z_callWi (As := [.ref _, .int _, .int _, .ref _]) (e_L_letter e224) (by decide) mi_L_letter ml_L_129 rfl rfl (Nat.le_of_ble_eq_true rfl) dL_law_830 ?_
                                    refine z_istore (L' := [(5, .int _), (0, .ref _), (1, .ref _), (2, .ref _), (3, .ref _), (4, .int _)]) dL_law_833 (by decide) rfl ?_
                                    refine z_aload_n dL_law_835 3 rfl ?_
                                    refine z_aload_n dL_law_836 1 rfl ?_
                                    refine z_iload dL_law_837 5 rfl ?_
                                    refine z_iconst (v := 1) dL_law_839 (by decide) ?_
                                    refine z_iadd dL_law_840 ?_
                                    obtain ⟨g226, h⟩ := o_gd h
                                    replace h := o_dd h
                                    refine zl_sld g226 dL_law_841 ?_
                                    refine z_aload_n dL_law_842 1 rfl ?_
                                    refine z_iload dL_law_843 5 rfl ?_
                                    refine z_iconst (v := 2) dL_law_845 (by decide) ?_
                                    refine z_iadd dL_law_846 ?_
                                    obtain ⟨g228, h⟩ := o_gd h
                                    replace h := o_dd h
                                    refine zl_sld g228 dL_law_847 ?_
                                    obtain ⟨x232, s230, e231, h⟩ := o_bdi h
                                    refine z_callVi (As := [.int _, .int _]) (e_X7_letter e231) (by decide) mi_X7_letter ml_L_131 rfl rfl (Nat.le_of_ble_eq_true rfl) rv_6 dL_law_848 ?_
                                    refine z_istore (L' := [(6, .int _), (5, .int _), (0, .ref _), (1, .ref _), (2, .ref _), (3, .ref _), (4, .int _)]) dL_law_851 (by decide) rfl ?_
                                    refine z_aload_n dL_law_853 4 rfl ?_
                                    obtain ⟨x235, s233, e234, h⟩ := o_bdi h
                                    refine z_callVi (As := []) (e_X7_thrown e234) (by decide) mi_X7_thrown ml_L_80 rfl rfl (Nat.le_of_ble_eq_true rfl) rv_6 dL_law_854 ?_
                                    refine z_iload dL_law_857 1 rfl ?_
                                    refine z_icmp_eq (tgt := 864) dL_law_859 (by decide) (fun hc236 => ?_) (fun hc236 => ?_)
                                    · replace h := o_ip hc236 h
                                      refine z_iload dL_law_864 1 rfl ?_
                                      refine z_if_ne (tgt := 881) dL_law_866 (by decide) (fun hc237 => ?_) (fun hc237 => ?_)
                                      · replace h := o_in hc237 h
                                        refine z_goto (tgt := 1369) dL_law_881 (by decide) ?_
                                        refine z_iinc (v := _ + 4) (L' := [(4, .int _), (6, .int _), (5, .int _), (0, .ref _), (1, .ref _), (2, .ref _), (3, .ref _)]) dL_law_1369 6 rfl rfl (by decide) rfl ?_
                                        refine z_goto (tgt := 23) dL_law_1372 (by decide) ?_
                                        exact o_Z.sub [3, 4, 5, 6, 0] rfl (ih _ _ h)
                                      · replace h := o_ip hc237 h
                                        refine z_aload_n dL_law_869 5 rfl ?_
                                        refine z_iconst (v := 0) dL_law_870 (by decide) ?_
                                        refine za_outL (by decide) dL_law_871 ?_
                                        refine z_iload dL_law_872 0 rfl ?_
                                        refine z_i2l dL_law_874 ?_
                                        refine z_lcmp dL_law_875 ?_
                                        refine z_if_eq (tgt := 881) dL_law_876 (by decide) (fun hc238 => ?_) (fun hc238 => ?_)
                                        · replace h := o_ip hc238 h
                                          refine z_goto (tgt := 1369) dL_law_881 (by decide) ?_
                                          refine z_iinc (v := _ + 4) (L' := [(4, .int _), (6, .int _), (5, .int _), (0, .ref _), (1, .ref _), (2, .ref _), (3, .ref _)]) dL_law_1369 6 rfl rfl (by decide) rfl ?_
                                          refine z_goto (tgt := 23) dL_law_1372 (by decide) ?_
                                          exact o_Z.sub [3, 4, 5, 6, 0] rfl (ih _ _ h)
                                        · replace h := o_in hc238 h
                                          refine z_iconst (v := 0) dL_law_879 (by decide) ?_
                                          exact (o_n01 h).elim
                                    · replace h := o_in hc236 h
                                      refine z_iconst (v := 0) dL_law_862 (by decide) ?_
                                      exact (o_n01 h).elim
                                  · replace h := o_in hc218 h
                                    by_cases hc239 : (xs (Int32.toNatClampNeg l4) &&& (31 : Int32)) = 15
                                    · replace h := o_ip hc239 h
                                      refine z_tableIn (tgt := 884) dL_law_39 (off := 845) (by rw [hc239]; decide) (by rw [hc239]; decide) (by rw [hc239]; rfl) (by decide) ?_
                                      refine z_aload_n dL_law_884 1 rfl ?_
                                      refine z_aload_n dL_law_885 0 rfl ?_
                                      refine z_iload dL_law_886 4 rfl ?_
                                      refine z_iconst (v := 1) dL_law_888 (by decide) ?_
                                      refine z_iadd dL_law_889 ?_
                                      obtain ⟨g240, h⟩ := o_gd h
                                      replace h := o_dd h
                                      refine zl_sld g240 dL_law_890 ?_
                                      refine z_aload_n dL_law_891 3 rfl ?_
                                      obtain ⟨x244, s242, e243, h⟩ := o_bdi h
                                      refine z_callWi (As := [.ref _, .int _, .ref _]) (e_L_depth e243) (by decide) mi_L_depth ml_L_132 rfl rfl (Nat.le_of_ble_eq_true rfl) dL_law_892 ?_
                                      refine z_istore (L' := [(5, .int _), (0, .ref _), (1, .ref _), (2, .ref _), (3, .ref _), (4, .int _)]) dL_law_895 (by decide) rfl ?_
                                      refine z_aload_n dL_law_897 3 rfl ?_
                                      refine z_aload_n dL_law_898 1 rfl ?_
                                      refine z_iload dL_law_899 5 rfl ?_
                                      refine z_iconst (v := 1) dL_law_901 (by decide) ?_
                                      refine z_iadd dL_law_902 ?_
                                      obtain ⟨g245, h⟩ := o_gd h
                                      replace h := o_dd h
                                      refine zl_sld g245 dL_law_903 ?_
                                      obtain ⟨x249, s247, e248, h⟩ := o_bdi h
                                      refine z_callVi (As := [.int _]) (e_X7_depth e248) (by decide) mi_X7_depth ml_L_134 rfl rfl (Nat.le_of_ble_eq_true rfl) rv_6 dL_law_904 ?_
                                      refine z_istore (L' := [(6, .int _), (5, .int _), (0, .ref _), (1, .ref _), (2, .ref _), (3, .ref _), (4, .int _)]) dL_law_907 (by decide) rfl ?_
                                      refine z_aload_n dL_law_909 4 rfl ?_
                                      obtain ⟨x252, s250, e251, h⟩ := o_bdi h
                                      refine z_callVi (As := []) (e_X7_thrown e251) (by decide) mi_X7_thrown ml_L_80 rfl rfl (Nat.le_of_ble_eq_true rfl) rv_6 dL_law_910 ?_
                                      refine z_iload dL_law_913 1 rfl ?_
                                      refine z_icmp_eq (tgt := 920) dL_law_915 (by decide) (fun hc253 => ?_) (fun hc253 => ?_)
                                      · replace h := o_ip hc253 h
                                        refine z_iload dL_law_920 1 rfl ?_
                                        refine z_if_ne (tgt := 937) dL_law_922 (by decide) (fun hc254 => ?_) (fun hc254 => ?_)
                                        · replace h := o_in hc254 h
                                          refine z_goto (tgt := 1369) dL_law_937 (by decide) ?_
                                          refine z_iinc (v := _ + 4) (L' := [(4, .int _), (6, .int _), (5, .int _), (0, .ref _), (1, .ref _), (2, .ref _), (3, .ref _)]) dL_law_1369 6 rfl rfl (by decide) rfl ?_
                                          refine z_goto (tgt := 23) dL_law_1372 (by decide) ?_
                                          exact o_Z.sub [3, 4, 5, 6, 0] rfl (ih _ _ h)
                                        · replace h := o_ip hc254 h
                                          refine z_aload_n dL_law_925 5 rfl ?_
                                          refine z_iconst (v := 0) dL_law_926 (by decide) ?_
                                          refine za_outL (by decide) dL_law_927 ?_
                                          refine z_iload dL_law_928 0 rfl ?_
                                          refine z_i2l dL_law_930 ?_
                                          refine z_lcmp dL_law_931 ?_
                                          refine z_if_eq (tgt := 937) dL_law_932 (by decide) (fun hc255 => ?_) (fun hc255 => ?_)
                                          · replace h := o_ip hc255 h
                                            refine z_goto (tgt := 1369) dL_law_937 (by decide) ?_
                                            refine z_iinc (v := _ + 4) (L' := [(4, .int _), (6, .int _), (5, .int _), (0, .ref _), (1, .ref _), (2, .ref _), (3, .ref _)]) dL_law_1369 6 rfl rfl (by decide) rfl ?_
                                            refine z_goto (tgt := 23) dL_law_1372 (by decide) ?_
                                            exact o_Z.sub [3, 4, 5, 6, 0] rfl (ih _ _ h)
                                          · replace h := o_in hc255 h
                                            refine z_iconst (v := 0) dL_law_935 (by decide) ?_
                                            exact (o_n01 h).elim
                                      · replace h := o_in hc253 h
                                        refine z_iconst (v := 0) dL_law_918 (by decide) ?_
                                        exact (o_n01 h).elim
                                    · replace h := o_in hc239 h
                                      by_cases hc256 : (xs (Int32.toNatClampNeg l4) &&& (31 : Int32)) = 16
                                      · replace h := o_ip hc256 h
                                        refine z_tableIn (tgt := 940) dL_law_39 (off := 901) (by rw [hc256]; decide) (by rw [hc256]; decide) (by rw [hc256]; rfl) (by decide) ?_
                                        refine z_aload_n dL_law_940 1 rfl ?_
                                        refine z_aload_n dL_law_941 0 rfl ?_
                                        refine z_iload dL_law_942 4 rfl ?_
                                        refine z_iconst (v := 1) dL_law_944 (by decide) ?_
                                        refine z_iadd dL_law_945 ?_
                                        obtain ⟨g257, h⟩ := o_gd h
                                        replace h := o_dd h
                                        refine zl_sld g257 dL_law_946 ?_
                                        refine z_i2l dL_law_947 ?_
                                        refine z_bipush (v := 32) dL_law_948 (by decide) ?_
                                        refine z_lshl dL_law_950 ?_
                                        refine z_aload_n dL_law_951 0 rfl ?_
                                        refine z_iload dL_law_952 4 rfl ?_
                                        refine z_iconst (v := 2) dL_law_954 (by decide) ?_
                                        refine z_iadd dL_law_955 ?_
                                        obtain ⟨g259, h⟩ := o_gd h
                                        replace h := o_dd h
                                        refine zl_sld g259 dL_law_956 ?_
                                        refine z_i2l dL_law_957 ?_
                                        refine z_ldc2 cl_L_72 dL_law_958 ?_
                                        refine z_land dL_law_961 ?_
                                        refine z_lor dL_law_962 ?_
                                        refine z_aload_n dL_law_963 0 rfl ?_
                                        refine z_iload dL_law_964 4 rfl ?_
                                        refine z_iconst (v := 3) dL_law_966 (by decide) ?_
                                        refine z_iadd dL_law_967 ?_
                                        obtain ⟨g261, h⟩ := o_gd h
                                        replace h := o_dd h
                                        refine zl_sld g261 dL_law_968 ?_
                                        obtain ⟨x265, s263, e264, h⟩ := o_bdi h
                                        refine z_callVi (As := [.long _, .int _]) (e_X6_find e264) (by decide) mi_X6_find ml_L_135 rfl rfl (Nat.le_of_ble_eq_true rfl) rv_0 dL_law_969 ?_
                                        refine z_aload_n dL_law_972 2 rfl ?_
                                        refine z_aload_n dL_law_973 0 rfl ?_
                                        refine z_iload dL_law_974 4 rfl ?_
                                        refine z_iconst (v := 1) dL_law_976 (by decide) ?_
                                        refine z_iadd dL_law_977 ?_
                                        obtain ⟨g266, h⟩ := o_gd h
                                        replace h := o_dd h
                                        refine zl_sld g266 dL_law_978 ?_
                                        refine z_i2l dL_law_979 ?_
                                        refine z_bipush (v := 32) dL_law_980 (by decide) ?_
                                        refine z_lshl dL_law_982 ?_
                                        refine z_aload_n dL_law_983 0 rfl ?_
                                        refine z_iload dL_law_984 4 rfl ?_
                                        refine z_iconst (v := 2) dL_law_986 (by decide) ?_
                                        refine z_iadd dL_law_987 ?_
                                        obtain ⟨g268, h⟩ := o_gd h
                                        replace h := o_dd h
                                        refine zl_sld g268 dL_law_988 ?_
                                        refine z_i2l dL_law_989 ?_
                                        refine z_ldc2 cl_L_72 dL_law_990 ?_
                                        refine z_land dL_law_993 ?_
                                        refine z_lor dL_law_994 ?_
                                        refine z_aload_n dL_law_995 0 rfl ?_
                                        refine z_iload dL_law_996 4 rfl ?_
                                        refine z_iconst (v := 3) dL_law_998 (by decide) ?_
                                        refine z_iadd dL_law_999 ?_
                                        obtain ⟨g270, h⟩ := o_gd h
                                        replace h := o_dd h
                                        refine zl_sld g270 dL_law_1000 ?_
                                        obtain ⟨x274, s272, e273, h⟩ := o_bdi h
                                        refine z_callVi (As := [.long _, .int _]) (e_X7_find e273) (by decide) mi_X7_find ml_L_139 rfl rfl (Nat.le_of_ble_eq_true rfl) rv_6 dL_law_1001 ?_
                                        refine z_icmp_eq (tgt := 1369) dL_law_1004 (by decide) (fun hc275 => ?_) (fun hc275 => ?_)
                                        · replace h := o_ip hc275 h
                                          refine z_iinc (v := _ + 4) (L' := [(4, .int _), (0, .ref _), (1, .ref _), (2, .ref _), (3, .ref _)]) dL_law_1369 4 rfl rfl (by decide) rfl ?_
                                          refine z_goto (tgt := 23) dL_law_1372 (by decide) ?_
                                          exact o_Z.sub [1, 2, 3, 4, 0] rfl (ih _ _ h)
                                        · replace h := o_in hc275 h
                                          refine z_iconst (v := 0) dL_law_1007 (by decide) ?_
                                          exact (o_n01 h).elim
                                      · replace h := o_in hc256 h
                                        by_cases hc276 : (xs (Int32.toNatClampNeg l4) &&& (31 : Int32)) = 17
                                        · replace h := o_ip hc276 h
                                          refine z_tableIn (tgt := 1009) dL_law_39 (off := 970) (by rw [hc276]; decide) (by rw [hc276]; decide) (by rw [hc276]; rfl) (by decide) ?_
                                          refine z_aload_n dL_law_1009 1 rfl ?_
                                          obtain ⟨x279, s277, e278, h⟩ := o_bdi h
                                          refine z_callVi (As := []) (e_X6_wordCount e278) (by decide) mi_X6_wordCount ml_L_140 rfl rfl (Nat.le_of_ble_eq_true rfl) rv_0 dL_law_1010 ?_
                                          refine z_aload_n dL_law_1013 2 rfl ?_
                                          obtain ⟨x282, s280, e281, h⟩ := o_bdi h
                                          refine z_callVi (As := []) (e_X7_wordCount e281) (by decide) mi_X7_wordCount ml_L_143 rfl rfl (Nat.le_of_ble_eq_true rfl) rv_6 dL_law_1014 ?_
                                          refine z_icmp_eq (tgt := 1369) dL_law_1017 (by decide) (fun hc283 => ?_) (fun hc283 => ?_)
                                          · replace h := o_ip hc283 h
                                            refine z_iinc (v := _ + 4) (L' := [(4, .int _), (0, .ref _), (1, .ref _), (2, .ref _), (3, .ref _)]) dL_law_1369 4 rfl rfl (by decide) rfl ?_
                                            refine z_goto (tgt := 23) dL_law_1372 (by decide) ?_
                                            exact o_Z.sub [1, 2, 3, 4, 0] rfl (ih _ _ h)
                                          · replace h := o_in hc283 h
                                            refine z_iconst (v := 0) dL_law_1020 (by decide) ?_
                                            exact (o_n01 h).elim
                                        · replace h := o_in hc276 h
                                          by_cases hc284 : (xs (Int32.toNatClampNeg l4) &&& (31 : Int32)) = 18
                                          · replace h := o_ip hc284 h
                                            refine z_tableIn (tgt := 1022) dL_law_39 (off := 983) (by rw [hc284]; decide) (by rw [hc284]; decide) (by rw [hc284]; rfl) (by decide) ?_
                                            refine z_aload_n dL_law_1022 1 rfl ?_
                                            refine z_aload_n dL_law_1023 0 rfl ?_
                                            refine z_iload dL_law_1024 4 rfl ?_
                                            refine z_iconst (v := 1) dL_law_1026 (by decide) ?_
                                            refine z_iadd dL_law_1027 ?_
                                            obtain ⟨g285, h⟩ := o_gd h
                                            replace h := o_dd h
                                            refine zl_sld g285 dL_law_1028 ?_
                                            refine z_aload_n dL_law_1029 3 rfl ?_
                                            obtain ⟨x289, s287, e288, h⟩ := o_bdi h
                                            refine z_callWi (As := [.ref _, .int _, .ref _]) (e_L_remove e288) (by decide) mi_L_remove ml_L_144 rfl rfl (Nat.le_of_ble_eq_true rfl) dL_law_1030 ?_
                                            refine z_istore (L' := [(5, .int _), (0, .ref _), (1, .ref _), (2, .ref _), (3, .ref _), (4, .int _)]) dL_law_1033 (by decide) rfl ?_
                                            refine z_aload_n dL_law_1035 3 rfl ?_
                                            refine z_aload_n dL_law_1036 1 rfl ?_
                                            refine z_iload dL_law_1037 5 rfl ?_
                                            refine z_iconst (v := 1) dL_law_1039 (by decide) ?_
                                            refine z_iadd dL_law_1040 ?_
                                            obtain ⟨g290, h⟩ := o_gd h
                                            replace h := o_dd h
                                            refine zl_sld g290 dL_law_1041 ?_
                                            obtain ⟨x294, s292, e293, h⟩ := o_bdi h
                                            refine z_callVi (As := [.int _]) (e_X7_remove e293) (by decide) mi_X7_remove ml_L_146 rfl rfl (Nat.le_of_ble_eq_true rfl) rv_6 dL_law_1042 ?_
                                            refine z_istore (L' := [(6, .int _), (5, .int _), (0, .ref _), (1, .ref _), (2, .ref _), (3, .ref _), (4, .int _)]) dL_law_1045 (by decide) rfl ?_
                                            refine z_aload_n dL_law_1047 4 rfl ?_
                                            obtain ⟨x297, s295, e296, h⟩ := o_bdi h
                                            refine z_callVi (As := []) (e_X7_thrown e296) (by decide) mi_X7_thrown ml_L_80 rfl rfl (Nat.le_of_ble_eq_true rfl) rv_6 dL_law_1048 ?_
                                            refine z_iload dL_law_1051 1 rfl ?_
                                            refine z_icmp_eq (tgt := 1058) dL_law_1053 (by decide) (fun hc298 => ?_) (fun hc298 => ?_)
                                            · replace h := o_ip hc298 h
                                              refine z_iload dL_law_1058 1 rfl ?_
                                              refine z_if_ne (tgt := 1075) dL_law_1060 (by decide) (fun hc299 => ?_) (fun hc299 => ?_)
                                              · replace h := o_in hc299 h
                                                refine z_goto (tgt := 1369) dL_law_1075 (by decide) ?_
                                                refine z_iinc (v := _ + 4) (L' := [(4, .int _), (6, .int _), (5, .int _), (0, .ref _), (1, .ref _), (2, .ref _), (3, .ref _)]) dL_law_1369 6 rfl rfl (by decide) rfl ?_
                                                refine z_goto (tgt := 23) dL_law_1372 (by decide) ?_
                                                exact o_Z.sub [3, 4, 5, 6, 0] rfl (ih _ _ h)
                                              · replace h := o_ip hc299 h
                                                refine z_aload_n dL_law_1063 5 rfl ?_
                                                refine z_iconst (v := 0) dL_law_1064 (by decide) ?_
                                                refine za_outL (by decide) dL_law_1065 ?_
                                                refine z_iload dL_law_1066 0 rfl ?_
                                                refine z_i2l dL_law_1068 ?_
                                                refine z_lcmp dL_law_1069 ?_
                                                refine z_if_eq (tgt := 1075) dL_law_1070 (by decide) (fun hc300 => ?_) (fun hc300 => ?_)
                                                · replace h := o_ip hc300 h
                                                  refine z_goto (tgt := 1369) dL_law_1075 (by decide) ?_
                                                  refine z_iinc (v := _ + 4) (L' := [(4, .int _), (6, .int _), (5, .int _), (0, .ref _), (1, .ref _), (2, .ref _), (3, .ref _)]) dL_law_1369 6 rfl rfl (by decide) rfl ?_
                                                  refine z_goto (tgt := 23) dL_law_1372 (by decide) ?_
                                                  exact o_Z.sub [3, 4, 5, 6, 0] rfl (ih _ _ h)
                                                · replace h := o_in hc300 h
                                                  refine z_iconst (v := 0) dL_law_1073 (by decide) ?_
                                                  exact (o_n01 h).elim
                                            · replace h := o_in hc298 h
                                              refine z_iconst (v := 0) dL_law_1056 (by decide) ?_
                                              exact (o_n01 h).elim
                                          · replace h := o_in hc284 h
                                            by_cases hc301 : (xs (Int32.toNatClampNeg l4) &&& (31 : Int32)) = 19
                                            · replace h := o_ip hc301 h
                                              refine z_tableIn (tgt := 1078) dL_law_39 (off := 1039) (by rw [hc301]; decide) (by rw [hc301]; decide) (by rw [hc301]; rfl) (by decide) ?_
                                              refine z_aload_n dL_law_1078 1 rfl ?_
                                              refine z_aload_n dL_law_1079 0 rfl ?_
                                              refine z_iload dL_law_1080 4 rfl ?_
                                              refine z_iconst (v := 1) dL_law_1082 (by decide) ?_
                                              refine z_iadd dL_law_1083 ?_
                                              obtain ⟨g302, h⟩ := o_gd h
                                              replace h := o_dd h
                                              refine zl_sld g302 dL_law_1084 ?_
                                              refine z_aload_n dL_law_1085 0 rfl ?_
                                              refine z_iload dL_law_1086 4 rfl ?_
                                              refine z_iconst (v := 2) dL_law_1088 (by decide) ?_
                                              refine z_iadd dL_law_1089 ?_
                                              obtain ⟨g304, h⟩ := o_gd h
                                              replace h := o_dd h
                                              refine zl_sld g304 dL_law_1090 ?_
                                              refine z_aload_n dL_law_1091 0 rfl ?_
                                              refine z_iload dL_law_1092 4 rfl ?_
                                              refine z_iconst (v := 3) dL_law_1094 (by decide) ?_
                                              refine z_iadd dL_law_1095 ?_
                                              obtain ⟨g306, h⟩ := o_gd h
                                              replace h := o_dd h
                                              refine zl_sld g306 dL_law_1096 ?_
                                              refine z_aload_n dL_law_1097 3 rfl ?_
                                              obtain ⟨x310, s308, e309, h⟩ := o_bdi h
                                              refine z_callWi (As := [.ref _, .int _, .int _, .int _, .ref _]) (e_L_move e309) (by decide) mi_L_move ml_L_147 rfl rfl (Nat.le_of_ble_eq_true rfl) dL_law_1098 ?_
                                              refine z_istore (L' := [(5, .int _), (0, .ref _), (1, .ref _), (2, .ref _), (3, .ref _), (4, .int _)]) dL_law_1101 (by decide) rfl ?_
                                              refine z_aload_n dL_law_1103 3 rfl ?_
                                              refine z_aload_n dL_law_1104 1 rfl ?_
                                              refine z_iload dL_law_1105 5 rfl ?_
                                              refine z_iconst (v := 1) dL_law_1107 (by decide) ?_
                                              refine z_iadd dL_law_1108 ?_
                                              obtain ⟨g311, h⟩ := o_gd h
                                              replace h := o_dd h
                                              refine zl_sld g311 dL_law_1109 ?_
                                              refine z_aload_n dL_law_1110 1 rfl ?_
                                              refine z_iload dL_law_1111 5 rfl ?_
                                              refine z_iconst (v := 2) dL_law_1113 (by decide) ?_
                                              refine z_iadd dL_law_1114 ?_
                                              obtain ⟨g313, h⟩ := o_gd h
                                              replace h := o_dd h
                                              refine zl_sld g313 dL_law_1115 ?_
                                              refine z_aload_n dL_law_1116 1 rfl ?_
                                              refine z_iload dL_law_1117 5 rfl ?_
                                              refine z_iconst (v := 3) dL_law_1119 (by decide) ?_
                                              refine z_iadd dL_law_1120 ?_
                                              obtain ⟨g315, h⟩ := o_gd h
                                              replace h := o_dd h
                                              refine zl_sld g315 dL_law_1121 ?_
                                              obtain ⟨x319, s317, e318, h⟩ := o_bdi h
                                              refine z_callVi (As := [.int _, .int _, .int _]) (e_X7_move e318) (by decide) mi_X7_move ml_L_150 rfl rfl (Nat.le_of_ble_eq_true rfl) rv_6 dL_law_1122 ?_
                                              refine z_istore (L' := [(6, .int _), (5, .int _), (0, .ref _), (1, .ref _), (2, .ref _), (3, .ref _), (4, .int _)]) dL_law_1125 (by decide) rfl ?_
                                              refine z_aload_n dL_law_1127 4 rfl ?_
                                              obtain ⟨x322, s320, e321, h⟩ := o_bdi h
                                              refine z_callVi (As := []) (e_X7_thrown e321) (by decide) mi_X7_thrown ml_L_80 rfl rfl (Nat.le_of_ble_eq_true rfl) rv_6 dL_law_1128 ?_
                                              refine z_iload dL_law_1131 1 rfl ?_
                                              refine z_icmp_eq (tgt := 1138) dL_law_1133 (by decide) (fun hc323 => ?_) (fun hc323 => ?_)
                                              · replace h := o_ip hc323 h
                                                refine z_iload dL_law_1138 1 rfl ?_
                                                refine z_if_ne (tgt := 1155) dL_law_1140 (by decide) (fun hc324 => ?_) (fun hc324 => ?_)
                                                · replace h := o_in hc324 h
                                                  refine z_goto (tgt := 1369) dL_law_1155 (by decide) ?_
                                                  refine z_iinc (v := _ + 4) (L' := [(4, .int _), (6, .int _), (5, .int _), (0, .ref _), (1, .ref _), (2, .ref _), (3, .ref _)]) dL_law_1369 6 rfl rfl (by decide) rfl ?_
                                                  refine z_goto (tgt := 23) dL_law_1372 (by decide) ?_
                                                  exact o_Z.sub [3, 4, 5, 6, 0] rfl (ih _ _ h)
                                                · replace h := o_ip hc324 h
                                                  refine z_aload_n dL_law_1143 5 rfl ?_
                                                  refine z_iconst (v := 0) dL_law_1144 (by decide) ?_
                                                  refine za_outL (by decide) dL_law_1145 ?_
                                                  refine z_iload dL_law_1146 0 rfl ?_
                                                  refine z_i2l dL_law_1148 ?_
                                                  refine z_lcmp dL_law_1149 ?_
                                                  refine z_if_eq (tgt := 1155) dL_law_1150 (by decide) (fun hc325 => ?_) (fun hc325 => ?_)
                                                  · replace h := o_ip hc325 h
                                                    refine z_goto (tgt := 1369) dL_law_1155 (by decide) ?_
                                                    refine z_iinc (v := _ + 4) (L' := [(4, .int _), (6, .int _), (5, .int _), (0, .ref _), (1, .ref _), (2, .ref _), (3, .ref _)]) dL_law_1369 6 rfl rfl (by decide) rfl ?_
                                                    refine z_goto (tgt := 23) dL_law_1372 (by decide) ?_
                                                    exact o_Z.sub [3, 4, 5, 6, 0] rfl (ih _ _ h)
                                                  · replace h := o_in hc325 h
                                                    refine z_iconst (v := 0) dL_law_1153 (by decide) ?_
                                                    exact (o_n01 h).elim
                                              · replace h := o_in hc323 h
                                                refine z_iconst (v := 0) dL_law_1136 (by decide) ?_
                                                exact (o_n01 h).elim
                                            · replace h := o_in hc301 h
                                              by_cases hc326 : (xs (Int32.toNatClampNeg l4) &&& (31 : Int32)) = 20
                                              · replace h := o_ip hc326 h
                                                refine z_tableIn (tgt := 1158) dL_law_39 (off := 1119) (by rw [hc326]; decide) (by rw [hc326]; decide) (by rw [hc326]; rfl) (by decide) ?_
                                                refine z_aload_n dL_law_1158 1 rfl ?_
                                                refine z_aload_n dL_law_1159 0 rfl ?_
                                                refine z_iload dL_law_1160 4 rfl ?_
                                                refine z_iconst (v := 1) dL_law_1162 (by decide) ?_
                                                refine z_iadd dL_law_1163 ?_
                                                obtain ⟨g327, h⟩ := o_gd h
                                                replace h := o_dd h
                                                refine zl_sld g327 dL_law_1164 ?_
                                                refine z_aload_n dL_law_1165 0 rfl ?_
                                                refine z_iload dL_law_1166 4 rfl ?_
                                                refine z_iconst (v := 2) dL_law_1168 (by decide) ?_
                                                refine z_iadd dL_law_1169 ?_
                                                obtain ⟨g329, h⟩ := o_gd h
                                                replace h := o_dd h
                                                refine zl_sld g329 dL_law_1170 ?_
                                                refine z_i2l dL_law_1171 ?_
                                                refine z_bipush (v := 32) dL_law_1172 (by decide) ?_
                                                refine z_lshl dL_law_1174 ?_
                                                refine z_aload_n dL_law_1175 0 rfl ?_
                                                refine z_iload dL_law_1176 4 rfl ?_
                                                refine z_iconst (v := 3) dL_law_1178 (by decide) ?_
                                                refine z_iadd dL_law_1179 ?_
                                                obtain ⟨g331, h⟩ := o_gd h
                                                replace h := o_dd h
                                                refine zl_sld g331 dL_law_1180 ?_
                                                refine z_i2l dL_law_1181 ?_
                                                refine z_ldc2 cl_L_72 dL_law_1182 ?_
                                                refine z_land dL_law_1185 ?_
                                                refine z_lor dL_law_1186 ?_
                                                refine z_aload_n dL_law_1187 3 rfl ?_
                                                obtain ⟨x335, s333, e334, h⟩ := o_bdi h
                                                refine z_callWi (As := [.ref _, .int _, .long _, .ref _]) (e_L_rename e334) (by decide) mi_L_rename ml_L_151 rfl rfl (Nat.le_of_ble_eq_true rfl) dL_law_1188 ?_
                                                refine z_istore (L' := [(5, .int _), (0, .ref _), (1, .ref _), (2, .ref _), (3, .ref _), (4, .int _)]) dL_law_1191 (by decide) rfl ?_
                                                refine z_aload_n dL_law_1193 3 rfl ?_
                                                refine z_aload_n dL_law_1194 1 rfl ?_
                                                refine z_iload dL_law_1195 5 rfl ?_
                                                refine z_iconst (v := 1) dL_law_1197 (by decide) ?_
                                                refine z_iadd dL_law_1198 ?_
                                                obtain ⟨g336, h⟩ := o_gd h
                                                replace h := o_dd h
                                                refine zl_sld g336 dL_law_1199 ?_
                                                refine z_aload_n dL_law_1200 1 rfl ?_
                                                refine z_iload dL_law_1201 5 rfl ?_
                                                refine z_iconst (v := 2) dL_law_1203 (by decide) ?_
                                                refine z_iadd dL_law_1204 ?_
                                                obtain ⟨g338, h⟩ := o_gd h
                                                replace h := o_dd h
                                                refine zl_sld g338 dL_law_1205 ?_
                                                refine z_i2l dL_law_1206 ?_
                                                refine z_bipush (v := 32) dL_law_1207 (by decide) ?_
                                                refine z_lshl dL_law_1209 ?_
                                                refine z_aload_n dL_law_1210 1 rfl ?_
                                                refine z_iload dL_law_1211 5 rfl ?_
                                                refine z_iconst (v := 3) dL_law_1213 (by decide) ?_
                                                refine z_iadd dL_law_1214 ?_
                                                obtain ⟨g340, h⟩ := o_gd h
                                                replace h := o_dd h
                                                refine zl_sld g340 dL_law_1215 ?_
                                                refine z_i2l dL_law_1216 ?_
                                                refine z_ldc2 cl_L_72 dL_law_1217 ?_
                                                refine z_land dL_law_1220 ?_
                                                refine z_lor dL_law_1221 ?_
                                                obtain ⟨x344, s342, e343, h⟩ := o_bdi h
                                                refine z_callVi (As := [.int _, .long _]) (e_X7_rename e343) (by decide) mi_X7_rename ml_L_154 rfl rfl (Nat.le_of_ble_eq_true rfl) rv_6 dL_law_1222 ?_
                                                refine z_istore (L' := [(6, .int _), (5, .int _), (0, .ref _), (1, .ref _), (2, .ref _), (3, .ref _), (4, .int _)]) dL_law_1225 (by decide) rfl ?_
                                                refine z_aload_n dL_law_1227 4 rfl ?_
                                                obtain ⟨x347, s345, e346, h⟩ := o_bdi h
                                                refine z_callVi (As := []) (e_X7_thrown e346) (by decide) mi_X7_thrown ml_L_80 rfl rfl (Nat.le_of_ble_eq_true rfl) rv_6 dL_law_1228 ?_
                                                refine z_iload dL_law_1231 1 rfl ?_
                                                refine z_icmp_eq (tgt := 1238) dL_law_1233 (by decide) (fun hc348 => ?_) (fun hc348 => ?_)
                                                · replace h := o_ip hc348 h
                                                  refine z_iload dL_law_1238 1 rfl ?_
                                                  refine z_if_ne (tgt := 1255) dL_law_1240 (by decide) (fun hc349 => ?_) (fun hc349 => ?_)
                                                  · replace h := o_in hc349 h
                                                    refine z_goto (tgt := 1369) dL_law_1255 (by decide) ?_
                                                    refine z_iinc (v := _ + 4) (L' := [(4, .int _), (6, .int _), (5, .int _), (0, .ref _), (1, .ref _), (2, .ref _), (3, .ref _)]) dL_law_1369 6 rfl rfl (by decide) rfl ?_
                                                    refine z_goto (tgt := 23) dL_law_1372 (by decide) ?_
                                                    exact o_Z.sub [3, 4, 5, 6, 0] rfl (ih _ _ h)
                                                  · replace h := o_ip hc349 h
                                                    refine z_aload_n dL_law_1243 5 rfl ?_
                                                    refine z_iconst (v := 0) dL_law_1244 (by decide) ?_
                                                    refine za_outL (by decide) dL_law_1245 ?_
                                                    refine z_iload dL_law_1246 0 rfl ?_
                                                    refine z_i2l dL_law_1248 ?_
                                                    refine z_lcmp dL_law_1249 ?_
                                                    refine z_if_eq (tgt := 1255) dL_law_1250 (by decide) (fun hc350 => ?_) (fun hc350 => ?_)
                                                    · replace h := o_ip hc350 h
                                                      refine z_goto (tgt := 1369) dL_law_1255 (by decide) ?_
                                                      refine z_iinc (v := _ + 4) (L' := [(4, .int _), (6, .int _), (5, .int _), (0, .ref _), (1, .ref _), (2, .ref _), (3, .ref _)]) dL_law_1369 6 rfl rfl (by decide) rfl ?_
                                                      refine z_goto (tgt := 23) dL_law_1372 (by decide) ?_
                                                      exact o_Z.sub [3, 4, 5, 6, 0] rfl (ih _ _ h)
                                                    · replace h := o_in hc350 h
                                                      refine z_iconst (v := 0) dL_law_1253 (by decide) ?_
                                                      exact (o_n01 h).elim
                                                · replace h := o_in hc348 h
                                                  refine z_iconst (v := 0) dL_law_1236 (by decide) ?_
                                                  exact (o_n01 h).elim
                                              · replace h := o_in hc326 h
                                                by_cases hc351 : (xs (Int32.toNatClampNeg l4) &&& (31 : Int32)) = 21
                                                · replace h := o_ip hc351 h
                                                  refine z_tableIn (tgt := 1258) dL_law_39 (off := 1219) (by rw [hc351]; decide) (by rw [hc351]; decide) (by rw [hc351]; rfl) (by decide) ?_
                                                  refine z_aload_n dL_law_1258 1 rfl ?_
                                                  refine z_aload_n dL_law_1259 0 rfl ?_
                                                  refine z_iload dL_law_1260 4 rfl ?_
                                                  refine z_iconst (v := 1) dL_law_1262 (by decide) ?_
                                                  refine z_iadd dL_law_1263 ?_
                                                  obtain ⟨g352, h⟩ := o_gd h
                                                  replace h := o_dd h
                                                  refine zl_sld g352 dL_law_1264 ?_
                                                  refine z_if_eq (tgt := 1272) dL_law_1265 (by decide) (fun hc354 => ?_) (fun hc354 => ?_)
                                                  · replace h := o_ip hc354 h
                                                    refine z_iconst (v := 0) dL_law_1272 (by decide) ?_
                                                    obtain ⟨x357, s355, e356, h⟩ := o_bdi h
                                                    refine z_callVi (As := [.int _]) (e_X6_write e356) (by decide) mi_X6_write ml_L_155 rfl rfl (Nat.le_of_ble_eq_true rfl) rv_0 dL_law_1273 ?_
                                                    refine z_aload_n dL_law_1276 2 rfl ?_
                                                    refine z_aload_n dL_law_1277 0 rfl ?_
                                                    refine z_iload dL_law_1278 4 rfl ?_
                                                    refine z_iconst (v := 1) dL_law_1280 (by decide) ?_
                                                    refine z_iadd dL_law_1281 ?_
                                                    obtain ⟨g358, h⟩ := o_gd h
                                                    replace h := o_dd h
                                                    refine zl_sld g358 dL_law_1282 ?_
                                                    refine z_if_eq (tgt := 1290) dL_law_1283 (by decide) (fun hc360 => ?_) (fun hc360 => ?_)
                                                    · replace h := o_ip hc360 h
                                                      refine z_iconst (v := 0) dL_law_1290 (by decide) ?_
                                                      obtain ⟨x363, s361, e362, h⟩ := o_bdi h
                                                      refine z_callVi (As := [.int _]) (e_X7_write e362) (by decide) mi_X7_write ml_L_159 rfl rfl (Nat.le_of_ble_eq_true rfl) rv_6 dL_law_1291 ?_
                                                      refine z_icmp_eq (tgt := 1369) dL_law_1294 (by decide) (fun hc364 => ?_) (fun hc364 => ?_)
                                                      · replace h := o_ip hc364 h
                                                        refine z_iinc (v := _ + 4) (L' := [(4, .int _), (0, .ref _), (1, .ref _), (2, .ref _), (3, .ref _)]) dL_law_1369 4 rfl rfl (by decide) rfl ?_
                                                        refine z_goto (tgt := 23) dL_law_1372 (by decide) ?_
                                                        exact o_Z.sub [1, 2, 3, 4, 0] rfl (ih _ _ h)
                                                      · replace h := o_in hc364 h
                                                        refine z_iconst (v := 0) dL_law_1297 (by decide) ?_
                                                        exact (o_n01 h).elim
                                                    · replace h := o_in hc360 h
                                                      refine z_iconst (v := 1) dL_law_1286 (by decide) ?_
                                                      refine z_goto (tgt := 1291) dL_law_1287 (by decide) ?_
                                                      obtain ⟨x367, s365, e366, h⟩ := o_bdi h
                                                      refine z_callVi (As := [.int _]) (e_X7_write e366) (by decide) mi_X7_write ml_L_159 rfl rfl (Nat.le_of_ble_eq_true rfl) rv_6 dL_law_1291 ?_
                                                      refine z_icmp_eq (tgt := 1369) dL_law_1294 (by decide) (fun hc368 => ?_) (fun hc368 => ?_)
                                                      · replace h := o_ip hc368 h
                                                        refine z_iinc (v := _ + 4) (L' := [(4, .int _), (0, .ref _), (1, .ref _), (2, .ref _), (3, .ref _)]) dL_law_1369 4 rfl rfl (by decide) rfl ?_
                                                        refine z_goto (tgt := 23) dL_law_1372 (by decide) ?_
                                                        exact o_Z.sub [1, 2, 3, 4, 0] rfl (ih _ _ h)
                                                      · replace h := o_in hc368 h
                                                        refine z_iconst (v := 0) dL_law_1297 (by decide) ?_
                                                        exact (o_n01 h).elim
                                                  · replace h := o_in hc354 h
                                                    refine z_iconst (v := 1) dL_law_1268 (by decide) ?_
                                                    refine z_goto (tgt := 1273) dL_law_1269 (by decide) ?_
                                                    obtain ⟨x371, s369, e370, h⟩ := o_bdi h
                                                    refine z_callVi (As := [.int _]) (e_X6_write e370) (by decide) mi_X6_write ml_L_155 rfl rfl (Nat.le_of_ble_eq_true rfl) rv_0 dL_law_1273 ?_
                                                    refine z_aload_n dL_law_1276 2 rfl ?_
                                                    refine z_aload_n dL_law_1277 0 rfl ?_
                                                    refine z_iload dL_law_1278 4 rfl ?_
                                                    refine z_iconst (v := 1) dL_law_1280 (by decide) ?_
                                                    refine z_iadd dL_law_1281 ?_
                                                    obtain ⟨g372, h⟩ := o_gd h
                                                    replace h := o_dd h
                                                    refine zl_sld g372 dL_law_1282 ?_
                                                    refine z_if_eq (tgt := 1290) dL_law_1283 (by decide) (fun hc374 => ?_) (fun hc374 => ?_)
                                                    · replace h := o_ip hc374 h
                                                      refine z_iconst (v := 0) dL_law_1290 (by decide) ?_
                                                      obtain ⟨x377, s375, e376, h⟩ := o_bdi h
                                                      refine z_callVi (As := [.int _]) (e_X7_write e376) (by decide) mi_X7_write ml_L_159 rfl rfl (Nat.le_of_ble_eq_true rfl) rv_6 dL_law_1291 ?_
                                                      refine z_icmp_eq (tgt := 1369) dL_law_1294 (by decide) (fun hc378 => ?_) (fun hc378 => ?_)
                                                      · replace h := o_ip hc378 h
                                                        refine z_iinc (v := _ + 4) (L' := [(4, .int _), (0, .ref _), (1, .ref _), (2, .ref _), (3, .ref _)]) dL_law_1369 4 rfl rfl (by decide) rfl ?_
                                                        refine z_goto (tgt := 23) dL_law_1372 (by decide) ?_
                                                        exact o_Z.sub [1, 2, 3, 4, 0] rfl (ih _ _ h)
                                                      · replace h := o_in hc378 h
                                                        refine z_iconst (v := 0) dL_law_1297 (by decide) ?_
                                                        exact (o_n01 h).elim
                                                    · replace h := o_in hc374 h
                                                      refine z_iconst (v := 1) dL_law_1286 (by decide) ?_
                                                      refine z_goto (tgt := 1291) dL_law_1287 (by decide) ?_
                                                      obtain ⟨x381, s379, e380, h⟩ := o_bdi h
                                                      refine z_callVi (As := [.int _]) (e_X7_write e380) (by decide) mi_X7_write ml_L_159 rfl rfl (Nat.le_of_ble_eq_true rfl) rv_6 dL_law_1291 ?_
                                                      refine z_icmp_eq (tgt := 1369) dL_law_1294 (by decide) (fun hc382 => ?_) (fun hc382 => ?_)
                                                      · replace h := o_ip hc382 h
                                                        refine z_iinc (v := _ + 4) (L' := [(4, .int _), (0, .ref _), (1, .ref _), (2, .ref _), (3, .ref _)]) dL_law_1369 4 rfl rfl (by decide) rfl ?_
                                                        refine z_goto (tgt := 23) dL_law_1372 (by decide) ?_
                                                        exact o_Z.sub [1, 2, 3, 4, 0] rfl (ih _ _ h)
                                                      · replace h := o_in hc382 h
                                                        refine z_iconst (v := 0) dL_law_1297 (by decide) ?_
                                                        exact (o_n01 h).elim
                                                · replace h := o_in hc351 h
                                                  by_cases hc383 : (xs (Int32.toNatClampNeg l4) &&& (31 : Int32)) = 22
                                                  · replace h := o_ip hc383 h
                                                    refine z_tableIn (tgt := 1299) dL_law_39 (off := 1260) (by rw [hc383]; decide) (by rw [hc383]; decide) (by rw [hc383]; rfl) (by decide) ?_
                                                    refine z_aload_n dL_law_1299 1 rfl ?_
                                                    refine z_aload_n dL_law_1300 0 rfl ?_
                                                    refine z_iload dL_law_1301 4 rfl ?_
                                                    refine z_iconst (v := 1) dL_law_1303 (by decide) ?_
                                                    refine z_iadd dL_law_1304 ?_
                                                    obtain ⟨g384, h⟩ := o_gd h
                                                    replace h := o_dd h
                                                    refine zl_sld g384 dL_law_1305 ?_
                                                    refine z_aload_n dL_law_1306 3 rfl ?_
                                                    obtain ⟨x388, s386, e387, h⟩ := o_bdi h
                                                    refine z_callWi (As := [.ref _, .int _, .ref _]) (e_L_written e387) (by decide) mi_L_written ml_L_160 rfl rfl (Nat.le_of_ble_eq_true rfl) dL_law_1307 ?_
                                                    refine z_istore (L' := [(5, .int _), (0, .ref _), (1, .ref _), (2, .ref _), (3, .ref _), (4, .int _)]) dL_law_1310 (by decide) rfl ?_
                                                    refine z_aload_n dL_law_1312 3 rfl ?_
                                                    refine z_aload_n dL_law_1313 1 rfl ?_
                                                    refine z_iload dL_law_1314 5 rfl ?_
                                                    refine z_iconst (v := 1) dL_law_1316 (by decide) ?_
                                                    refine z_iadd dL_law_1317 ?_
                                                    obtain ⟨g389, h⟩ := o_gd h
                                                    replace h := o_dd h
                                                    refine zl_sld g389 dL_law_1318 ?_
                                                    obtain ⟨x393, s391, e392, h⟩ := o_bdi h
                                                    refine z_callVi (As := [.int _]) (e_X7_written e392) (by decide) mi_X7_written ml_L_162 rfl rfl (Nat.le_of_ble_eq_true rfl) rv_6 dL_law_1319 ?_
                                                    refine z_istore (L' := [(6, .int _), (5, .int _), (0, .ref _), (1, .ref _), (2, .ref _), (3, .ref _), (4, .int _)]) dL_law_1322 (by decide) rfl ?_
                                                    refine z_aload_n dL_law_1324 4 rfl ?_
                                                    obtain ⟨x396, s394, e395, h⟩ := o_bdi h
                                                    refine z_callVi (As := []) (e_X7_thrown e395) (by decide) mi_X7_thrown ml_L_80 rfl rfl (Nat.le_of_ble_eq_true rfl) rv_6 dL_law_1325 ?_
                                                    refine z_iload dL_law_1328 1 rfl ?_
                                                    refine z_icmp_eq (tgt := 1335) dL_law_1330 (by decide) (fun hc397 => ?_) (fun hc397 => ?_)
                                                    · replace h := o_ip hc397 h
                                                      refine z_iload dL_law_1335 1 rfl ?_
                                                      refine z_if_ne (tgt := 1352) dL_law_1337 (by decide) (fun hc398 => ?_) (fun hc398 => ?_)
                                                      · replace h := o_in hc398 h
                                                        refine z_goto (tgt := 1369) dL_law_1352 (by decide) ?_
                                                        refine z_iinc (v := _ + 4) (L' := [(4, .int _), (6, .int _), (5, .int _), (0, .ref _), (1, .ref _), (2, .ref _), (3, .ref _)]) dL_law_1369 6 rfl rfl (by decide) rfl ?_
                                                        refine z_goto (tgt := 23) dL_law_1372 (by decide) ?_
                                                        exact o_Z.sub [3, 4, 5, 6, 0] rfl (ih _ _ h)
                                                      · replace h := o_ip hc398 h
                                                        refine z_aload_n dL_law_1340 5 rfl ?_
                                                        refine z_iconst (v := 0) dL_law_1341 (by decide) ?_
                                                        refine za_outL (by decide) dL_law_1342 ?_
                                                        refine z_iload dL_law_1343 0 rfl ?_
                                                        refine z_i2l dL_law_1345 ?_
                                                        refine z_lcmp dL_law_1346 ?_
                                                        refine z_if_eq (tgt := 1352) dL_law_1347 (by decide) (fun hc399 => ?_) (fun hc399 => ?_)
                                                        · replace h := o_ip hc399 h
                                                          refine z_goto (tgt := 1369) dL_law_1352 (by decide) ?_
                                                          refine z_iinc (v := _ + 4) (L' := [(4, .int _), (6, .int _), (5, .int _), (0, .ref _), (1, .ref _), (2, .ref _), (3, .ref _)]) dL_law_1369 6 rfl rfl (by decide) rfl ?_
                                                          refine z_goto (tgt := 23) dL_law_1372 (by decide) ?_
                                                          exact o_Z.sub [3, 4, 5, 6, 0] rfl (ih _ _ h)
                                                        · replace h := o_in hc399 h
                                                          refine z_iconst (v := 0) dL_law_1350 (by decide) ?_
                                                          exact (o_n01 h).elim
                                                    · replace h := o_in hc397 h
                                                      refine z_iconst (v := 0) dL_law_1333 (by decide) ?_
                                                      exact (o_n01 h).elim
                                                  · replace h := o_in hc383 h
                                                    by_cases hc400 : (xs (Int32.toNatClampNeg l4) &&& (31 : Int32)) = 23
                                                    · replace h := o_ip hc400 h
                                                      refine z_tableIn (tgt := 1355) dL_law_39 (off := 1316) (by rw [hc400]; decide) (by rw [hc400]; decide) (by rw [hc400]; rfl) (by decide) ?_
                                                      refine z_aload_n dL_law_1355 1 rfl ?_
                                                      obtain ⟨x403, s401, e402, h⟩ := o_bdi h
                                                      refine z_callVl (As := []) (e_X6_digest e402) (by decide) mi_X6_digest ml_L_163 rfl rfl (Nat.le_of_ble_eq_true rfl) rv_0 dL_law_1356 ?_
                                                      refine z_aload_n dL_law_1359 2 rfl ?_
                                                      obtain ⟨x406, s404, e405, h⟩ := o_bdi h
                                                      refine z_callVl (As := []) (e_X7_digest e405) (by decide) mi_X7_digest ml_L_167 rfl rfl (Nat.le_of_ble_eq_true rfl) rv_6 dL_law_1360 ?_
                                                      refine z_lcmp dL_law_1363 ?_
                                                      refine z_if_eq (tgt := 1369) dL_law_1364 (by decide) (fun hc407 => ?_) (fun hc407 => ?_)
                                                      · replace h := o_ip hc407 h
                                                        refine z_iinc (v := _ + 4) (L' := [(4, .int _), (0, .ref _), (1, .ref _), (2, .ref _), (3, .ref _)]) dL_law_1369 4 rfl rfl (by decide) rfl ?_
                                                        refine z_goto (tgt := 23) dL_law_1372 (by decide) ?_
                                                        exact o_Z.sub [1, 2, 3, 4, 0] rfl (ih _ _ h)
                                                      · replace h := o_in hc407 h
                                                        refine z_iconst (v := 0) dL_law_1367 (by decide) ?_
                                                        exact (o_n01 h).elim
                                                    · replace h := o_in hc400 h
                                                      refine z_tableOut (tgt := 1369) dL_law_39 (o_tsw24 (fun k => by
                                                        match k with
                                                        | ⟨0, _⟩ => exact hc4
                                                        | ⟨1, _⟩ => exact hc25
                                                        | ⟨2, _⟩ => exact hc42
                                                        | ⟨3, _⟩ => exact hc50
                                                        | ⟨4, _⟩ => exact hc58
                                                        | ⟨5, _⟩ => exact hc66
                                                        | ⟨6, _⟩ => exact hc87
                                                        | ⟨7, _⟩ => exact hc95
                                                        | ⟨8, _⟩ => exact hc112
                                                        | ⟨9, _⟩ => exact hc129
                                                        | ⟨10, _⟩ => exact hc146
                                                        | ⟨11, _⟩ => exact hc167
                                                        | ⟨12, _⟩ => exact hc184
                                                        | ⟨13, _⟩ => exact hc201
                                                        | ⟨14, _⟩ => exact hc218
                                                        | ⟨15, _⟩ => exact hc239
                                                        | ⟨16, _⟩ => exact hc256
                                                        | ⟨17, _⟩ => exact hc276
                                                        | ⟨18, _⟩ => exact hc284
                                                        | ⟨19, _⟩ => exact hc301
                                                        | ⟨20, _⟩ => exact hc326
                                                        | ⟨21, _⟩ => exact hc351
                                                        | ⟨22, _⟩ => exact hc383
                                                        | ⟨23, _⟩ => exact hc400
                                                        | ⟨n + 24, hn⟩ => exact absurd hn (by omega))) (by decide) ?_
                                                      refine z_iinc (v := _ + 4) (L' := [(4, .int _), (0, .ref _), (1, .ref _), (2, .ref _), (3, .ref _)]) dL_law_1369 4 rfl rfl (by decide) rfl ?_
                                                      refine z_goto (tgt := 23) dL_law_1372 (by decide) ?_
                                                      exact o_Z.sub [1, 2, 3, 4, 0] rfl (ih _ _ h)
theorem s_L_law {G : o_G} {N : Nat} {b Ls : Nat} {xs : Nat → Int32} {σ' : o_S} {s : o_S} (h : f_L_law N Ls xs s = some ((1 : Int32), σ')) : o_Z (o_up (o_ou G)) RL code ret 7 608 (o_EL (o_up (o_ou G)) b Ls xs) (o_k σ') s 20 [(3, .ref (g_ad G 43)), (2, .ref (g_ad G 6)), (1, .ref (g_ad G 0)), (0, .ref b)] [] := by
  unfold f_L_law at h
  refine z_iconst (v := 0) dL_law_20 (by decide) ?_
  refine z_istore (L' := [(4, .int _), (3, .ref _), (2, .ref _), (1, .ref _), (0, .ref _)]) dL_law_21 (by decide) rfl ?_
  exact o_Z.sub [4, 3, 2, 1, 0] rfl (s_L_law_L23 _ _ _ h)
