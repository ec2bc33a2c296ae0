/-! ===== the law: a block for each call ===== -/
theorem blk_addPuppet {Γ : GBase} {X : Cx} {L : Nat} {xs : Nat → Int32} (C : GC Γ X code 9 "CueBookLaw" 12 601024 7293034) (hX : LScr Γ X L xs) {S : PS} {x m o od j kc nc : Nat} {B : BT} (hLI : LI Γ S x m o od B) (hj : 5 * j + 5 ≤ L) (hk : kc + 92 ≤ 601024) (hn : nc + 4500 ≤ 7293034) (next : ∀ (S' : PS) (B' : BT), LI Γ S' x m o od B' → GW Γ X S' (kc + 92) (nc + 4500) 1566 [(0, .ref (bB Γ)), (1, .ref x), (2, .ref m), (3, .ref o), (4, .ref od), (5, .int (nI (5 * j)))] []) : GW Γ X S kc nc 156 [(0, .ref (bB Γ)), (1, .ref x), (2, .ref m), (3, .ref o), (4, .ref od), (5, .int (nI (5 * j)))] [] := by
  have hV := hLI.v
  have hm := hLI.m
  have hL0 := hLI
  obtain ⟨⟨A, hA⟩, ⟨rr, hM⟩, ho, hon, how, hod, hodn, hodw⟩ := hLI
  refine g_aload_n C dL_law_156 rfl rfl ?_
  refine g_aload_n C dL_law_157 rfl rfl ?_
  refine g_iload C dL_law_158 rfl ?_
  refine g_iconst C dL_law_160 (v := 1) (by decide) ?_
  refine g_iadd C dL_law_161 ?_
  refine g_sld C hX (nI_add (5 * j) 1) (by omega) dL_law_162 ?_
  refine g_aload_n C dL_law_163 rfl rfl ?_
  refine g_iload C dL_law_164 rfl ?_
  refine g_iconst C dL_law_166 (v := 2) (by decide) ?_
  refine g_iadd C dL_law_167 ?_
  refine g_sld C hX (nI_add (5 * j) 2) (by omega) dL_law_168 ?_
  refine g_aload_n C dL_law_169 rfl rfl ?_
  refine g_callSH C gyh_addPuppet tw_3_119 tw_3_120 (by decide) (lw_addPuppet C.F S x o (xs (5 * j + 1)) (xs (5 * j + 2)) A B hA ho hon (by rw [how]; exact hm)) rfl rfl (Nat.le_of_ble_eq_true rfl) (by omega) (by omega) dL_law_170 ?_
  rintro _ S1 ⟨k1, B1, v1, A1, hs1, hI1, hF1, rfl, ho1, hk4⟩
  obtain ⟨⟨rr1, hM1⟩, hw1⟩ := hL0.l hF1 hI1
  refine g_istore C dL_law_173 (by decide) rfl ?_
  refine g_aload_n C dL_law_175 rfl rfl ?_
  refine g_aload_n C dL_law_176 rfl rfl ?_
  refine g_iload C dL_law_177 rfl ?_
  refine g_iconst C dL_law_179 (v := 1) (by decide) ?_
  refine g_iadd C dL_law_180 ?_
  refine g_sld C hX (nI_add (5 * j) 1) (by omega) dL_law_181 ?_
  refine g_aload_n C dL_law_182 rfl rfl ?_
  refine g_iload C dL_law_183 rfl ?_
  refine g_iconst C dL_law_185 (v := 2) (by decide) ?_
  refine g_iadd C dL_law_186 ?_
  refine g_sld C hX (nI_add (5 * j) 2) (by omega) dL_law_187 ?_
  refine g_callV C gy_X6_addPuppet tw_5_161 tw_5_162 tw_5_163 (by decide) (kk := 6) rfl rfl (by exact hM1.1.m) (md_addPuppet C.F S1 m (xs (5 * j + 1)) (xs (5 * j + 2)) rr1 B hM1) rfl rfl (Nat.le_of_ble_eq_true rfl) (by omega) (by omega) dL_law_188 (fun _ _ h9 => h9.elim) ?_
  rintro _ _ ⟨k2, B2, v2, u2, hs2, hM2, ht2, hF2, rfl, hu2⟩
  rename_i S2
  obtain ⟨rfl, rfl, hv⟩ := fnAddPuppet B (xs (5 * j + 1)) (xs (5 * j + 2)) _ _ _ _ _ _ hs1 hs2
  obtain ⟨hLI2, hrl, hrd⟩ := LI.of hM1.1.m hI1 hw1 hF2 hM2
  refine g_istore C dL_law_191 (by decide) rfl ?_
  refine g_aload_n C dL_law_193 rfl rfl ?_
  refine g_callV C gy_X6_thrown tw_5_157 tw_5_158 tw_5_159 (by decide) (kk := 6) rfl rfl (by exact hLI2.m) (md_thrown C.F S2 m k1 hLI2.m ht2) rfl rfl (Nat.le_of_ble_eq_true rfl) (by omega) (by omega) dL_law_194 (fun _ _ h9 => h9.elim) ?_
  rintro _ _ ⟨rfl, rfl⟩
  refine g_iload C dL_law_197 rfl ?_
  refine g_icmp_eq C dL_law_199 (tgt := 204) (by decide) (fun c1 => ?_) (fun c1 => ?_)
  · refine g_iload C dL_law_204 rfl ?_
    refine g_if_ne C dL_law_206 (tgt := 221) (by decide) (fun c2 => ?_) (fun c2 => ?_)
    · refine g_goto C dL_law_221 (tgt := 1566) (by decide) ?_
      refine g_widen (kc + 92) (nc + 4500) (by omega) (by omega) ?_
      refine g_sub [(0, _), (1, _), (2, _), (3, _), (4, _), (5, _)] ⟨rfl, rfl, rfl, rfl, rfl, rfl, trivial⟩ ?_
      exact next S2 B1 hLI2
    · have k0 : k1 = 0 := (nI_eq (b := 0) (by omega) (by omega)).mp c2
      have eu : u2 = v1 := (hu2 k0).trans (hv k0).symm
      refine g_aload_n C dL_law_209 rfl rfl ?_
      refine g_iconst C dL_law_210 (v := 0) (by decide) ?_
      refine g_ldJ C rfl hLI2.2.2.1 (by rw [hLI2.2.2.2.1]; decide) (by decide) ((congrFun hrl 0).trans (ho1 k0)) dL_law_211 ?_
      refine g_iload C dL_law_212 rfl ?_
      refine g_i2l C dL_law_214 ?_
      refine g_lcmp C dL_law_215 ?_
      rw [eu, cmp_eq]
      refine g_if_eq C dL_law_216 (tgt := 221) (by decide) (fun c3 => ?_) (fun c3 => ?_)
      · refine g_goto C dL_law_221 (tgt := 1566) (by decide) ?_
        refine g_widen (kc + 92) (nc + 4500) (by omega) (by omega) ?_
        refine g_sub [(0, _), (1, _), (2, _), (3, _), (4, _), (5, _)] ⟨rfl, rfl, rfl, rfl, rfl, rfl, trivial⟩ ?_
        exact next S2 B1 hLI2
      · exact absurd rfl c3
  · exact absurd rfl c1
theorem blk_addPlayer {Γ : GBase} {X : Cx} {L : Nat} {xs : Nat → Int32} (C : GC Γ X code 9 "CueBookLaw" 12 601024 7293034) (hX : LScr Γ X L xs) {S : PS} {x m o od j kc nc : Nat} {B : BT} (hLI : LI Γ S x m o od B) (hj : 5 * j + 5 ≤ L) (hk : kc + 92 ≤ 601024) (hn : nc + 4500 ≤ 7293034) (next : ∀ (S' : PS) (B' : BT), LI Γ S' x m o od B' → GW Γ X S' (kc + 92) (nc + 4500) 1566 [(0, .ref (bB Γ)), (1, .ref x), (2, .ref m), (3, .ref o), (4, .ref od), (5, .int (nI (5 * j)))] []) : GW Γ X S kc nc 224 [(0, .ref (bB Γ)), (1, .ref x), (2, .ref m), (3, .ref o), (4, .ref od), (5, .int (nI (5 * j)))] [] := by
  have hV := hLI.v
  have hm := hLI.m
  have hL0 := hLI
  obtain ⟨⟨A, hA⟩, ⟨rr, hM⟩, ho, hon, how, hod, hodn, hodw⟩ := hLI
  refine g_aload_n C dL_law_224 rfl rfl ?_
  refine g_aload_n C dL_law_225 rfl rfl ?_
  refine g_iload C dL_law_226 rfl ?_
  refine g_iconst C dL_law_228 (v := 1) (by decide) ?_
  refine g_iadd C dL_law_229 ?_
  refine g_sld C hX (nI_add (5 * j) 1) (by omega) dL_law_230 ?_
  refine g_aload_n C dL_law_231 rfl rfl ?_
  refine g_iload C dL_law_232 rfl ?_
  refine g_iconst C dL_law_234 (v := 2) (by decide) ?_
  refine g_iadd C dL_law_235 ?_
  refine g_sld C hX (nI_add (5 * j) 2) (by omega) dL_law_236 ?_
  refine g_aload_n C dL_law_237 rfl rfl ?_
  refine g_callSH C gyh_addPlayer tw_3_199 tw_3_200 (by decide) (lw_addPlayer C.F S x o (xs (5 * j + 1)) (xs (5 * j + 2)) A B hA ho hon (by rw [how]; exact hm)) rfl rfl (Nat.le_of_ble_eq_true rfl) (by omega) (by omega) dL_law_238 ?_
  rintro _ S1 ⟨k1, B1, v1, A1, hs1, hI1, hF1, rfl, ho1, hk4⟩
  obtain ⟨⟨rr1, hM1⟩, hw1⟩ := hL0.l hF1 hI1
  refine g_istore C dL_law_241 (by decide) rfl ?_
  refine g_aload_n C dL_law_243 rfl rfl ?_
  refine g_aload_n C dL_law_244 rfl rfl ?_
  refine g_iload C dL_law_245 rfl ?_
  refine g_iconst C dL_law_247 (v := 1) (by decide) ?_
  refine g_iadd C dL_law_248 ?_
  refine g_sld C hX (nI_add (5 * j) 1) (by omega) dL_law_249 ?_
  refine g_aload_n C dL_law_250 rfl rfl ?_
  refine g_iload C dL_law_251 rfl ?_
  refine g_iconst C dL_law_253 (v := 2) (by decide) ?_
  refine g_iadd C dL_law_254 ?_
  refine g_sld C hX (nI_add (5 * j) 2) (by omega) dL_law_255 ?_
  refine g_callV C gy_X6_addPlayer tw_5_172 tw_5_173 tw_5_174 (by decide) (kk := 6) rfl rfl (by exact hM1.1.m) (md_addPlayer C.F S1 m (xs (5 * j + 1)) (xs (5 * j + 2)) rr1 B hM1) rfl rfl (Nat.le_of_ble_eq_true rfl) (by omega) (by omega) dL_law_256 (fun _ _ h9 => h9.elim) ?_
  rintro _ _ ⟨k2, B2, v2, u2, hs2, hM2, ht2, hF2, rfl, hu2⟩
  rename_i S2
  obtain ⟨rfl, rfl, hv⟩ := fnAddPlayer B (xs (5 * j + 1)) (xs (5 * j + 2)) _ _ _ _ _ _ hs1 hs2
  obtain ⟨hLI2, hrl, hrd⟩ := LI.of hM1.1.m hI1 hw1 hF2 hM2
  refine g_istore C dL_law_259 (by decide) rfl ?_
  refine g_aload_n C dL_law_261 rfl rfl ?_
  refine g_callV C gy_X6_thrown tw_5_157 tw_5_158 tw_5_159 (by decide) (kk := 6) rfl rfl (by exact hLI2.m) (md_thrown C.F S2 m k1 hLI2.m ht2) rfl rfl (Nat.le_of_ble_eq_true rfl) (by omega) (by omega) dL_law_262 (fun _ _ h9 => h9.elim) ?_
  rintro _ _ ⟨rfl, rfl⟩
  refine g_iload C dL_law_265 rfl ?_
  refine g_icmp_eq C dL_law_267 (tgt := 272) (by decide) (fun c1 => ?_) (fun c1 => ?_)
  · refine g_iload C dL_law_272 rfl ?_
    refine g_if_ne C dL_law_274 (tgt := 289) (by decide) (fun c2 => ?_) (fun c2 => ?_)
    · refine g_goto C dL_law_289 (tgt := 1566) (by decide) ?_
      refine g_widen (kc + 92) (nc + 4500) (by omega) (by omega) ?_
      refine g_sub [(0, _), (1, _), (2, _), (3, _), (4, _), (5, _)] ⟨rfl, rfl, rfl, rfl, rfl, rfl, trivial⟩ ?_
      exact next S2 B1 hLI2
    · have k0 : k1 = 0 := (nI_eq (b := 0) (by omega) (by omega)).mp c2
      have eu : u2 = v1 := (hu2 k0).trans (hv k0).symm
      refine g_aload_n C dL_law_277 rfl rfl ?_
      refine g_iconst C dL_law_278 (v := 0) (by decide) ?_
      refine g_ldJ C rfl hLI2.2.2.1 (by rw [hLI2.2.2.2.1]; decide) (by decide) ((congrFun hrl 0).trans (ho1 k0)) dL_law_279 ?_
      refine g_iload C dL_law_280 rfl ?_
      refine g_i2l C dL_law_282 ?_
      refine g_lcmp C dL_law_283 ?_
      rw [eu, cmp_eq]
      refine g_if_eq C dL_law_284 (tgt := 289) (by decide) (fun c3 => ?_) (fun c3 => ?_)
      · refine g_goto C dL_law_289 (tgt := 1566) (by decide) ?_
        refine g_widen (kc + 92) (nc + 4500) (by omega) (by omega) ?_
        refine g_sub [(0, _), (1, _), (2, _), (3, _), (4, _), (5, _)] ⟨rfl, rfl, rfl, rfl, rfl, rfl, trivial⟩ ?_
        exact next S2 B1 hLI2
      · exact absurd rfl c3
  · exact absurd rfl c1
theorem blk_enter {Γ : GBase} {X : Cx} {L : Nat} {xs : Nat → Int32} (C : GC Γ X code 9 "CueBookLaw" 12 601024 7293034) (hX : LScr Γ X L xs) {S : PS} {x m o od j kc nc : Nat} {B : BT} (hLI : LI Γ S x m o od B) (hj : 5 * j + 5 ≤ L) (hk : kc + 92 ≤ 601024) (hn : nc + 4500 ≤ 7293034) (next : ∀ (S' : PS) (B' : BT), LI Γ S' x m o od B' → GW Γ X S' (kc + 92) (nc + 4500) 1566 [(0, .ref (bB Γ)), (1, .ref x), (2, .ref m), (3, .ref o), (4, .ref od), (5, .int (nI (5 * j)))] []) : GW Γ X S kc nc 292 [(0, .ref (bB Γ)), (1, .ref x), (2, .ref m), (3, .ref o), (4, .ref od), (5, .int (nI (5 * j)))] [] := by
  have hV := hLI.v
  have hm := hLI.m
  have hL0 := hLI
  obtain ⟨⟨A, hA⟩, ⟨rr, hM⟩, ho, hon, how, hod, hodn, hodw⟩ := hLI
  refine g_aload_n C dL_law_292 rfl rfl ?_
  refine g_aload_n C dL_law_293 rfl rfl ?_
  refine g_iload C dL_law_294 rfl ?_
  refine g_iconst C dL_law_296 (v := 1) (by decide) ?_
  refine g_iadd C dL_law_297 ?_
  refine g_sld C hX (nI_add (5 * j) 1) (by omega) dL_law_298 ?_
  refine g_aload_n C dL_law_299 rfl rfl ?_
  refine g_iload C dL_law_300 rfl ?_
  refine g_iconst C dL_law_302 (v := 2) (by decide) ?_
  refine g_iadd C dL_law_303 ?_
  refine g_sld C hX (nI_add (5 * j) 2) (by omega) dL_law_304 ?_
  refine g_aload_n C dL_law_305 rfl rfl ?_
  refine g_iload C dL_law_306 rfl ?_
  refine g_iconst C dL_law_308 (v := 3) (by decide) ?_
  refine g_iadd C dL_law_309 ?_
  refine g_sld C hX (nI_add (5 * j) 3) (by omega) dL_law_310 ?_
  refine g_aload_n C dL_law_311 rfl rfl ?_
  refine g_iload C dL_law_312 rfl ?_
  refine g_iconst C dL_law_314 (v := 4) (by decide) ?_
  refine g_iadd C dL_law_315 ?_
  refine g_sld C hX (nI_add (5 * j) 4) (by omega) dL_law_316 ?_
  refine g_aload_n C dL_law_317 rfl rfl ?_
  refine g_callSH C gyh_enter tw_3_230 tw_3_231 (by decide) (lw_enter C.F S x o (xs (5 * j + 1)) (xs (5 * j + 2)) (xs (5 * j + 3)) (xs (5 * j + 4)) A B hA ho hon (by rw [how]; exact hm)) rfl rfl (Nat.le_of_ble_eq_true rfl) (by omega) (by omega) dL_law_318 ?_
  rintro _ S1 ⟨k1, B1, v1, A1, hs1, hI1, hF1, rfl, ho1, hk4⟩
  obtain ⟨⟨rr1, hM1⟩, hw1⟩ := hL0.l hF1 hI1
  refine g_istore C dL_law_321 (by decide) rfl ?_
  refine g_aload_n C dL_law_323 rfl rfl ?_
  refine g_aload_n C dL_law_324 rfl rfl ?_
  refine g_iload C dL_law_325 rfl ?_
  refine g_iconst C dL_law_327 (v := 1) (by decide) ?_
  refine g_iadd C dL_law_328 ?_
  refine g_sld C hX (nI_add (5 * j) 1) (by omega) dL_law_329 ?_
  refine g_aload_n C dL_law_330 rfl rfl ?_
  refine g_iload C dL_law_331 rfl ?_
  refine g_iconst C dL_law_333 (v := 2) (by decide) ?_
  refine g_iadd C dL_law_334 ?_
  refine g_sld C hX (nI_add (5 * j) 2) (by omega) dL_law_335 ?_
  refine g_aload_n C dL_law_336 rfl rfl ?_
  refine g_iload C dL_law_337 rfl ?_
  refine g_iconst C dL_law_339 (v := 3) (by decide) ?_
  refine g_iadd C dL_law_340 ?_
  refine g_sld C hX (nI_add (5 * j) 3) (by omega) dL_law_341 ?_
  refine g_aload_n C dL_law_342 rfl rfl ?_
  refine g_iload C dL_law_343 rfl ?_
  refine g_iconst C dL_law_345 (v := 4) (by decide) ?_
  refine g_iadd C dL_law_346 ?_
  refine g_sld C hX (nI_add (5 * j) 4) (by omega) dL_law_347 ?_
  refine g_callV C gy_X6_enter tw_5_176 tw_5_177 tw_5_178 (by decide) (kk := 6) rfl rfl (by exact hM1.1.m) (md_enter C.F S1 m (xs (5 * j + 1)) (xs (5 * j + 2)) (xs (5 * j + 3)) (xs (5 * j + 4)) rr1 B hM1) rfl rfl (Nat.le_of_ble_eq_true rfl) (by omega) (by omega) dL_law_348 (fun _ _ h9 => h9.elim) ?_
  rintro _ _ ⟨k2, B2, v2, u2, hs2, hM2, ht2, hF2, rfl, hu2⟩
  rename_i S2
  obtain ⟨rfl, rfl, hv⟩ := fnWr hV 0 (xs (5 * j + 1)) (xs (5 * j + 2)) (xs (5 * j + 3)) (xs (5 * j + 4)) _ _ _ _ _ _ hs1 hs2
  obtain ⟨hLI2, hrl, hrd⟩ := LI.of hM1.1.m hI1 hw1 hF2 hM2
  refine g_istore C dL_law_351 (by decide) rfl ?_
  refine g_aload_n C dL_law_353 rfl rfl ?_
  refine g_callV C gy_X6_thrown tw_5_157 tw_5_158 tw_5_159 (by decide) (kk := 6) rfl rfl (by exact hLI2.m) (md_thrown C.F S2 m k1 hLI2.m ht2) rfl rfl (Nat.le_of_ble_eq_true rfl) (by omega) (by omega) dL_law_354 (fun _ _ h9 => h9.elim) ?_
  rintro _ _ ⟨rfl, rfl⟩
  refine g_iload C dL_law_357 rfl ?_
  refine g_icmp_eq C dL_law_359 (tgt := 364) (by decide) (fun c1 => ?_) (fun c1 => ?_)
  · refine g_iload C dL_law_364 rfl ?_
    refine g_if_ne C dL_law_366 (tgt := 381) (by decide) (fun c2 => ?_) (fun c2 => ?_)
    · refine g_goto C dL_law_381 (tgt := 1566) (by decide) ?_
      refine g_widen (kc + 92) (nc + 4500) (by omega) (by omega) ?_
      refine g_sub [(0, _), (1, _), (2, _), (3, _), (4, _), (5, _)] ⟨rfl, rfl, rfl, rfl, rfl, rfl, trivial⟩ ?_
      exact next S2 B1 hLI2
    · have k0 : k1 = 0 := (nI_eq (b := 0) (by omega) (by omega)).mp c2
      have eu : u2 = v1 := (hu2 k0).trans (hv k0).symm
      refine g_aload_n C dL_law_369 rfl rfl ?_
      refine g_iconst C dL_law_370 (v := 0) (by decide) ?_
      refine g_ldJ C rfl hLI2.2.2.1 (by rw [hLI2.2.2.2.1]; decide) (by decide) ((congrFun hrl 0).trans (ho1 k0)) dL_law_371 ?_
      refine g_iload C dL_law_372 rfl ?_
      refine g_i2l C dL_law_374 ?_
      refine g_lcmp C dL_law_375 ?_
      rw [eu, cmp_eq]
      refine g_if_eq C dL_law_376 (tgt := 381) (by decide) (fun c3 => ?_) (fun c3 => ?_)
      · refine g_goto C dL_law_381 (tgt := 1566) (by decide) ?_
        refine g_widen (kc + 92) (nc + 4500) (by omega) (by omega) ?_
        refine g_sub [(0, _), (1, _), (2, _), (3, _), (4, _), (5, _)] ⟨rfl, rfl, rfl, rfl, rfl, rfl, trivial⟩ ?_
        exact next S2 B1 hLI2
      · exact absurd rfl c3
  · exact absurd rfl c1
theorem blk_move {Γ : GBase} {X : Cx} {L : Nat} {xs : Nat → Int32} (C : GC Γ X code 9 "CueBookLaw" 12 601024 7293034) (hX : LScr Γ X L xs) {S : PS} {x m o od j kc nc : Nat} {B : BT} (hLI : LI Γ S x m o od B) (hj : 5 * j + 5 ≤ L) (hk : kc + 92 ≤ 601024) (hn : nc + 4500 ≤ 7293034) (next : ∀ (S' : PS) (B' : BT), LI Γ S' x m o od B' → GW Γ X S' (kc + 92) (nc + 4500) 1566 [(0, .ref (bB Γ)), (1, .ref x), (2, .ref m), (3, .ref o), (4, .ref od), (5, .int (nI (5 * j)))] []) : GW Γ X S kc nc 384 [(0, .ref (bB Γ)), (1, .ref x), (2, .ref m), (3, .ref o), (4, .ref od), (5, .int (nI (5 * j)))] [] := by
  have hV := hLI.v
  have hm := hLI.m
  have hL0 := hLI
  obtain ⟨⟨A, hA⟩, ⟨rr, hM⟩, ho, hon, how, hod, hodn, hodw⟩ := hLI
  refine g_aload_n C dL_law_384 rfl rfl ?_
  refine g_aload_n C dL_law_385 rfl rfl ?_
  refine g_iload C dL_law_386 rfl ?_
  refine g_iconst C dL_law_388 (v := 1) (by decide) ?_
  refine g_iadd C dL_law_389 ?_
  refine g_sld C hX (nI_add (5 * j) 1) (by omega) dL_law_390 ?_
  refine g_aload_n C dL_law_391 rfl rfl ?_
  refine g_iload C dL_law_392 rfl ?_
  refine g_iconst C dL_law_394 (v := 2) (by decide) ?_
  refine g_iadd C dL_law_395 ?_
  refine g_sld C hX (nI_add (5 * j) 2) (by omega) dL_law_396 ?_
  refine g_aload_n C dL_law_397 rfl rfl ?_
  refine g_iload C dL_law_398 rfl ?_
  refine g_iconst C dL_law_400 (v := 3) (by decide) ?_
  refine g_iadd C dL_law_401 ?_
  refine g_sld C hX (nI_add (5 * j) 3) (by omega) dL_law_402 ?_
  refine g_aload_n C dL_law_403 rfl rfl ?_
  refine g_callSH C gyh_move tw_4_183 tw_4_184 (by decide) (lw_move C.F S x o (xs (5 * j + 1)) (xs (5 * j + 2)) (xs (5 * j + 3)) A B hA ho hon (by rw [how]; exact hm)) rfl rfl (Nat.le_of_ble_eq_true rfl) (by omega) (by omega) dL_law_404 ?_
  rintro _ S1 ⟨k1, B1, v1, A1, hs1, hI1, hF1, rfl, ho1, hk4⟩
  obtain ⟨⟨rr1, hM1⟩, hw1⟩ := hL0.l hF1 hI1
  refine g_istore C dL_law_407 (by decide) rfl ?_
  refine g_aload_n C dL_law_409 rfl rfl ?_
  refine g_aload_n C dL_law_410 rfl rfl ?_
  refine g_iload C dL_law_411 rfl ?_
  refine g_iconst C dL_law_413 (v := 1) (by decide) ?_
  refine g_iadd C dL_law_414 ?_
  refine g_sld C hX (nI_add (5 * j) 1) (by omega) dL_law_415 ?_
  refine g_aload_n C dL_law_416 rfl rfl ?_
  refine g_iload C dL_law_417 rfl ?_
  refine g_iconst C dL_law_419 (v := 2) (by decide) ?_
  refine g_iadd C dL_law_420 ?_
  refine g_sld C hX (nI_add (5 * j) 2) (by omega) dL_law_421 ?_
  refine g_aload_n C dL_law_422 rfl rfl ?_
  refine g_iload C dL_law_423 rfl ?_
  refine g_iconst C dL_law_425 (v := 3) (by decide) ?_
  refine g_iadd C dL_law_426 ?_
  refine g_sld C hX (nI_add (5 * j) 3) (by omega) dL_law_427 ?_
  refine g_callV C gy_X6_move tw_5_216 tw_5_217 tw_5_218 (by decide) (kk := 6) rfl rfl (by exact hM1.1.m) (md_move C.F S1 m (xs (5 * j + 1)) (xs (5 * j + 2)) (xs (5 * j + 3)) rr1 B hM1) rfl rfl (Nat.le_of_ble_eq_true rfl) (by omega) (by omega) dL_law_428 (fun _ _ h9 => h9.elim) ?_
  rintro _ _ ⟨k2, B2, v2, u2, hs2, hM2, ht2, hF2, rfl, hu2⟩
  rename_i S2
  obtain ⟨rfl, rfl, hv⟩ := fnWr hV 1 (xs (5 * j + 1)) (xs (5 * j + 2)) (xs (5 * j + 3)) (-1) _ _ _ _ _ _ hs1 hs2
  obtain ⟨hLI2, hrl, hrd⟩ := LI.of hM1.1.m hI1 hw1 hF2 hM2
  refine g_istore C dL_law_431 (by decide) rfl ?_
  refine g_aload_n C dL_law_433 rfl rfl ?_
  refine g_callV C gy_X6_thrown tw_5_157 tw_5_158 tw_5_159 (by decide) (kk := 6) rfl rfl (by exact hLI2.m) (md_thrown C.F S2 m k1 hLI2.m ht2) rfl rfl (Nat.le_of_ble_eq_true rfl) (by omega) (by omega) dL_law_434 (fun _ _ h9 => h9.elim) ?_
  rintro _ _ ⟨rfl, rfl⟩
  refine g_iload C dL_law_437 rfl ?_
  refine g_icmp_eq C dL_law_439 (tgt := 444) (by decide) (fun c1 => ?_) (fun c1 => ?_)
  · refine g_iload C dL_law_444 rfl ?_
    refine g_if_ne C dL_law_446 (tgt := 461) (by decide) (fun c2 => ?_) (fun c2 => ?_)
    · refine g_goto C dL_law_461 (tgt := 1566) (by decide) ?_
      refine g_widen (kc + 92) (nc + 4500) (by omega) (by omega) ?_
      refine g_sub [(0, _), (1, _), (2, _), (3, _), (4, _), (5, _)] ⟨rfl, rfl, rfl, rfl, rfl, rfl, trivial⟩ ?_
      exact next S2 B1 hLI2
    · have k0 : k1 = 0 := (nI_eq (b := 0) (by omega) (by omega)).mp c2
      have eu : u2 = v1 := (hu2 k0).trans (hv k0).symm
      refine g_aload_n C dL_law_449 rfl rfl ?_
      refine g_iconst C dL_law_450 (v := 0) (by decide) ?_
      refine g_ldJ C rfl hLI2.2.2.1 (by rw [hLI2.2.2.2.1]; decide) (by decide) ((congrFun hrl 0).trans (ho1 k0)) dL_law_451 ?_
      refine g_iload C dL_law_452 rfl ?_
      refine g_i2l C dL_law_454 ?_
      refine g_lcmp C dL_law_455 ?_
      rw [eu, cmp_eq]
      refine g_if_eq C dL_law_456 (tgt := 461) (by decide) (fun c3 => ?_) (fun c3 => ?_)
      · refine g_goto C dL_law_461 (tgt := 1566) (by decide) ?_
        refine g_widen (kc + 92) (nc + 4500) (by omega) (by omega) ?_
        refine g_sub [(0, _), (1, _), (2, _), (3, _), (4, _), (5, _)] ⟨rfl, rfl, rfl, rfl, rfl, rfl, trivial⟩ ?_
        exact next S2 B1 hLI2
      · exact absurd rfl c3
  · exact absurd rfl c1
theorem blk_shift {Γ : GBase} {X : Cx} {L : Nat} {xs : Nat → Int32} (C : GC Γ X code 9 "CueBookLaw" 12 601024 7293034) (hX : LScr Γ X L xs) {S : PS} {x m o od j kc nc : Nat} {B : BT} (hLI : LI Γ S x m o od B) (hj : 5 * j + 5 ≤ L) (hk : kc + 92 ≤ 601024) (hn : nc + 4500 ≤ 7293034) (next : ∀ (S' : PS) (B' : BT), LI Γ S' x m o od B' → GW Γ X S' (kc + 92) (nc + 4500) 1566 [(0, .ref (bB Γ)), (1, .ref x), (2, .ref m), (3, .ref o), (4, .ref od), (5, .int (nI (5 * j)))] []) : GW Γ X S kc nc 464 [(0, .ref (bB Γ)), (1, .ref x), (2, .ref m), (3, .ref o), (4, .ref od), (5, .int (nI (5 * j)))] [] := by
  have hV := hLI.v
  have hm := hLI.m
  have hL0 := hLI
  obtain ⟨⟨A, hA⟩, ⟨rr, hM⟩, ho, hon, how, hod, hodn, hodw⟩ := hLI
  refine g_aload_n C dL_law_464 rfl rfl ?_
  refine g_aload_n C dL_law_465 rfl rfl ?_
  refine g_iload C dL_law_466 rfl ?_
  refine g_iconst C dL_law_468 (v := 1) (by decide) ?_
  refine g_iadd C dL_law_469 ?_
  refine g_sld C hX (nI_add (5 * j) 1) (by omega) dL_law_470 ?_
  refine g_aload_n C dL_law_471 rfl rfl ?_
  refine g_iload C dL_law_472 rfl ?_
  refine g_iconst C dL_law_474 (v := 2) (by decide) ?_
  refine g_iadd C dL_law_475 ?_
  refine g_sld C hX (nI_add (5 * j) 2) (by omega) dL_law_476 ?_
  refine g_aload_n C dL_law_477 rfl rfl ?_
  refine g_iload C dL_law_478 rfl ?_
  refine g_iconst C dL_law_480 (v := 3) (by decide) ?_
  refine g_iadd C dL_law_481 ?_
  refine g_sld C hX (nI_add (5 * j) 3) (by omega) dL_law_482 ?_
  refine g_aload_n C dL_law_483 rfl rfl ?_
  refine g_callSH C gyh_shift tw_4_190 tw_4_191 (by decide) (lw_shift C.F S x o (xs (5 * j + 1)) (xs (5 * j + 2)) (xs (5 * j + 3)) A B hA ho hon (by rw [how]; exact hm)) rfl rfl (Nat.le_of_ble_eq_true rfl) (by omega) (by omega) dL_law_484 ?_
  rintro _ S1 ⟨k1, B1, v1, A1, hs1, hI1, hF1, rfl, ho1, hk4⟩
  obtain ⟨⟨rr1, hM1⟩, hw1⟩ := hL0.l hF1 hI1
  refine g_istore C dL_law_487 (by decide) rfl ?_
  refine g_aload_n C dL_law_489 rfl rfl ?_
  refine g_aload_n C dL_law_490 rfl rfl ?_
  refine g_iload C dL_law_491 rfl ?_
  refine g_iconst C dL_law_493 (v := 1) (by decide) ?_
  refine g_iadd C dL_law_494 ?_
  refine g_sld C hX (nI_add (5 * j) 1) (by omega) dL_law_495 ?_
  refine g_aload_n C dL_law_496 rfl rfl ?_
  refine g_iload C dL_law_497 rfl ?_
  refine g_iconst C dL_law_499 (v := 2) (by decide) ?_
  refine g_iadd C dL_law_500 ?_
  refine g_sld C hX (nI_add (5 * j) 2) (by omega) dL_law_501 ?_
  refine g_aload_n C dL_law_502 rfl rfl ?_
  refine g_iload C dL_law_503 rfl ?_
  refine g_iconst C dL_law_505 (v := 3) (by decide) ?_
  refine g_iadd C dL_law_506 ?_
  refine g_sld C hX (nI_add (5 * j) 3) (by omega) dL_law_507 ?_
  refine g_callV C gy_X6_shift tw_5_220 tw_5_221 tw_5_222 (by decide) (kk := 6) rfl rfl (by exact hM1.1.m) (md_shift C.F S1 m (xs (5 * j + 1)) (xs (5 * j + 2)) (xs (5 * j + 3)) rr1 B hM1) rfl rfl (Nat.le_of_ble_eq_true rfl) (by omega) (by omega) dL_law_508 (fun _ _ h9 => h9.elim) ?_
  rintro _ _ ⟨k2, B2, v2, u2, hs2, hM2, ht2, hF2, rfl, hu2⟩
  rename_i S2
  obtain ⟨rfl, rfl, hv⟩ := fnWr hV 2 (xs (5 * j + 1)) (xs (5 * j + 2)) (-1) (xs (5 * j + 3)) _ _ _ _ _ _ hs1 hs2
  obtain ⟨hLI2, hrl, hrd⟩ := LI.of hM1.1.m hI1 hw1 hF2 hM2
  refine g_istore C dL_law_511 (by decide) rfl ?_
  refine g_aload_n C dL_law_513 rfl rfl ?_
  refine g_callV C gy_X6_thrown tw_5_157 tw_5_158 tw_5_159 (by decide) (kk := 6) rfl rfl (by exact hLI2.m) (md_thrown C.F S2 m k1 hLI2.m ht2) rfl rfl (Nat.le_of_ble_eq_true rfl) (by omega) (by omega) dL_law_514 (fun _ _ h9 => h9.elim) ?_
  rintro _ _ ⟨rfl, rfl⟩
  refine g_iload C dL_law_517 rfl ?_
  refine g_icmp_eq C dL_law_519 (tgt := 524) (by decide) (fun c1 => ?_) (fun c1 => ?_)
  · refine g_iload C dL_law_524 rfl ?_
    refine g_if_ne C dL_law_526 (tgt := 541) (by decide) (fun c2 => ?_) (fun c2 => ?_)
    · refine g_goto C dL_law_541 (tgt := 1566) (by decide) ?_
      refine g_widen (kc + 92) (nc + 4500) (by omega) (by omega) ?_
      refine g_sub [(0, _), (1, _), (2, _), (3, _), (4, _), (5, _)] ⟨rfl, rfl, rfl, rfl, rfl, rfl, trivial⟩ ?_
      exact next S2 B1 hLI2
    · have k0 : k1 = 0 := (nI_eq (b := 0) (by omega) (by omega)).mp c2
      have eu : u2 = v1 := (hu2 k0).trans (hv k0).symm
      refine g_aload_n C dL_law_529 rfl rfl ?_
      refine g_iconst C dL_law_530 (v := 0) (by decide) ?_
      refine g_ldJ C rfl hLI2.2.2.1 (by rw [hLI2.2.2.2.1]; decide) (by decide) ((congrFun hrl 0).trans (ho1 k0)) dL_law_531 ?_
      refine g_iload C dL_law_532 rfl ?_
      refine g_i2l C dL_law_534 ?_
      refine g_lcmp C dL_law_535 ?_
      rw [eu, cmp_eq]
      refine g_if_eq C dL_law_536 (tgt := 541) (by decide) (fun c3 => ?_) (fun c3 => ?_)
      · refine g_goto C dL_law_541 (tgt := 1566) (by decide) ?_
        refine g_widen (kc + 92) (nc + 4500) (by omega) (by omega) ?_
        refine g_sub [(0, _), (1, _), (2, _), (3, _), (4, _), (5, _)] ⟨rfl, rfl, rfl, rfl, rfl, rfl, trivial⟩ ?_
        exact next S2 B1 hLI2
      · exact absurd rfl c3
  · exact absurd rfl c1
theorem blk_leave {Γ : GBase} {X : Cx} {L : Nat} {xs : Nat → Int32} (C : GC Γ X code 9 "CueBookLaw" 12 601024 7293034) (hX : LScr Γ X L xs) {S : PS} {x m o od j kc nc : Nat} {B : BT} (hLI : LI Γ S x m o od B) (hj : 5 * j + 5 ≤ L) (hk : kc + 92 ≤ 601024) (hn : nc + 4500 ≤ 7293034) (next : ∀ (S' : PS) (B' : BT), LI Γ S' x m o od B' → GW Γ X S' (kc + 92) (nc + 4500) 1566 [(0, .ref (bB Γ)), (1, .ref x), (2, .ref m), (3, .ref o), (4, .ref od), (5, .int (nI (5 * j)))] []) : GW Γ X S kc nc 544 [(0, .ref (bB Γ)), (1, .ref x), (2, .ref m), (3, .ref o), (4, .ref od), (5, .int (nI (5 * j)))] [] := by
  have hV := hLI.v
  have hm := hLI.m
  have hL0 := hLI
  obtain ⟨⟨A, hA⟩, ⟨rr, hM⟩, ho, hon, how, hod, hodn, hodw⟩ := hLI
  refine g_aload_n C dL_law_544 rfl rfl ?_
  refine g_aload_n C dL_law_545 rfl rfl ?_
  refine g_iload C dL_law_546 rfl ?_
  refine g_iconst C dL_law_548 (v := 1) (by decide) ?_
  refine g_iadd C dL_law_549 ?_
  refine g_sld C hX (nI_add (5 * j) 1) (by omega) dL_law_550 ?_
  refine g_aload_n C dL_law_551 rfl rfl ?_
  refine g_iload C dL_law_552 rfl ?_
  refine g_iconst C dL_law_554 (v := 2) (by decide) ?_
  refine g_iadd C dL_law_555 ?_
  refine g_sld C hX (nI_add (5 * j) 2) (by omega) dL_law_556 ?_
  refine g_aload_n C dL_law_557 rfl rfl ?_
  refine g_callSH C gyh_leave tw_4_197 tw_4_198 (by decide) (lw_leave C.F S x o (xs (5 * j + 1)) (xs (5 * j + 2)) A B hA ho hon (by rw [how]; exact hm)) rfl rfl (Nat.le_of_ble_eq_true rfl) (by omega) (by omega) dL_law_558 ?_
  rintro _ S1 ⟨k1, B1, v1, A1, hs1, hI1, hF1, rfl, ho1, hk4⟩
  obtain ⟨⟨rr1, hM1⟩, hw1⟩ := hL0.l hF1 hI1
  refine g_istore C dL_law_561 (by decide) rfl ?_
  refine g_aload_n C dL_law_563 rfl rfl ?_
  refine g_aload_n C dL_law_564 rfl rfl ?_
  refine g_iload C dL_law_565 rfl ?_
  refine g_iconst C dL_law_567 (v := 1) (by decide) ?_
  refine g_iadd C dL_law_568 ?_
  refine g_sld C hX (nI_add (5 * j) 1) (by omega) dL_law_569 ?_
  refine g_aload_n C dL_law_570 rfl rfl ?_
  refine g_iload C dL_law_571 rfl ?_
  refine g_iconst C dL_law_573 (v := 2) (by decide) ?_
  refine g_iadd C dL_law_574 ?_
  refine g_sld C hX (nI_add (5 * j) 2) (by omega) dL_law_575 ?_
  refine g_callV C gy_X6_leave tw_5_224 tw_5_225 tw_5_226 (by decide) (kk := 6) rfl rfl (by exact hM1.1.m) (md_leave C.F S1 m (xs (5 * j + 1)) (xs (5 * j + 2)) rr1 B hM1) rfl rfl (Nat.le_of_ble_eq_true rfl) (by omega) (by omega) dL_law_576 (fun _ _ h9 => h9.elim) ?_
  rintro _ _ ⟨k2, B2, v2, u2, hs2, hM2, ht2, hF2, rfl, hu2⟩
  rename_i S2
  obtain ⟨rfl, rfl, hv⟩ := fnWr hV 3 (xs (5 * j + 1)) (xs (5 * j + 2)) (-1) (-1) _ _ _ _ _ _ hs1 hs2
  obtain ⟨hLI2, hrl, hrd⟩ := LI.of hM1.1.m hI1 hw1 hF2 hM2
  refine g_istore C dL_law_579 (by decide) rfl ?_
  refine g_aload_n C dL_law_581 rfl rfl ?_
  refine g_callV C gy_X6_thrown tw_5_157 tw_5_158 tw_5_159 (by decide) (kk := 6) rfl rfl (by exact hLI2.m) (md_thrown C.F S2 m k1 hLI2.m ht2) rfl rfl (Nat.le_of_ble_eq_true rfl) (by omega) (by omega) dL_law_582 (fun _ _ h9 => h9.elim) ?_
  rintro _ _ ⟨rfl, rfl⟩
  refine g_iload C dL_law_585 rfl ?_
  refine g_icmp_eq C dL_law_587 (tgt := 592) (by decide) (fun c1 => ?_) (fun c1 => ?_)
  · refine g_iload C dL_law_592 rfl ?_
    refine g_if_ne C dL_law_594 (tgt := 609) (by decide) (fun c2 => ?_) (fun c2 => ?_)
    · refine g_goto C dL_law_609 (tgt := 1566) (by decide) ?_
      refine g_widen (kc + 92) (nc + 4500) (by omega) (by omega) ?_
      refine g_sub [(0, _), (1, _), (2, _), (3, _), (4, _), (5, _)] ⟨rfl, rfl, rfl, rfl, rfl, rfl, trivial⟩ ?_
      exact next S2 B1 hLI2
    · have k0 : k1 = 0 := (nI_eq (b := 0) (by omega) (by omega)).mp c2
      have eu : u2 = v1 := (hu2 k0).trans (hv k0).symm
      refine g_aload_n C dL_law_597 rfl rfl ?_
      refine g_iconst C dL_law_598 (v := 0) (by decide) ?_
      refine g_ldJ C rfl hLI2.2.2.1 (by rw [hLI2.2.2.2.1]; decide) (by decide) ((congrFun hrl 0).trans (ho1 k0)) dL_law_599 ?_
      refine g_iload C dL_law_600 rfl ?_
      refine g_i2l C dL_law_602 ?_
      refine g_lcmp C dL_law_603 ?_
      rw [eu, cmp_eq]
      refine g_if_eq C dL_law_604 (tgt := 609) (by decide) (fun c3 => ?_) (fun c3 => ?_)
      · refine g_goto C dL_law_609 (tgt := 1566) (by decide) ?_
        refine g_widen (kc + 92) (nc + 4500) (by omega) (by omega) ?_
        refine g_sub [(0, _), (1, _), (2, _), (3, _), (4, _), (5, _)] ⟨rfl, rfl, rfl, rfl, rfl, rfl, trivial⟩ ?_
        exact next S2 B1 hLI2
      · exact absurd rfl c3
  · exact absurd rfl c1
theorem blk_strike {Γ : GBase} {X : Cx} {L : Nat} {xs : Nat → Int32} (C : GC Γ X code 9 "CueBookLaw" 12 601024 7293034) (hX : LScr Γ X L xs) {S : PS} {x m o od j kc nc : Nat} {B : BT} (hLI : LI Γ S x m o od B) (hj : 5 * j + 5 ≤ L) (hk : kc + 92 ≤ 601024) (hn : nc + 4500 ≤ 7293034) (next : ∀ (S' : PS) (B' : BT), LI Γ S' x m o od B' → GW Γ X S' (kc + 92) (nc + 4500) 1566 [(0, .ref (bB Γ)), (1, .ref x), (2, .ref m), (3, .ref o), (4, .ref od), (5, .int (nI (5 * j)))] []) : GW Γ X S kc nc 612 [(0, .ref (bB Γ)), (1, .ref x), (2, .ref m), (3, .ref o), (4, .ref od), (5, .int (nI (5 * j)))] [] := by
  have hV := hLI.v
  have hm := hLI.m
  have hL0 := hLI
  obtain ⟨⟨A, hA⟩, ⟨rr, hM⟩, ho, hon, how, hod, hodn, hodw⟩ := hLI
  refine g_aload_n C dL_law_612 rfl rfl ?_
  refine g_aload_n C dL_law_613 rfl rfl ?_
  refine g_iload C dL_law_614 rfl ?_
  refine g_iconst C dL_law_616 (v := 1) (by decide) ?_
  refine g_iadd C dL_law_617 ?_
  refine g_sld C hX (nI_add (5 * j) 1) (by omega) dL_law_618 ?_
  refine g_aload_n C dL_law_619 rfl rfl ?_
  refine g_callSH C gyh_strike tw_4_204 tw_4_205 (by decide) (lw_strike C.F S x o (xs (5 * j + 1)) A B hA ho hon (by rw [how]; exact hm)) rfl rfl (Nat.le_of_ble_eq_true rfl) (by omega) (by omega) dL_law_620 ?_
  rintro _ S1 ⟨k1, B1, v1, A1, hs1, hI1, hF1, rfl, ho1, hk4⟩
  obtain ⟨⟨rr1, hM1⟩, hw1⟩ := hL0.l hF1 hI1
  refine g_istore C dL_law_623 (by decide) rfl ?_
  refine g_aload_n C dL_law_625 rfl rfl ?_
  refine g_aload_n C dL_law_626 rfl rfl ?_
  refine g_iload C dL_law_627 rfl ?_
  refine g_iconst C dL_law_629 (v := 1) (by decide) ?_
  refine g_iadd C dL_law_630 ?_
  refine g_sld C hX (nI_add (5 * j) 1) (by omega) dL_law_631 ?_
  refine g_callV C gy_X6_strike tw_5_228 tw_5_229 tw_5_230 (by decide) (kk := 6) rfl rfl (by exact hM1.1.m) (md_strike C.F S1 m (xs (5 * j + 1)) rr1 B hM1) rfl rfl (Nat.le_of_ble_eq_true rfl) (by omega) (by omega) dL_law_632 (fun _ _ h9 => h9.elim) ?_
  rintro _ _ ⟨k2, B2, v2, u2, hs2, hM2, ht2, hF2, rfl, hu2⟩
  rename_i S2
  obtain ⟨rfl, rfl, hv⟩ := fnStrike hV (xs (5 * j + 1)) _ _ _ _ _ _ hs1 hs2
  obtain ⟨hLI2, hrl, hrd⟩ := LI.of hM1.1.m hI1 hw1 hF2 hM2
  refine g_istore C dL_law_635 (by decide) rfl ?_
  refine g_aload_n C dL_law_637 rfl rfl ?_
  refine g_callV C gy_X6_thrown tw_5_157 tw_5_158 tw_5_159 (by decide) (kk := 6) rfl rfl (by exact hLI2.m) (md_thrown C.F S2 m k1 hLI2.m ht2) rfl rfl (Nat.le_of_ble_eq_true rfl) (by omega) (by omega) dL_law_638 (fun _ _ h9 => h9.elim) ?_
  rintro _ _ ⟨rfl, rfl⟩
  refine g_iload C dL_law_641 rfl ?_
  refine g_icmp_eq C dL_law_643 (tgt := 648) (by decide) (fun c1 => ?_) (fun c1 => ?_)
  · refine g_iload C dL_law_648 rfl ?_
    refine g_if_ne C dL_law_650 (tgt := 665) (by decide) (fun c2 => ?_) (fun c2 => ?_)
    · refine g_goto C dL_law_665 (tgt := 1566) (by decide) ?_
      refine g_widen (kc + 92) (nc + 4500) (by omega) (by omega) ?_
      refine g_sub [(0, _), (1, _), (2, _), (3, _), (4, _), (5, _)] ⟨rfl, rfl, rfl, rfl, rfl, rfl, trivial⟩ ?_
      exact next S2 B1 hLI2
    · have k0 : k1 = 0 := (nI_eq (b := 0) (by omega) (by omega)).mp c2
      have eu : u2 = v1 := (hu2 k0).trans (hv k0).symm
      refine g_aload_n C dL_law_653 rfl rfl ?_
      refine g_iconst C dL_law_654 (v := 0) (by decide) ?_
      refine g_ldJ C rfl hLI2.2.2.1 (by rw [hLI2.2.2.2.1]; decide) (by decide) ((congrFun hrl 0).trans (ho1 k0)) dL_law_655 ?_
      refine g_iload C dL_law_656 rfl ?_
      refine g_i2l C dL_law_658 ?_
      refine g_lcmp C dL_law_659 ?_
      rw [eu, cmp_eq]
      refine g_if_eq C dL_law_660 (tgt := 665) (by decide) (fun c3 => ?_) (fun c3 => ?_)
      · refine g_goto C dL_law_665 (tgt := 1566) (by decide) ?_
        refine g_widen (kc + 92) (nc + 4500) (by omega) (by omega) ?_
        refine g_sub [(0, _), (1, _), (2, _), (3, _), (4, _), (5, _)] ⟨rfl, rfl, rfl, rfl, rfl, rfl, trivial⟩ ?_
        exact next S2 B1 hLI2
      · exact absurd rfl c3
  · exact absurd rfl c1
theorem blk_count {Γ : GBase} {X : Cx} {L : Nat} {xs : Nat → Int32} (C : GC Γ X code 9 "CueBookLaw" 12 601024 7293034) (hX : LScr Γ X L xs) {S : PS} {x m o od j kc nc : Nat} {B : BT} (hLI : LI Γ S x m o od B) (hj : 5 * j + 5 ≤ L) (hk : kc + 92 ≤ 601024) (hn : nc + 4500 ≤ 7293034) (next : ∀ (S' : PS) (B' : BT), LI Γ S' x m o od B' → GW Γ X S' (kc + 92) (nc + 4500) 1566 [(0, .ref (bB Γ)), (1, .ref x), (2, .ref m), (3, .ref o), (4, .ref od), (5, .int (nI (5 * j)))] []) : GW Γ X S kc nc 668 [(0, .ref (bB Γ)), (1, .ref x), (2, .ref m), (3, .ref o), (4, .ref od), (5, .int (nI (5 * j)))] [] := by
  have hV := hLI.v
  have hm := hLI.m
  have hL0 := hLI
  obtain ⟨⟨A, hA⟩, ⟨rr, hM⟩, ho, hon, how, hod, hodn, hodw⟩ := hLI
  refine g_aload_n C dL_law_668 rfl rfl ?_
  refine g_aload_n C dL_law_669 rfl rfl ?_
  refine g_iload C dL_law_670 rfl ?_
  refine g_iconst C dL_law_672 (v := 1) (by decide) ?_
  refine g_iadd C dL_law_673 ?_
  refine g_sld C hX (nI_add (5 * j) 1) (by omega) dL_law_674 ?_
  refine g_aload_n C dL_law_675 rfl rfl ?_
  refine g_callSH C gyh_count tw_4_222 tw_4_223 (by decide) (lw_count C.F S x o (xs (5 * j + 1)) A B hA ho hon (by rw [how]; exact hm)) rfl rfl (Nat.le_of_ble_eq_true rfl) (by omega) (by omega) dL_law_676 ?_
  rintro _ S1 ⟨k1, B1, v1, A1, hs1, hI1, hF1, rfl, ho1, hk4⟩
  obtain ⟨⟨rr1, hM1⟩, hw1⟩ := hL0.l hF1 hI1
  refine g_istore C dL_law_679 (by decide) rfl ?_
  refine g_aload_n C dL_law_681 rfl rfl ?_
  refine g_aload_n C dL_law_682 rfl rfl ?_
  refine g_iload C dL_law_683 rfl ?_
  refine g_iconst C dL_law_685 (v := 1) (by decide) ?_
  refine g_iadd C dL_law_686 ?_
  refine g_sld C hX (nI_add (5 * j) 1) (by omega) dL_law_687 ?_
  refine g_callV C gy_X6_count tw_5_236 tw_5_237 tw_5_238 (by decide) (kk := 6) rfl rfl (by exact hM1.1.m) (md_count C.F S1 m (xs (5 * j + 1)) rr1 B hM1) rfl rfl (Nat.le_of_ble_eq_true rfl) (by omega) (by omega) dL_law_688 (fun _ _ h9 => h9.elim) ?_
  rintro _ _ ⟨k2, B2, v2, u2, hs2, hM2, ht2, hF2, rfl, hu2⟩
  rename_i S2
  obtain ⟨rfl, rfl, hv⟩ := fnCount hV (xs (5 * j + 1)) _ _ _ _ _ _ hs1 hs2
  obtain ⟨hLI2, hrl, hrd⟩ := LI.of hM1.1.m hI1 hw1 hF2 hM2
  refine g_istore C dL_law_691 (by decide) rfl ?_
  refine g_aload_n C dL_law_693 rfl rfl ?_
  refine g_callV C gy_X6_thrown tw_5_157 tw_5_158 tw_5_159 (by decide) (kk := 6) rfl rfl (by exact hLI2.m) (md_thrown C.F S2 m k1 hLI2.m ht2) rfl rfl (Nat.le_of_ble_eq_true rfl) (by omega) (by omega) dL_law_694 (fun _ _ h9 => h9.elim) ?_
  rintro _ _ ⟨rfl, rfl⟩
  refine g_iload C dL_law_697 rfl ?_
  refine g_icmp_eq C dL_law_699 (tgt := 704) (by decide) (fun c1 => ?_) (fun c1 => ?_)
  · refine g_iload C dL_law_704 rfl ?_
    refine g_if_ne C dL_law_706 (tgt := 721) (by decide) (fun c2 => ?_) (fun c2 => ?_)
    · refine g_goto C dL_law_721 (tgt := 1566) (by decide) ?_
      refine g_widen (kc + 92) (nc + 4500) (by omega) (by omega) ?_
      refine g_sub [(0, _), (1, _), (2, _), (3, _), (4, _), (5, _)] ⟨rfl, rfl, rfl, rfl, rfl, rfl, trivial⟩ ?_
      exact next S2 B1 hLI2
    · have k0 : k1 = 0 := (nI_eq (b := 0) (by omega) (by omega)).mp c2
      have eu : u2 = v1 := (hu2 k0).trans (hv k0).symm
      refine g_aload_n C dL_law_709 rfl rfl ?_
      refine g_iconst C dL_law_710 (v := 0) (by decide) ?_
      refine g_ldJ C rfl hLI2.2.2.1 (by rw [hLI2.2.2.2.1]; decide) (by decide) ((congrFun hrl 0).trans (ho1 k0)) dL_law_711 ?_
      refine g_iload C dL_law_712 rfl ?_
      refine g_i2l C dL_law_714 ?_
      refine g_lcmp C dL_law_715 ?_
      rw [eu, cmp_eq]
      refine g_if_eq C dL_law_716 (tgt := 721) (by decide) (fun c3 => ?_) (fun c3 => ?_)
      · refine g_goto C dL_law_721 (tgt := 1566) (by decide) ?_
        refine g_widen (kc + 92) (nc + 4500) (by omega) (by omega) ?_
        refine g_sub [(0, _), (1, _), (2, _), (3, _), (4, _), (5, _)] ⟨rfl, rfl, rfl, rfl, rfl, rfl, trivial⟩ ?_
        exact next S2 B1 hLI2
      · exact absurd rfl c3
  · exact absurd rfl c1
theorem blk_cue {Γ : GBase} {X : Cx} {L : Nat} {xs : Nat → Int32} (C : GC Γ X code 9 "CueBookLaw" 12 601024 7293034) (hX : LScr Γ X L xs) {S : PS} {x m o od j kc nc : Nat} {B : BT} (hLI : LI Γ S x m o od B) (hj : 5 * j + 5 ≤ L) (hk : kc + 92 ≤ 601024) (hn : nc + 4500 ≤ 7293034) (next : ∀ (S' : PS) (B' : BT), LI Γ S' x m o od B' → GW Γ X S' (kc + 92) (nc + 4500) 1566 [(0, .ref (bB Γ)), (1, .ref x), (2, .ref m), (3, .ref o), (4, .ref od), (5, .int (nI (5 * j)))] []) : GW Γ X S kc nc 724 [(0, .ref (bB Γ)), (1, .ref x), (2, .ref m), (3, .ref o), (4, .ref od), (5, .int (nI (5 * j)))] [] := by
  have hV := hLI.v
  have hm := hLI.m
  have hL0 := hLI
  obtain ⟨⟨A, hA⟩, ⟨rr, hM⟩, ho, hon, how, hod, hodn, hodw⟩ := hLI
  refine g_aload_n C dL_law_724 rfl rfl ?_
  refine g_aload_n C dL_law_725 rfl rfl ?_
  refine g_iload C dL_law_726 rfl ?_
  refine g_iconst C dL_law_728 (v := 1) (by decide) ?_
  refine g_iadd C dL_law_729 ?_
  refine g_sld C hX (nI_add (5 * j) 1) (by omega) dL_law_730 ?_
  refine g_aload_n C dL_law_731 rfl rfl ?_
  refine g_iload C dL_law_732 rfl ?_
  refine g_iconst C dL_law_734 (v := 2) (by decide) ?_
  refine g_iadd C dL_law_735 ?_
  refine g_sld C hX (nI_add (5 * j) 2) (by omega) dL_law_736 ?_
  refine g_aload_n C dL_law_737 rfl rfl ?_
  refine g_callSH C gyh_cue tw_4_230 tw_4_231 (by decide) (lw_cue C.F S x o (xs (5 * j + 1)) (xs (5 * j + 2)) A B hA ho hon (by rw [how]; exact hm)) rfl rfl (Nat.le_of_ble_eq_true rfl) (by omega) (by omega) dL_law_738 ?_
  rintro _ S1 ⟨k1, B1, v1, A1, hs1, hI1, hF1, rfl, ho1, hk4⟩
  obtain ⟨⟨rr1, hM1⟩, hw1⟩ := hL0.l hF1 hI1
  refine g_istore C dL_law_741 (by decide) rfl ?_
  refine g_aload_n C dL_law_743 rfl rfl ?_
  refine g_aload_n C dL_law_744 rfl rfl ?_
  refine g_iload C dL_law_745 rfl ?_
  refine g_iconst C dL_law_747 (v := 1) (by decide) ?_
  refine g_iadd C dL_law_748 ?_
  refine g_sld C hX (nI_add (5 * j) 1) (by omega) dL_law_749 ?_
  refine g_aload_n C dL_law_750 rfl rfl ?_
  refine g_iload C dL_law_751 rfl ?_
  refine g_iconst C dL_law_753 (v := 2) (by decide) ?_
  refine g_iadd C dL_law_754 ?_
  refine g_sld C hX (nI_add (5 * j) 2) (by omega) dL_law_755 ?_
  refine g_callV C gy_X6_cue tw_6_0 tw_6_1 tw_6_2 (by decide) (kk := 6) rfl rfl (by exact hM1.1.m) (md_cue C.F S1 m (xs (5 * j + 1)) (xs (5 * j + 2)) rr1 B hM1) rfl rfl (Nat.le_of_ble_eq_true rfl) (by omega) (by omega) dL_law_756 (fun _ _ h9 => h9.elim) ?_
  rintro _ _ ⟨k2, B2, v2, u2, hs2, hM2, ht2, hF2, rfl, hu2⟩
  rename_i S2
  obtain ⟨rfl, rfl, hv⟩ := fnCue hV (xs (5 * j + 1)) (xs (5 * j + 2)) _ _ _ _ _ _ hs1 hs2
  obtain ⟨hLI2, hrl, hrd⟩ := LI.of hM1.1.m hI1 hw1 hF2 hM2
  refine g_istore C dL_law_759 (by decide) rfl ?_
  refine g_aload_n C dL_law_761 rfl rfl ?_
  refine g_callV C gy_X6_thrown tw_5_157 tw_5_158 tw_5_159 (by decide) (kk := 6) rfl rfl (by exact hLI2.m) (md_thrown C.F S2 m k1 hLI2.m ht2) rfl rfl (Nat.le_of_ble_eq_true rfl) (by omega) (by omega) dL_law_762 (fun _ _ h9 => h9.elim) ?_
  rintro _ _ ⟨rfl, rfl⟩
  refine g_iload C dL_law_765 rfl ?_
  refine g_icmp_eq C dL_law_767 (tgt := 772) (by decide) (fun c1 => ?_) (fun c1 => ?_)
  · refine g_iload C dL_law_772 rfl ?_
    refine g_if_ne C dL_law_774 (tgt := 789) (by decide) (fun c2 => ?_) (fun c2 => ?_)
    · refine g_goto C dL_law_789 (tgt := 1566) (by decide) ?_
      refine g_widen (kc + 92) (nc + 4500) (by omega) (by omega) ?_
      refine g_sub [(0, _), (1, _), (2, _), (3, _), (4, _), (5, _)] ⟨rfl, rfl, rfl, rfl, rfl, rfl, trivial⟩ ?_
      exact next S2 B1 hLI2
    · have k0 : k1 = 0 := (nI_eq (b := 0) (by omega) (by omega)).mp c2
      have eu : u2 = v1 := (hu2 k0).trans (hv k0).symm
      refine g_aload_n C dL_law_777 rfl rfl ?_
      refine g_iconst C dL_law_778 (v := 0) (by decide) ?_
      refine g_ldJ C rfl hLI2.2.2.1 (by rw [hLI2.2.2.2.1]; decide) (by decide) ((congrFun hrl 0).trans (ho1 k0)) dL_law_779 ?_
      refine g_iload C dL_law_780 rfl ?_
      refine g_i2l C dL_law_782 ?_
      refine g_lcmp C dL_law_783 ?_
      rw [eu, cmp_eq]
      refine g_if_eq C dL_law_784 (tgt := 789) (by decide) (fun c3 => ?_) (fun c3 => ?_)
      · refine g_goto C dL_law_789 (tgt := 1566) (by decide) ?_
        refine g_widen (kc + 92) (nc + 4500) (by omega) (by omega) ?_
        refine g_sub [(0, _), (1, _), (2, _), (3, _), (4, _), (5, _)] ⟨rfl, rfl, rfl, rfl, rfl, rfl, trivial⟩ ?_
        exact next S2 B1 hLI2
      · exact absurd rfl c3
  · exact absurd rfl c1
theorem blk_place {Γ : GBase} {X : Cx} {L : Nat} {xs : Nat → Int32} (C : GC Γ X code 9 "CueBookLaw" 12 601024 7293034) (hX : LScr Γ X L xs) {S : PS} {x m o od j kc nc : Nat} {B : BT} (hLI : LI Γ S x m o od B) (hj : 5 * j + 5 ≤ L) (hk : kc + 92 ≤ 601024) (hn : nc + 4500 ≤ 7293034) (next : ∀ (S' : PS) (B' : BT), LI Γ S' x m o od B' → GW Γ X S' (kc + 92) (nc + 4500) 1566 [(0, .ref (bB Γ)), (1, .ref x), (2, .ref m), (3, .ref o), (4, .ref od), (5, .int (nI (5 * j)))] []) : GW Γ X S kc nc 792 [(0, .ref (bB Γ)), (1, .ref x), (2, .ref m), (3, .ref o), (4, .ref od), (5, .int (nI (5 * j)))] [] := by
  have hV := hLI.v
  have hm := hLI.m
  have hL0 := hLI
  obtain ⟨⟨A, hA⟩, ⟨rr, hM⟩, ho, hon, how, hod, hodn, hodw⟩ := hLI
  refine g_aload_n C dL_law_792 rfl rfl ?_
  refine g_aload_n C dL_law_793 rfl rfl ?_
  refine g_iload C dL_law_794 rfl ?_
  refine g_iconst C dL_law_796 (v := 1) (by decide) ?_
  refine g_iadd C dL_law_797 ?_
  refine g_sld C hX (nI_add (5 * j) 1) (by omega) dL_law_798 ?_
  refine g_aload_n C dL_law_799 rfl rfl ?_
  refine g_iload C dL_law_800 rfl ?_
  refine g_iconst C dL_law_802 (v := 2) (by decide) ?_
  refine g_iadd C dL_law_803 ?_
  refine g_sld C hX (nI_add (5 * j) 2) (by omega) dL_law_804 ?_
  refine g_aload_n C dL_law_805 rfl rfl ?_
  refine g_callSH C gyh_place tw_4_237 tw_4_238 (by decide) (lw_place C.F S x o (xs (5 * j + 1)) (xs (5 * j + 2)) A B hA ho hon (by rw [how]; exact hm)) rfl rfl (Nat.le_of_ble_eq_true rfl) (by omega) (by omega) dL_law_806 ?_
  rintro _ S1 ⟨k1, B1, v1, A1, hs1, hI1, hF1, rfl, ho1, hk4⟩
  obtain ⟨⟨rr1, hM1⟩, hw1⟩ := hL0.l hF1 hI1
  refine g_istore C dL_law_809 (by decide) rfl ?_
  refine g_aload_n C dL_law_811 rfl rfl ?_
  refine g_aload_n C dL_law_812 rfl rfl ?_
  refine g_iload C dL_law_813 rfl ?_
  refine g_iconst C dL_law_815 (v := 1) (by decide) ?_
  refine g_iadd C dL_law_816 ?_
  refine g_sld C hX (nI_add (5 * j) 1) (by omega) dL_law_817 ?_
  refine g_aload_n C dL_law_818 rfl rfl ?_
  refine g_iload C dL_law_819 rfl ?_
  refine g_iconst C dL_law_821 (v := 2) (by decide) ?_
  refine g_iadd C dL_law_822 ?_
  refine g_sld C hX (nI_add (5 * j) 2) (by omega) dL_law_823 ?_
  refine g_callV C gy_X6_place tw_6_4 tw_6_5 tw_6_6 (by decide) (kk := 6) rfl rfl (by exact hM1.1.m) (md_place C.F S1 m (xs (5 * j + 1)) (xs (5 * j + 2)) rr1 B hM1) rfl rfl (Nat.le_of_ble_eq_true rfl) (by omega) (by omega) dL_law_824 (fun _ _ h9 => h9.elim) ?_
  rintro _ _ ⟨k2, B2, v2, u2, hs2, hM2, ht2, hF2, rfl, hu2⟩
  rename_i S2
  obtain ⟨rfl, rfl, hv⟩ := fnPlace hV (xs (5 * j + 1)) (xs (5 * j + 2)) _ _ _ _ _ _ hs1 hs2
  obtain ⟨hLI2, hrl, hrd⟩ := LI.of hM1.1.m hI1 hw1 hF2 hM2
  refine g_istore C dL_law_827 (by decide) rfl ?_
  refine g_aload_n C dL_law_829 rfl rfl ?_
  refine g_callV C gy_X6_thrown tw_5_157 tw_5_158 tw_5_159 (by decide) (kk := 6) rfl rfl (by exact hLI2.m) (md_thrown C.F S2 m k1 hLI2.m ht2) rfl rfl (Nat.le_of_ble_eq_true rfl) (by omega) (by omega) dL_law_830 (fun _ _ h9 => h9.elim) ?_
  rintro _ _ ⟨rfl, rfl⟩
  refine g_iload C dL_law_833 rfl ?_
  refine g_icmp_eq C dL_law_835 (tgt := 840) (by decide) (fun c1 => ?_) (fun c1 => ?_)
  · refine g_iload C dL_law_840 rfl ?_
    refine g_if_ne C dL_law_842 (tgt := 857) (by decide) (fun c2 => ?_) (fun c2 => ?_)
    · refine g_goto C dL_law_857 (tgt := 1566) (by decide) ?_
      refine g_widen (kc + 92) (nc + 4500) (by omega) (by omega) ?_
      refine g_sub [(0, _), (1, _), (2, _), (3, _), (4, _), (5, _)] ⟨rfl, rfl, rfl, rfl, rfl, rfl, trivial⟩ ?_
      exact next S2 B1 hLI2
    · have k0 : k1 = 0 := (nI_eq (b := 0) (by omega) (by omega)).mp c2
      have eu : u2 = v1 := (hu2 k0).trans (hv k0).symm
      refine g_aload_n C dL_law_845 rfl rfl ?_
      refine g_iconst C dL_law_846 (v := 0) (by decide) ?_
      refine g_ldJ C rfl hLI2.2.2.1 (by rw [hLI2.2.2.2.1]; decide) (by decide) ((congrFun hrl 0).trans (ho1 k0)) dL_law_847 ?_
      refine g_iload C dL_law_848 rfl ?_
      refine g_i2l C dL_law_850 ?_
      refine g_lcmp C dL_law_851 ?_
      rw [eu, cmp_eq]
      refine g_if_eq C dL_law_852 (tgt := 857) (by decide) (fun c3 => ?_) (fun c3 => ?_)
      · refine g_goto C dL_law_857 (tgt := 1566) (by decide) ?_
        refine g_widen (kc + 92) (nc + 4500) (by omega) (by omega) ?_
        refine g_sub [(0, _), (1, _), (2, _), (3, _), (4, _), (5, _)] ⟨rfl, rfl, rfl, rfl, rfl, rfl, trivial⟩ ?_
        exact next S2 B1 hLI2
      · exact absurd rfl c3
  · exact absurd rfl c1
theorem blk_track {Γ : GBase} {X : Cx} {L : Nat} {xs : Nat → Int32} (C : GC Γ X code 9 "CueBookLaw" 12 601024 7293034) (hX : LScr Γ X L xs) {S : PS} {x m o od j kc nc : Nat} {B : BT} (hLI : LI Γ S x m o od B) (hj : 5 * j + 5 ≤ L) (hk : kc + 92 ≤ 601024) (hn : nc + 4500 ≤ 7293034) (next : ∀ (S' : PS) (B' : BT), LI Γ S' x m o od B' → GW Γ X S' (kc + 92) (nc + 4500) 1566 [(0, .ref (bB Γ)), (1, .ref x), (2, .ref m), (3, .ref o), (4, .ref od), (5, .int (nI (5 * j)))] []) : GW Γ X S kc nc 860 [(0, .ref (bB Γ)), (1, .ref x), (2, .ref m), (3, .ref o), (4, .ref od), (5, .int (nI (5 * j)))] [] := by
  have hV := hLI.v
  have hm := hLI.m
  have hL0 := hLI
  obtain ⟨⟨A, hA⟩, ⟨rr, hM⟩, ho, hon, how, hod, hodn, hodw⟩ := hLI
  refine g_aload_n C dL_law_860 rfl rfl ?_
  refine g_aload_n C dL_law_861 rfl rfl ?_
  refine g_iload C dL_law_862 rfl ?_
  refine g_iconst C dL_law_864 (v := 1) (by decide) ?_
  refine g_iadd C dL_law_865 ?_
  refine g_sld C hX (nI_add (5 * j) 1) (by omega) dL_law_866 ?_
  refine g_aload_n C dL_law_867 rfl rfl ?_
  refine g_iload C dL_law_868 rfl ?_
  refine g_iconst C dL_law_870 (v := 2) (by decide) ?_
  refine g_iadd C dL_law_871 ?_
  refine g_sld C hX (nI_add (5 * j) 2) (by omega) dL_law_872 ?_
  refine g_aload_n C dL_law_873 rfl rfl ?_
  refine g_callSH C gyh_track tw_5_4 tw_5_5 (by decide) (lw_track C.F S x o (xs (5 * j + 1)) (xs (5 * j + 2)) A B hA ho hon (by rw [how]; exact hm)) rfl rfl (Nat.le_of_ble_eq_true rfl) (by omega) (by omega) dL_law_874 ?_
  rintro _ S1 ⟨k1, B1, v1, A1, hs1, hI1, hF1, rfl, ho1, hk4⟩
  obtain ⟨⟨rr1, hM1⟩, hw1⟩ := hL0.l hF1 hI1
  refine g_istore C dL_law_877 (by decide) rfl ?_
  refine g_aload_n C dL_law_879 rfl rfl ?_
  refine g_aload_n C dL_law_880 rfl rfl ?_
  refine g_iload C dL_law_881 rfl ?_
  refine g_iconst C dL_law_883 (v := 1) (by decide) ?_
  refine g_iadd C dL_law_884 ?_
  refine g_sld C hX (nI_add (5 * j) 1) (by omega) dL_law_885 ?_
  refine g_aload_n C dL_law_886 rfl rfl ?_
  refine g_iload C dL_law_887 rfl ?_
  refine g_iconst C dL_law_889 (v := 2) (by decide) ?_
  refine g_iadd C dL_law_890 ?_
  refine g_sld C hX (nI_add (5 * j) 2) (by omega) dL_law_891 ?_
  refine g_callV C gy_X6_track tw_6_39 tw_6_40 tw_6_41 (by decide) (kk := 6) rfl rfl (by exact hM1.1.m) (md_track C.F S1 m (xs (5 * j + 1)) (xs (5 * j + 2)) rr1 B hM1) rfl rfl (Nat.le_of_ble_eq_true rfl) (by omega) (by omega) dL_law_892 (fun _ _ h9 => h9.elim) ?_
  rintro _ _ ⟨k2, B2, v2, u2, hs2, hM2, ht2, hF2, rfl, hu2⟩
  rename_i S2
  obtain ⟨rfl, rfl, hv⟩ := fnTrack hV (xs (5 * j + 1)) (xs (5 * j + 2)) _ _ _ _ _ _ hs1 hs2
  obtain ⟨hLI2, hrl, hrd⟩ := LI.of hM1.1.m hI1 hw1 hF2 hM2
  refine g_istore C dL_law_895 (by decide) rfl ?_
  refine g_aload_n C dL_law_897 rfl rfl ?_
  refine g_callV C gy_X6_thrown tw_5_157 tw_5_158 tw_5_159 (by decide) (kk := 6) rfl rfl (by exact hLI2.m) (md_thrown C.F S2 m k1 hLI2.m ht2) rfl rfl (Nat.le_of_ble_eq_true rfl) (by omega) (by omega) dL_law_898 (fun _ _ h9 => h9.elim) ?_
  rintro _ _ ⟨rfl, rfl⟩
  refine g_iload C dL_law_901 rfl ?_
  refine g_icmp_eq C dL_law_903 (tgt := 908) (by decide) (fun c1 => ?_) (fun c1 => ?_)
  · refine g_iload C dL_law_908 rfl ?_
    refine g_if_ne C dL_law_910 (tgt := 925) (by decide) (fun c2 => ?_) (fun c2 => ?_)
    · refine g_goto C dL_law_925 (tgt := 1566) (by decide) ?_
      refine g_widen (kc + 92) (nc + 4500) (by omega) (by omega) ?_
      refine g_sub [(0, _), (1, _), (2, _), (3, _), (4, _), (5, _)] ⟨rfl, rfl, rfl, rfl, rfl, rfl, trivial⟩ ?_
      exact next S2 B1 hLI2
    · have k0 : k1 = 0 := (nI_eq (b := 0) (by omega) (by omega)).mp c2
      have eu : u2 = v1 := (hu2 k0).trans (hv k0).symm
      refine g_aload_n C dL_law_913 rfl rfl ?_
      refine g_iconst C dL_law_914 (v := 0) (by decide) ?_
      refine g_ldJ C rfl hLI2.2.2.1 (by rw [hLI2.2.2.2.1]; decide) (by decide) ((congrFun hrl 0).trans (ho1 k0)) dL_law_915 ?_
      refine g_iload C dL_law_916 rfl ?_
      refine g_i2l C dL_law_918 ?_
      refine g_lcmp C dL_law_919 ?_
      rw [eu, cmp_eq]
      refine g_if_eq C dL_law_920 (tgt := 925) (by decide) (fun c3 => ?_) (fun c3 => ?_)
      · refine g_goto C dL_law_925 (tgt := 1566) (by decide) ?_
        refine g_widen (kc + 92) (nc + 4500) (by omega) (by omega) ?_
        refine g_sub [(0, _), (1, _), (2, _), (3, _), (4, _), (5, _)] ⟨rfl, rfl, rfl, rfl, rfl, rfl, trivial⟩ ?_
        exact next S2 B1 hLI2
      · exact absurd rfl c3
  · exact absurd rfl c1
theorem blk_onStage {Γ : GBase} {X : Cx} {L : Nat} {xs : Nat → Int32} (C : GC Γ X code 9 "CueBookLaw" 12 601024 7293034) (hX : LScr Γ X L xs) {S : PS} {x m o od j kc nc : Nat} {B : BT} (hLI : LI Γ S x m o od B) (hj : 5 * j + 5 ≤ L) (hk : kc + 92 ≤ 601024) (hn : nc + 4500 ≤ 7293034) (next : ∀ (S' : PS) (B' : BT), LI Γ S' x m o od B' → GW Γ X S' (kc + 92) (nc + 4500) 1566 [(0, .ref (bB Γ)), (1, .ref x), (2, .ref m), (3, .ref o), (4, .ref od), (5, .int (nI (5 * j)))] []) : GW Γ X S kc nc 928 [(0, .ref (bB Γ)), (1, .ref x), (2, .ref m), (3, .ref o), (4, .ref od), (5, .int (nI (5 * j)))] [] := by
  have hV := hLI.v
  have hm := hLI.m
  have hL0 := hLI
  obtain ⟨⟨A, hA⟩, ⟨rr, hM⟩, ho, hon, how, hod, hodn, hodw⟩ := hLI
  refine g_aload_n C dL_law_928 rfl rfl ?_
  refine g_aload_n C dL_law_929 rfl rfl ?_
  refine g_iload C dL_law_930 rfl ?_
  refine g_iconst C dL_law_932 (v := 1) (by decide) ?_
  refine g_iadd C dL_law_933 ?_
  refine g_sld C hX (nI_add (5 * j) 1) (by omega) dL_law_934 ?_
  refine g_aload_n C dL_law_935 rfl rfl ?_
  refine g_callSH C gyh_onStage tw_5_11 tw_5_12 (by decide) (lw_onStage C.F S x o (xs (5 * j + 1)) A B hA ho hon (by rw [how]; exact hm)) rfl rfl (Nat.le_of_ble_eq_true rfl) (by omega) (by omega) dL_law_936 ?_
  rintro _ S1 ⟨k1, B1, v1, A1, hs1, hI1, hF1, rfl, ho1, hk4⟩
  obtain ⟨⟨rr1, hM1⟩, hw1⟩ := hL0.l hF1 hI1
  refine g_istore C dL_law_939 (by decide) rfl ?_
  refine g_aload_n C dL_law_941 rfl rfl ?_
  refine g_aload_n C dL_law_942 rfl rfl ?_
  refine g_iload C dL_law_943 rfl ?_
  refine g_iconst C dL_law_945 (v := 1) (by decide) ?_
  refine g_iadd C dL_law_946 ?_
  refine g_sld C hX (nI_add (5 * j) 1) (by omega) dL_law_947 ?_
  refine g_callV C gy_X6_onStage tw_6_47 tw_6_48 tw_6_49 (by decide) (kk := 6) rfl rfl (by exact hM1.1.m) (md_onStage C.F S1 m (xs (5 * j + 1)) rr1 B hM1) rfl rfl (Nat.le_of_ble_eq_true rfl) (by omega) (by omega) dL_law_948 (fun _ _ h9 => h9.elim) ?_
  rintro _ _ ⟨k2, B2, v2, u2, hs2, hM2, ht2, hF2, rfl, hu2⟩
  rename_i S2
  obtain ⟨rfl, rfl, hv⟩ := fnOnStage B (xs (5 * j + 1)) _ _ _ _ _ _ hs1 hs2
  obtain ⟨hLI2, hrl, hrd⟩ := LI.of hM1.1.m hI1 hw1 hF2 hM2
  refine g_istore C dL_law_951 (by decide) rfl ?_
  refine g_aload_n C dL_law_953 rfl rfl ?_
  refine g_callV C gy_X6_thrown tw_5_157 tw_5_158 tw_5_159 (by decide) (kk := 6) rfl rfl (by exact hLI2.m) (md_thrown C.F S2 m k1 hLI2.m ht2) rfl rfl (Nat.le_of_ble_eq_true rfl) (by omega) (by omega) dL_law_954 (fun _ _ h9 => h9.elim) ?_
  rintro _ _ ⟨rfl, rfl⟩
  refine g_iload C dL_law_957 rfl ?_
  refine g_icmp_eq C dL_law_959 (tgt := 964) (by decide) (fun c1 => ?_) (fun c1 => ?_)
  · refine g_iload C dL_law_964 rfl ?_
    refine g_if_ne C dL_law_966 (tgt := 981) (by decide) (fun c2 => ?_) (fun c2 => ?_)
    · refine g_goto C dL_law_981 (tgt := 1566) (by decide) ?_
      refine g_widen (kc + 92) (nc + 4500) (by omega) (by omega) ?_
      refine g_sub [(0, _), (1, _), (2, _), (3, _), (4, _), (5, _)] ⟨rfl, rfl, rfl, rfl, rfl, rfl, trivial⟩ ?_
      exact next S2 B1 hLI2
    · have k0 : k1 = 0 := (nI_eq (b := 0) (by omega) (by omega)).mp c2
      have eu : u2 = v1 := (hu2 k0).trans (hv k0).symm
      refine g_aload_n C dL_law_969 rfl rfl ?_
      refine g_iconst C dL_law_970 (v := 0) (by decide) ?_
      refine g_ldJ C rfl hLI2.2.2.1 (by rw [hLI2.2.2.2.1]; decide) (by decide) ((congrFun hrl 0).trans (ho1 k0)) dL_law_971 ?_
      refine g_iload C dL_law_972 rfl ?_
      refine g_i2l C dL_law_974 ?_
      refine g_lcmp C dL_law_975 ?_
      rw [eu, cmp_eq]
      refine g_if_eq C dL_law_976 (tgt := 981) (by decide) (fun c3 => ?_) (fun c3 => ?_)
      · refine g_goto C dL_law_981 (tgt := 1566) (by decide) ?_
        refine g_widen (kc + 92) (nc + 4500) (by omega) (by omega) ?_
        refine g_sub [(0, _), (1, _), (2, _), (3, _), (4, _), (5, _)] ⟨rfl, rfl, rfl, rfl, rfl, rfl, trivial⟩ ?_
        exact next S2 B1 hLI2
      · exact absurd rfl c3
  · exact absurd rfl c1
theorem blk_clash {Γ : GBase} {X : Cx} {L : Nat} {xs : Nat → Int32} (C : GC Γ X code 9 "CueBookLaw" 12 601024 7293034) (hX : LScr Γ X L xs) {S : PS} {x m o od j kc nc : Nat} {B : BT} (hLI : LI Γ S x m o od B) (hj : 5 * j + 5 ≤ L) (hk : kc + 92 ≤ 601024) (hn : nc + 4500 ≤ 7293034) (next : ∀ (S' : PS) (B' : BT), LI Γ S' x m o od B' → GW Γ X S' (kc + 92) (nc + 4500) 1566 [(0, .ref (bB Γ)), (1, .ref x), (2, .ref m), (3, .ref o), (4, .ref od), (5, .int (nI (5 * j)))] []) : GW Γ X S kc nc 984 [(0, .ref (bB Γ)), (1, .ref x), (2, .ref m), (3, .ref o), (4, .ref od), (5, .int (nI (5 * j)))] [] := by
  have hV := hLI.v
  have hm := hLI.m
  have hL0 := hLI
  obtain ⟨⟨A, hA⟩, ⟨rr, hM⟩, ho, hon, how, hod, hodn, hodw⟩ := hLI
  refine g_aload_n C dL_law_984 rfl rfl ?_
  refine g_aload_n C dL_law_985 rfl rfl ?_
  refine g_iload C dL_law_986 rfl ?_
  refine g_iconst C dL_law_988 (v := 1) (by decide) ?_
  refine g_iadd C dL_law_989 ?_
  refine g_sld C hX (nI_add (5 * j) 1) (by omega) dL_law_990 ?_
  refine g_aload_n C dL_law_991 rfl rfl ?_
  refine g_iload C dL_law_992 rfl ?_
  refine g_iconst C dL_law_994 (v := 2) (by decide) ?_
  refine g_iadd C dL_law_995 ?_
  refine g_sld C hX (nI_add (5 * j) 2) (by omega) dL_law_996 ?_
  refine g_aload_n C dL_law_997 rfl rfl ?_
  refine g_callSH C gyh_clash tw_5_18 tw_5_19 (by decide) (lw_clash C.F S x o (xs (5 * j + 1)) (xs (5 * j + 2)) A B hA ho hon (by rw [how]; exact hm)) rfl rfl (Nat.le_of_ble_eq_true rfl) (by omega) (by omega) dL_law_998 ?_
  rintro _ S1 ⟨k1, B1, v1, A1, hs1, hI1, hF1, rfl, ho1, hk4⟩
  obtain ⟨⟨rr1, hM1⟩, hw1⟩ := hL0.l hF1 hI1
  refine g_istore C dL_law_1001 (by decide) rfl ?_
  refine g_aload_n C dL_law_1003 rfl rfl ?_
  refine g_aload_n C dL_law_1004 rfl rfl ?_
  refine g_iload C dL_law_1005 rfl ?_
  refine g_iconst C dL_law_1007 (v := 1) (by decide) ?_
  refine g_iadd C dL_law_1008 ?_
  refine g_sld C hX (nI_add (5 * j) 1) (by omega) dL_law_1009 ?_
  refine g_aload_n C dL_law_1010 rfl rfl ?_
  refine g_iload C dL_law_1011 rfl ?_
  refine g_iconst C dL_law_1013 (v := 2) (by decide) ?_
  refine g_iadd C dL_law_1014 ?_
  refine g_sld C hX (nI_add (5 * j) 2) (by omega) dL_law_1015 ?_
  refine g_callV C gy_X6_clash tw_6_51 tw_6_52 tw_6_53 (by decide) (kk := 6) rfl rfl (by exact hM1.1.m) (md_clash C.F S1 m (xs (5 * j + 1)) (xs (5 * j + 2)) rr1 B hM1) rfl rfl (Nat.le_of_ble_eq_true rfl) (by omega) (by omega) dL_law_1016 (fun _ _ h9 => h9.elim) ?_
  rintro _ _ ⟨k2, B2, v2, u2, hs2, hM2, ht2, hF2, rfl, hu2⟩
  rename_i S2
  obtain ⟨rfl, rfl, hv⟩ := fnClash hV (xs (5 * j + 1)) (xs (5 * j + 2)) _ _ _ _ _ _ hs1 hs2
  obtain ⟨hLI2, hrl, hrd⟩ := LI.of hM1.1.m hI1 hw1 hF2 hM2
  refine g_istore C dL_law_1019 (by decide) rfl ?_
  refine g_aload_n C dL_law_1021 rfl rfl ?_
  refine g_callV C gy_X6_thrown tw_5_157 tw_5_158 tw_5_159 (by decide) (kk := 6) rfl rfl (by exact hLI2.m) (md_thrown C.F S2 m k1 hLI2.m ht2) rfl rfl (Nat.le_of_ble_eq_true rfl) (by omega) (by omega) dL_law_1022 (fun _ _ h9 => h9.elim) ?_
  rintro _ _ ⟨rfl, rfl⟩
  refine g_iload C dL_law_1025 rfl ?_
  refine g_icmp_eq C dL_law_1027 (tgt := 1032) (by decide) (fun c1 => ?_) (fun c1 => ?_)
  · refine g_iload C dL_law_1032 rfl ?_
    refine g_if_ne C dL_law_1034 (tgt := 1049) (by decide) (fun c2 => ?_) (fun c2 => ?_)
    · refine g_goto C dL_law_1049 (tgt := 1566) (by decide) ?_
      refine g_widen (kc + 92) (nc + 4500) (by omega) (by omega) ?_
      refine g_sub [(0, _), (1, _), (2, _), (3, _), (4, _), (5, _)] ⟨rfl, rfl, rfl, rfl, rfl, rfl, trivial⟩ ?_
      exact next S2 B1 hLI2
    · have k0 : k1 = 0 := (nI_eq (b := 0) (by omega) (by omega)).mp c2
      have eu : u2 = v1 := (hu2 k0).trans (hv k0).symm
      refine g_aload_n C dL_law_1037 rfl rfl ?_
      refine g_iconst C dL_law_1038 (v := 0) (by decide) ?_
      refine g_ldJ C rfl hLI2.2.2.1 (by rw [hLI2.2.2.2.1]; decide) (by decide) ((congrFun hrl 0).trans (ho1 k0)) dL_law_1039 ?_
      refine g_iload C dL_law_1040 rfl ?_
      refine g_i2l C dL_law_1042 ?_
      refine g_lcmp C dL_law_1043 ?_
      rw [eu, cmp_eq]
      refine g_if_eq C dL_law_1044 (tgt := 1049) (by decide) (fun c3 => ?_) (fun c3 => ?_)
      · refine g_goto C dL_law_1049 (tgt := 1566) (by decide) ?_
        refine g_widen (kc + 92) (nc + 4500) (by omega) (by omega) ?_
        refine g_sub [(0, _), (1, _), (2, _), (3, _), (4, _), (5, _)] ⟨rfl, rfl, rfl, rfl, rfl, rfl, trivial⟩ ?_
        exact next S2 B1 hLI2
      · exact absurd rfl c3
  · exact absurd rfl c1
theorem blk_beats {Γ : GBase} {X : Cx} {L : Nat} {xs : Nat → Int32} (C : GC Γ X code 9 "CueBookLaw" 12 601024 7293034) (hX : LScr Γ X L xs) {S : PS} {x m o od j kc nc : Nat} {B : BT} (hLI : LI Γ S x m o od B) (hj : 5 * j + 5 ≤ L) (hk : kc + 92 ≤ 601024) (hn : nc + 4500 ≤ 7293034) (next : ∀ (S' : PS) (B' : BT), LI Γ S' x m o od B' → GW Γ X S' (kc + 92) (nc + 4500) 1566 [(0, .ref (bB Γ)), (1, .ref x), (2, .ref m), (3, .ref o), (4, .ref od), (5, .int (nI (5 * j)))] []) : GW Γ X S kc nc 1065 [(0, .ref (bB Γ)), (1, .ref x), (2, .ref m), (3, .ref o), (4, .ref od), (5, .int (nI (5 * j)))] [] := by
  have hV := hLI.v
  have hm := hLI.m
  have hL0 := hLI
  obtain ⟨⟨A, hA⟩, ⟨rr, hM⟩, ho, hon, how, hod, hodn, hodw⟩ := hLI
  refine g_aload_n C dL_law_1065 rfl rfl ?_
  refine g_aload_n C dL_law_1066 rfl rfl ?_
  refine g_iload C dL_law_1067 rfl ?_
  refine g_iconst C dL_law_1069 (v := 1) (by decide) ?_
  refine g_iadd C dL_law_1070 ?_
  refine g_sld C hX (nI_add (5 * j) 1) (by omega) dL_law_1071 ?_
  refine g_aload_n C dL_law_1072 rfl rfl ?_
  refine g_callSH C gyh_beats tw_5_26 tw_5_27 (by decide) (lw_beats C.F S x o (xs (5 * j + 1)) A B hA ho hon (by rw [how]; exact hm)) rfl rfl (Nat.le_of_ble_eq_true rfl) (by omega) (by omega) dL_law_1073 ?_
  rintro _ S1 ⟨k1, B1, v1, A1, hs1, hI1, hF1, rfl, ho1, hk4⟩
  obtain ⟨⟨rr1, hM1⟩, hw1⟩ := hL0.l hF1 hI1
  refine g_istore C dL_law_1076 (by decide) rfl ?_
  refine g_aload_n C dL_law_1078 rfl rfl ?_
  refine g_aload_n C dL_law_1079 rfl rfl ?_
  refine g_iload C dL_law_1080 rfl ?_
  refine g_iconst C dL_law_1082 (v := 1) (by decide) ?_
  refine g_iadd C dL_law_1083 ?_
  refine g_sld C hX (nI_add (5 * j) 1) (by omega) dL_law_1084 ?_
  refine g_callV C gy_X6_beats tw_6_71 tw_6_72 tw_6_73 (by decide) (kk := 6) rfl rfl (by exact hM1.1.m) (md_beats C.F S1 m (xs (5 * j + 1)) rr1 B hM1) rfl rfl (Nat.le_of_ble_eq_true rfl) (by omega) (by omega) dL_law_1085 (fun _ _ h9 => h9.elim) ?_
  rintro _ _ ⟨k2, B2, v2, u2, hs2, hM2, ht2, hF2, rfl, hu2⟩
  rename_i S2
  obtain ⟨rfl, rfl, hv⟩ := fnBeats hV (xs (5 * j + 1)) _ _ _ _ _ _ hs1 hs2
  obtain ⟨hLI2, hrl, hrd⟩ := LI.of hM1.1.m hI1 hw1 hF2 hM2
  refine g_istore C dL_law_1088 (by decide) rfl ?_
  refine g_aload_n C dL_law_1090 rfl rfl ?_
  refine g_callV C gy_X6_thrown tw_5_157 tw_5_158 tw_5_159 (by decide) (kk := 6) rfl rfl (by exact hLI2.m) (md_thrown C.F S2 m k1 hLI2.m ht2) rfl rfl (Nat.le_of_ble_eq_true rfl) (by omega) (by omega) dL_law_1091 (fun _ _ h9 => h9.elim) ?_
  rintro _ _ ⟨rfl, rfl⟩
  refine g_iload C dL_law_1094 rfl ?_
  refine g_icmp_eq C dL_law_1096 (tgt := 1101) (by decide) (fun c1 => ?_) (fun c1 => ?_)
  · refine g_iload C dL_law_1101 rfl ?_
    refine g_if_ne C dL_law_1103 (tgt := 1118) (by decide) (fun c2 => ?_) (fun c2 => ?_)
    · refine g_goto C dL_law_1118 (tgt := 1566) (by decide) ?_
      refine g_widen (kc + 92) (nc + 4500) (by omega) (by omega) ?_
      refine g_sub [(0, _), (1, _), (2, _), (3, _), (4, _), (5, _)] ⟨rfl, rfl, rfl, rfl, rfl, rfl, trivial⟩ ?_
      exact next S2 B1 hLI2
    · have k0 : k1 = 0 := (nI_eq (b := 0) (by omega) (by omega)).mp c2
      have eu : u2 = v1 := (hu2 k0).trans (hv k0).symm
      refine g_aload_n C dL_law_1106 rfl rfl ?_
      refine g_iconst C dL_law_1107 (v := 0) (by decide) ?_
      refine g_ldJ C rfl hLI2.2.2.1 (by rw [hLI2.2.2.2.1]; decide) (by decide) ((congrFun hrl 0).trans (ho1 k0)) dL_law_1108 ?_
      refine g_iload C dL_law_1109 rfl ?_
      refine g_i2l C dL_law_1111 ?_
      refine g_lcmp C dL_law_1112 ?_
      rw [eu, cmp_eq]
      refine g_if_eq C dL_law_1113 (tgt := 1118) (by decide) (fun c3 => ?_) (fun c3 => ?_)
      · refine g_goto C dL_law_1118 (tgt := 1566) (by decide) ?_
        refine g_widen (kc + 92) (nc + 4500) (by omega) (by omega) ?_
        refine g_sub [(0, _), (1, _), (2, _), (3, _), (4, _), (5, _)] ⟨rfl, rfl, rfl, rfl, rfl, rfl, trivial⟩ ?_
        exact next S2 B1 hLI2
      · exact absurd rfl c3
  · exact absurd rfl c1
theorem blk_stays {Γ : GBase} {X : Cx} {L : Nat} {xs : Nat → Int32} (C : GC Γ X code 9 "CueBookLaw" 12 601024 7293034) (hX : LScr Γ X L xs) {S : PS} {x m o od j kc nc : Nat} {B : BT} (hLI : LI Γ S x m o od B) (hj : 5 * j + 5 ≤ L) (hk : kc + 92 ≤ 601024) (hn : nc + 4500 ≤ 7293034) (next : ∀ (S' : PS) (B' : BT), LI Γ S' x m o od B' → GW Γ X S' (kc + 92) (nc + 4500) 1566 [(0, .ref (bB Γ)), (1, .ref x), (2, .ref m), (3, .ref o), (4, .ref od), (5, .int (nI (5 * j)))] []) : GW Γ X S kc nc 1121 [(0, .ref (bB Γ)), (1, .ref x), (2, .ref m), (3, .ref o), (4, .ref od), (5, .int (nI (5 * j)))] [] := by
  have hV := hLI.v
  have hm := hLI.m
  have hL0 := hLI
  obtain ⟨⟨A, hA⟩, ⟨rr, hM⟩, ho, hon, how, hod, hodn, hodw⟩ := hLI
  refine g_aload_n C dL_law_1121 rfl rfl ?_
  refine g_aload_n C dL_law_1122 rfl rfl ?_
  refine g_iload C dL_law_1123 rfl ?_
  refine g_iconst C dL_law_1125 (v := 1) (by decide) ?_
  refine g_iadd C dL_law_1126 ?_
  refine g_sld C hX (nI_add (5 * j) 1) (by omega) dL_law_1127 ?_
  refine g_aload_n C dL_law_1128 rfl rfl ?_
  refine g_callSH C gyh_stays tw_5_33 tw_5_34 (by decide) (lw_stays C.F S x o (xs (5 * j + 1)) A B hA ho hon (by rw [how]; exact hm)) rfl rfl (Nat.le_of_ble_eq_true rfl) (by omega) (by omega) dL_law_1129 ?_
  rintro _ S1 ⟨k1, B1, v1, A1, hs1, hI1, hF1, rfl, ho1, hk4⟩
  obtain ⟨⟨rr1, hM1⟩, hw1⟩ := hL0.l hF1 hI1
  refine g_istore C dL_law_1132 (by decide) rfl ?_
  refine g_aload_n C dL_law_1134 rfl rfl ?_
  refine g_aload_n C dL_law_1135 rfl rfl ?_
  refine g_iload C dL_law_1136 rfl ?_
  refine g_iconst C dL_law_1138 (v := 1) (by decide) ?_
  refine g_iadd C dL_law_1139 ?_
  refine g_sld C hX (nI_add (5 * j) 1) (by omega) dL_law_1140 ?_
  refine g_callV C gy_X6_stays tw_6_75 tw_6_76 tw_6_77 (by decide) (kk := 6) rfl rfl (by exact hM1.1.m) (md_stays C.F S1 m (xs (5 * j + 1)) rr1 B hM1) rfl rfl (Nat.le_of_ble_eq_true rfl) (by omega) (by omega) dL_law_1141 (fun _ _ h9 => h9.elim) ?_
  rintro _ _ ⟨k2, B2, v2, u2, hs2, hM2, ht2, hF2, rfl, hu2⟩
  rename_i S2
  obtain ⟨rfl, rfl, hv⟩ := fnStays hV (xs (5 * j + 1)) _ _ _ _ _ _ hs1 hs2
  obtain ⟨hLI2, hrl, hrd⟩ := LI.of hM1.1.m hI1 hw1 hF2 hM2
  refine g_istore C dL_law_1144 (by decide) rfl ?_
  refine g_aload_n C dL_law_1146 rfl rfl ?_
  refine g_callV C gy_X6_thrown tw_5_157 tw_5_158 tw_5_159 (by decide) (kk := 6) rfl rfl (by exact hLI2.m) (md_thrown C.F S2 m k1 hLI2.m ht2) rfl rfl (Nat.le_of_ble_eq_true rfl) (by omega) (by omega) dL_law_1147 (fun _ _ h9 => h9.elim) ?_
  rintro _ _ ⟨rfl, rfl⟩
  refine g_iload C dL_law_1150 rfl ?_
  refine g_icmp_eq C dL_law_1152 (tgt := 1157) (by decide) (fun c1 => ?_) (fun c1 => ?_)
  · refine g_iload C dL_law_1157 rfl ?_
    refine g_if_ne C dL_law_1159 (tgt := 1174) (by decide) (fun c2 => ?_) (fun c2 => ?_)
    · refine g_goto C dL_law_1174 (tgt := 1566) (by decide) ?_
      refine g_widen (kc + 92) (nc + 4500) (by omega) (by omega) ?_
      refine g_sub [(0, _), (1, _), (2, _), (3, _), (4, _), (5, _)] ⟨rfl, rfl, rfl, rfl, rfl, rfl, trivial⟩ ?_
      exact next S2 B1 hLI2
    · have k0 : k1 = 0 := (nI_eq (b := 0) (by omega) (by omega)).mp c2
      have eu : u2 = v1 := (hu2 k0).trans (hv k0).symm
      refine g_aload_n C dL_law_1162 rfl rfl ?_
      refine g_iconst C dL_law_1163 (v := 0) (by decide) ?_
      refine g_ldJ C rfl hLI2.2.2.1 (by rw [hLI2.2.2.2.1]; decide) (by decide) ((congrFun hrl 0).trans (ho1 k0)) dL_law_1164 ?_
      refine g_iload C dL_law_1165 rfl ?_
      refine g_i2l C dL_law_1167 ?_
      refine g_lcmp C dL_law_1168 ?_
      rw [eu, cmp_eq]
      refine g_if_eq C dL_law_1169 (tgt := 1174) (by decide) (fun c3 => ?_) (fun c3 => ?_)
      · refine g_goto C dL_law_1174 (tgt := 1566) (by decide) ?_
        refine g_widen (kc + 92) (nc + 4500) (by omega) (by omega) ?_
        refine g_sub [(0, _), (1, _), (2, _), (3, _), (4, _), (5, _)] ⟨rfl, rfl, rfl, rfl, rfl, rfl, trivial⟩ ?_
        exact next S2 B1 hLI2
      · exact absurd rfl c3
  · exact absurd rfl c1
theorem blk_stay {Γ : GBase} {X : Cx} {L : Nat} {xs : Nat → Int32} (C : GC Γ X code 9 "CueBookLaw" 12 601024 7293034) (hX : LScr Γ X L xs) {S : PS} {x m o od j kc nc : Nat} {B : BT} (hLI : LI Γ S x m o od B) (hj : 5 * j + 5 ≤ L) (hk : kc + 92 ≤ 601024) (hn : nc + 4500 ≤ 7293034) (next : ∀ (S' : PS) (B' : BT), LI Γ S' x m o od B' → GW Γ X S' (kc + 92) (nc + 4500) 1566 [(0, .ref (bB Γ)), (1, .ref x), (2, .ref m), (3, .ref o), (4, .ref od), (5, .int (nI (5 * j)))] []) : GW Γ X S kc nc 1177 [(0, .ref (bB Γ)), (1, .ref x), (2, .ref m), (3, .ref o), (4, .ref od), (5, .int (nI (5 * j)))] [] := by
  have hV := hLI.v
  have hm := hLI.m
  have hL0 := hLI
  obtain ⟨⟨A, hA⟩, ⟨rr, hM⟩, ho, hon, how, hod, hodn, hodw⟩ := hLI
  refine g_aload_n C dL_law_1177 rfl rfl ?_
  refine g_aload_n C dL_law_1178 rfl rfl ?_
  refine g_iload C dL_law_1179 rfl ?_
  refine g_iconst C dL_law_1181 (v := 1) (by decide) ?_
  refine g_iadd C dL_law_1182 ?_
  refine g_sld C hX (nI_add (5 * j) 1) (by omega) dL_law_1183 ?_
  refine g_aload_n C dL_law_1184 rfl rfl ?_
  refine g_iload C dL_law_1185 rfl ?_
  refine g_iconst C dL_law_1187 (v := 2) (by decide) ?_
  refine g_iadd C dL_law_1188 ?_
  refine g_sld C hX (nI_add (5 * j) 2) (by omega) dL_law_1189 ?_
  refine g_aload_n C dL_law_1190 rfl rfl ?_
  refine g_iload C dL_law_1191 rfl ?_
  refine g_iconst C dL_law_1193 (v := 3) (by decide) ?_
  refine g_iadd C dL_law_1194 ?_
  refine g_sld C hX (nI_add (5 * j) 3) (by omega) dL_law_1195 ?_
  refine g_aload_n C dL_law_1196 rfl rfl ?_
  refine g_callSH C gyh_stay tw_5_40 tw_5_41 (by decide) (lw_stay C.F S x o (xs (5 * j + 1)) (xs (5 * j + 2)) (xs (5 * j + 3)) A B hA ho hon (by rw [how]; exact hm)) rfl rfl (Nat.le_of_ble_eq_true rfl) (by omega) (by omega) dL_law_1197 ?_
  rintro _ S1 ⟨k1, B1, v1, A1, hs1, hI1, hF1, rfl, ho1, hk4⟩
  obtain ⟨⟨rr1, hM1⟩, hw1⟩ := hL0.l hF1 hI1
  refine g_istore C dL_law_1200 (by decide) rfl ?_
  refine g_aload_n C dL_law_1202 rfl rfl ?_
  refine g_aload_n C dL_law_1203 rfl rfl ?_
  refine g_iload C dL_law_1204 rfl ?_
  refine g_iconst C dL_law_1206 (v := 1) (by decide) ?_
  refine g_iadd C dL_law_1207 ?_
  refine g_sld C hX (nI_add (5 * j) 1) (by omega) dL_law_1208 ?_
  refine g_aload_n C dL_law_1209 rfl rfl ?_
  refine g_iload C dL_law_1210 rfl ?_
  refine g_iconst C dL_law_1212 (v := 2) (by decide) ?_
  refine g_iadd C dL_law_1213 ?_
  refine g_sld C hX (nI_add (5 * j) 2) (by omega) dL_law_1214 ?_
  refine g_aload_n C dL_law_1215 rfl rfl ?_
  refine g_iload C dL_law_1216 rfl ?_
  refine g_iconst C dL_law_1218 (v := 3) (by decide) ?_
  refine g_iadd C dL_law_1219 ?_
  refine g_sld C hX (nI_add (5 * j) 3) (by omega) dL_law_1220 ?_
  refine g_callV C gy_X6_stay tw_6_79 tw_6_80 tw_6_81 (by decide) (kk := 6) rfl rfl (by exact hM1.1.m) (md_stay C.F S1 m (xs (5 * j + 1)) (xs (5 * j + 2)) (xs (5 * j + 3)) rr1 B hM1) rfl rfl (Nat.le_of_ble_eq_true rfl) (by omega) (by omega) dL_law_1221 (fun _ _ h9 => h9.elim) ?_
  rintro _ _ ⟨k2, B2, v2, u2, hs2, hM2, ht2, hF2, rfl, hu2⟩
  rename_i S2
  obtain ⟨rfl, rfl, hv⟩ := fnStay hV (xs (5 * j + 1)) (xs (5 * j + 2)) (xs (5 * j + 3)) _ _ _ _ _ _ hs1 hs2
  obtain ⟨hLI2, hrl, hrd⟩ := LI.of hM1.1.m hI1 hw1 hF2 hM2
  refine g_istore C dL_law_1224 (by decide) rfl ?_
  refine g_aload_n C dL_law_1226 rfl rfl ?_
  refine g_callV C gy_X6_thrown tw_5_157 tw_5_158 tw_5_159 (by decide) (kk := 6) rfl rfl (by exact hLI2.m) (md_thrown C.F S2 m k1 hLI2.m ht2) rfl rfl (Nat.le_of_ble_eq_true rfl) (by omega) (by omega) dL_law_1227 (fun _ _ h9 => h9.elim) ?_
  rintro _ _ ⟨rfl, rfl⟩
  refine g_iload C dL_law_1230 rfl ?_
  refine g_icmp_eq C dL_law_1232 (tgt := 1237) (by decide) (fun c1 => ?_) (fun c1 => ?_)
  · refine g_iload C dL_law_1237 rfl ?_
    refine g_if_ne C dL_law_1239 (tgt := 1254) (by decide) (fun c2 => ?_) (fun c2 => ?_)
    · refine g_goto C dL_law_1254 (tgt := 1566) (by decide) ?_
      refine g_widen (kc + 92) (nc + 4500) (by omega) (by omega) ?_
      refine g_sub [(0, _), (1, _), (2, _), (3, _), (4, _), (5, _)] ⟨rfl, rfl, rfl, rfl, rfl, rfl, trivial⟩ ?_
      exact next S2 B1 hLI2
    · have k0 : k1 = 0 := (nI_eq (b := 0) (by omega) (by omega)).mp c2
      have eu : u2 = v1 := (hu2 k0).trans (hv k0).symm
      refine g_aload_n C dL_law_1242 rfl rfl ?_
      refine g_iconst C dL_law_1243 (v := 0) (by decide) ?_
      refine g_ldJ C rfl hLI2.2.2.1 (by rw [hLI2.2.2.2.1]; decide) (by decide) ((congrFun hrl 0).trans (ho1 k0)) dL_law_1244 ?_
      refine g_iload C dL_law_1245 rfl ?_
      refine g_i2l C dL_law_1247 ?_
      refine g_lcmp C dL_law_1248 ?_
      rw [eu, cmp_eq]
      refine g_if_eq C dL_law_1249 (tgt := 1254) (by decide) (fun c3 => ?_) (fun c3 => ?_)
      · refine g_goto C dL_law_1254 (tgt := 1566) (by decide) ?_
        refine g_widen (kc + 92) (nc + 4500) (by omega) (by omega) ?_
        refine g_sub [(0, _), (1, _), (2, _), (3, _), (4, _), (5, _)] ⟨rfl, rfl, rfl, rfl, rfl, rfl, trivial⟩ ?_
        exact next S2 B1 hLI2
      · exact absurd rfl c3
  · exact absurd rfl c1
theorem blk_hands {Γ : GBase} {X : Cx} {L : Nat} {xs : Nat → Int32} (C : GC Γ X code 9 "CueBookLaw" 12 601024 7293034) (hX : LScr Γ X L xs) {S : PS} {x m o od j kc nc : Nat} {B : BT} (hLI : LI Γ S x m o od B) (hj : 5 * j + 5 ≤ L) (hk : kc + 92 ≤ 601024) (hn : nc + 4500 ≤ 7293034) (next : ∀ (S' : PS) (B' : BT), LI Γ S' x m o od B' → GW Γ X S' (kc + 92) (nc + 4500) 1566 [(0, .ref (bB Γ)), (1, .ref x), (2, .ref m), (3, .ref o), (4, .ref od), (5, .int (nI (5 * j)))] []) : GW Γ X S kc nc 1270 [(0, .ref (bB Γ)), (1, .ref x), (2, .ref m), (3, .ref o), (4, .ref od), (5, .int (nI (5 * j)))] [] := by
  have hV := hLI.v
  have hm := hLI.m
  have hL0 := hLI
  obtain ⟨⟨A, hA⟩, ⟨rr, hM⟩, ho, hon, how, hod, hodn, hodw⟩ := hLI
  refine g_aload_n C dL_law_1270 rfl rfl ?_
  refine g_aload_n C dL_law_1271 rfl rfl ?_
  refine g_iload C dL_law_1272 rfl ?_
  refine g_iconst C dL_law_1274 (v := 1) (by decide) ?_
  refine g_iadd C dL_law_1275 ?_
  refine g_sld C hX (nI_add (5 * j) 1) (by omega) dL_law_1276 ?_
  refine g_aload_n C dL_law_1277 rfl rfl ?_
  refine g_iload C dL_law_1278 rfl ?_
  refine g_iconst C dL_law_1280 (v := 2) (by decide) ?_
  refine g_iadd C dL_law_1281 ?_
  refine g_sld C hX (nI_add (5 * j) 2) (by omega) dL_law_1282 ?_
  refine g_aload_n C dL_law_1283 rfl rfl ?_
  refine g_callSH C gyh_hands tw_5_48 tw_5_49 (by decide) (lw_hands C.F S x o (xs (5 * j + 1)) (xs (5 * j + 2)) A B hA ho hon (by rw [how]; exact hm)) rfl rfl (Nat.le_of_ble_eq_true rfl) (by omega) (by omega) dL_law_1284 ?_
  rintro _ S1 ⟨k1, B1, v1, A1, hs1, hI1, hF1, rfl, ho1, hk4⟩
  obtain ⟨⟨rr1, hM1⟩, hw1⟩ := hL0.l hF1 hI1
  refine g_istore C dL_law_1287 (by decide) rfl ?_
  refine g_aload_n C dL_law_1289 rfl rfl ?_
  refine g_aload_n C dL_law_1290 rfl rfl ?_
  refine g_iload C dL_law_1291 rfl ?_
  refine g_iconst C dL_law_1293 (v := 1) (by decide) ?_
  refine g_iadd C dL_law_1294 ?_
  refine g_sld C hX (nI_add (5 * j) 1) (by omega) dL_law_1295 ?_
  refine g_aload_n C dL_law_1296 rfl rfl ?_
  refine g_iload C dL_law_1297 rfl ?_
  refine g_iconst C dL_law_1299 (v := 2) (by decide) ?_
  refine g_iadd C dL_law_1300 ?_
  refine g_sld C hX (nI_add (5 * j) 2) (by omega) dL_law_1301 ?_
  refine g_callV C gy_X6_hands tw_6_91 tw_6_92 tw_6_93 (by decide) (kk := 6) rfl rfl (by exact hM1.1.m) (md_hands C.F S1 m (xs (5 * j + 1)) (xs (5 * j + 2)) rr1 B hM1) rfl rfl (Nat.le_of_ble_eq_true rfl) (by omega) (by omega) dL_law_1302 (fun _ _ h9 => h9.elim) ?_
  rintro _ _ ⟨k2, B2, v2, u2, hs2, hM2, ht2, hF2, rfl, hu2⟩
  rename_i S2
  obtain ⟨rfl, rfl, hv⟩ := fnHands hV (xs (5 * j + 1)) (xs (5 * j + 2)) _ _ _ _ _ _ hs1 hs2
  obtain ⟨hLI2, hrl, hrd⟩ := LI.of hM1.1.m hI1 hw1 hF2 hM2
  refine g_istore C dL_law_1305 (by decide) rfl ?_
  refine g_aload_n C dL_law_1307 rfl rfl ?_
  refine g_callV C gy_X6_thrown tw_5_157 tw_5_158 tw_5_159 (by decide) (kk := 6) rfl rfl (by exact hLI2.m) (md_thrown C.F S2 m k1 hLI2.m ht2) rfl rfl (Nat.le_of_ble_eq_true rfl) (by omega) (by omega) dL_law_1308 (fun _ _ h9 => h9.elim) ?_
  rintro _ _ ⟨rfl, rfl⟩
  refine g_iload C dL_law_1311 rfl ?_
  refine g_icmp_eq C dL_law_1313 (tgt := 1318) (by decide) (fun c1 => ?_) (fun c1 => ?_)
  · refine g_iload C dL_law_1318 rfl ?_
    refine g_if_ne C dL_law_1320 (tgt := 1335) (by decide) (fun c2 => ?_) (fun c2 => ?_)
    · refine g_goto C dL_law_1335 (tgt := 1566) (by decide) ?_
      refine g_widen (kc + 92) (nc + 4500) (by omega) (by omega) ?_
      refine g_sub [(0, _), (1, _), (2, _), (3, _), (4, _), (5, _)] ⟨rfl, rfl, rfl, rfl, rfl, rfl, trivial⟩ ?_
      exact next S2 B1 hLI2
    · have k0 : k1 = 0 := (nI_eq (b := 0) (by omega) (by omega)).mp c2
      have eu : u2 = v1 := (hu2 k0).trans (hv k0).symm
      refine g_aload_n C dL_law_1323 rfl rfl ?_
      refine g_iconst C dL_law_1324 (v := 0) (by decide) ?_
      refine g_ldJ C rfl hLI2.2.2.1 (by rw [hLI2.2.2.2.1]; decide) (by decide) ((congrFun hrl 0).trans (ho1 k0)) dL_law_1325 ?_
      refine g_iload C dL_law_1326 rfl ?_
      refine g_i2l C dL_law_1328 ?_
      refine g_lcmp C dL_law_1329 ?_
      rw [eu, cmp_eq]
      refine g_if_eq C dL_law_1330 (tgt := 1335) (by decide) (fun c3 => ?_) (fun c3 => ?_)
      · refine g_goto C dL_law_1335 (tgt := 1566) (by decide) ?_
        refine g_widen (kc + 92) (nc + 4500) (by omega) (by omega) ?_
        refine g_sub [(0, _), (1, _), (2, _), (3, _), (4, _), (5, _)] ⟨rfl, rfl, rfl, rfl, rfl, rfl, trivial⟩ ?_
        exact next S2 B1 hLI2
      · exact absurd rfl c3
  · exact absurd rfl c1
theorem blk_load {Γ : GBase} {X : Cx} {L : Nat} {xs : Nat → Int32} (C : GC Γ X code 9 "CueBookLaw" 12 601024 7293034) (hX : LScr Γ X L xs) {S : PS} {x m o od j kc nc : Nat} {B : BT} (hLI : LI Γ S x m o od B) (hj : 5 * j + 5 ≤ L) (hk : kc + 92 ≤ 601024) (hn : nc + 4500 ≤ 7293034) (next : ∀ (S' : PS) (B' : BT), LI Γ S' x m o od B' → GW Γ X S' (kc + 92) (nc + 4500) 1566 [(0, .ref (bB Γ)), (1, .ref x), (2, .ref m), (3, .ref o), (4, .ref od), (5, .int (nI (5 * j)))] []) : GW Γ X S kc nc 1338 [(0, .ref (bB Γ)), (1, .ref x), (2, .ref m), (3, .ref o), (4, .ref od), (5, .int (nI (5 * j)))] [] := by
  have hV := hLI.v
  have hm := hLI.m
  have hL0 := hLI
  obtain ⟨⟨A, hA⟩, ⟨rr, hM⟩, ho, hon, how, hod, hodn, hodw⟩ := hLI
  refine g_aload_n C dL_law_1338 rfl rfl ?_
  refine g_aload_n C dL_law_1339 rfl rfl ?_
  refine g_iload C dL_law_1340 rfl ?_
  refine g_iconst C dL_law_1342 (v := 1) (by decide) ?_
  refine g_iadd C dL_law_1343 ?_
  refine g_sld C hX (nI_add (5 * j) 1) (by omega) dL_law_1344 ?_
  refine g_aload_n C dL_law_1345 rfl rfl ?_
  refine g_callSH C gyh_load tw_5_60 tw_5_61 (by decide) (lw_load C.F S x o (xs (5 * j + 1)) A B hA ho hon (by rw [how]; exact hm)) rfl rfl (Nat.le_of_ble_eq_true rfl) (by omega) (by omega) dL_law_1346 ?_
  rintro _ S1 ⟨k1, B1, v1, A1, hs1, hI1, hF1, rfl, ho1, hk4⟩
  obtain ⟨⟨rr1, hM1⟩, hw1⟩ := hL0.l hF1 hI1
  refine g_istore C dL_law_1349 (by decide) rfl ?_
  refine g_aload_n C dL_law_1351 rfl rfl ?_
  refine g_aload_n C dL_law_1352 rfl rfl ?_
  refine g_iload C dL_law_1353 rfl ?_
  refine g_iconst C dL_law_1355 (v := 1) (by decide) ?_
  refine g_iadd C dL_law_1356 ?_
  refine g_sld C hX (nI_add (5 * j) 1) (by omega) dL_law_1357 ?_
  refine g_callV C gy_X6_load tw_6_103 tw_6_104 tw_6_105 (by decide) (kk := 6) rfl rfl (by exact hM1.1.m) (md_load C.F S1 m (xs (5 * j + 1)) rr1 B hM1) rfl rfl (Nat.le_of_ble_eq_true rfl) (by omega) (by omega) dL_law_1358 (fun _ _ h9 => h9.elim) ?_
  rintro _ _ ⟨k2, B2, v2, u2, hs2, hM2, ht2, hF2, rfl, hu2⟩
  rename_i S2
  obtain ⟨rfl, rfl, hv⟩ := fnLoad hV (xs (5 * j + 1)) _ _ _ _ _ _ hs1 hs2
  obtain ⟨hLI2, hrl, hrd⟩ := LI.of hM1.1.m hI1 hw1 hF2 hM2
  refine g_istore C dL_law_1361 (by decide) rfl ?_
  refine g_aload_n C dL_law_1363 rfl rfl ?_
  refine g_callV C gy_X6_thrown tw_5_157 tw_5_158 tw_5_159 (by decide) (kk := 6) rfl rfl (by exact hLI2.m) (md_thrown C.F S2 m k1 hLI2.m ht2) rfl rfl (Nat.le_of_ble_eq_true rfl) (by omega) (by omega) dL_law_1364 (fun _ _ h9 => h9.elim) ?_
  rintro _ _ ⟨rfl, rfl⟩
  refine g_iload C dL_law_1367 rfl ?_
  refine g_icmp_eq C dL_law_1369 (tgt := 1374) (by decide) (fun c1 => ?_) (fun c1 => ?_)
  · refine g_iload C dL_law_1374 rfl ?_
    refine g_if_ne C dL_law_1376 (tgt := 1391) (by decide) (fun c2 => ?_) (fun c2 => ?_)
    · refine g_goto C dL_law_1391 (tgt := 1566) (by decide) ?_
      refine g_widen (kc + 92) (nc + 4500) (by omega) (by omega) ?_
      refine g_sub [(0, _), (1, _), (2, _), (3, _), (4, _), (5, _)] ⟨rfl, rfl, rfl, rfl, rfl, rfl, trivial⟩ ?_
      exact next S2 B1 hLI2
    · have k0 : k1 = 0 := (nI_eq (b := 0) (by omega) (by omega)).mp c2
      have eu : u2 = v1 := (hu2 k0).trans (hv k0).symm
      refine g_aload_n C dL_law_1379 rfl rfl ?_
      refine g_iconst C dL_law_1380 (v := 0) (by decide) ?_
      refine g_ldJ C rfl hLI2.2.2.1 (by rw [hLI2.2.2.2.1]; decide) (by decide) ((congrFun hrl 0).trans (ho1 k0)) dL_law_1381 ?_
      refine g_iload C dL_law_1382 rfl ?_
      refine g_i2l C dL_law_1384 ?_
      refine g_lcmp C dL_law_1385 ?_
      rw [eu, cmp_eq]
      refine g_if_eq C dL_law_1386 (tgt := 1391) (by decide) (fun c3 => ?_) (fun c3 => ?_)
      · refine g_goto C dL_law_1391 (tgt := 1566) (by decide) ?_
        refine g_widen (kc + 92) (nc + 4500) (by omega) (by omega) ?_
        refine g_sub [(0, _), (1, _), (2, _), (3, _), (4, _), (5, _)] ⟨rfl, rfl, rfl, rfl, rfl, rfl, trivial⟩ ?_
        exact next S2 B1 hLI2
      · exact absurd rfl c3
  · exact absurd rfl c1
theorem blk_note {Γ : GBase} {X : Cx} {L : Nat} {xs : Nat → Int32} (C : GC Γ X code 9 "CueBookLaw" 12 601024 7293034) (hX : LScr Γ X L xs) {S : PS} {x m o od j kc nc : Nat} {B : BT} (hLI : LI Γ S x m o od B) (hj : 5 * j + 5 ≤ L) (hk : kc + 92 ≤ 601024) (hn : nc + 4500 ≤ 7293034) (next : ∀ (S' : PS) (B' : BT), LI Γ S' x m o od B' → GW Γ X S' (kc + 92) (nc + 4500) 1566 [(0, .ref (bB Γ)), (1, .ref x), (2, .ref m), (3, .ref o), (4, .ref od), (5, .int (nI (5 * j)))] []) : GW Γ X S kc nc 1394 [(0, .ref (bB Γ)), (1, .ref x), (2, .ref m), (3, .ref o), (4, .ref od), (5, .int (nI (5 * j)))] [] := by
  have hV := hLI.v
  have hm := hLI.m
  have hL0 := hLI
  obtain ⟨⟨A, hA⟩, ⟨rr, hM⟩, ho, hon, how, hod, hodn, hodw⟩ := hLI
  refine g_aload_n C dL_law_1394 rfl rfl ?_
  refine g_aload_n C dL_law_1395 rfl rfl ?_
  refine g_iload C dL_law_1396 rfl ?_
  refine g_iconst C dL_law_1398 (v := 1) (by decide) ?_
  refine g_iadd C dL_law_1399 ?_
  refine g_sld C hX (nI_add (5 * j) 1) (by omega) dL_law_1400 ?_
  refine g_aload_n C dL_law_1401 rfl rfl ?_
  refine g_iload C dL_law_1402 rfl ?_
  refine g_iconst C dL_law_1404 (v := 2) (by decide) ?_
  refine g_iadd C dL_law_1405 ?_
  refine g_sld C hX (nI_add (5 * j) 2) (by omega) dL_law_1406 ?_
  refine g_aload_n C dL_law_1407 rfl rfl ?_
  refine g_callSH C gyh_note tw_5_67 tw_5_68 (by decide) (lw_note C.F S x o (xs (5 * j + 1)) (xs (5 * j + 2)) A B hA ho hon (by rw [how]; exact hm)) rfl rfl (Nat.le_of_ble_eq_true rfl) (by omega) (by omega) dL_law_1408 ?_
  rintro _ S1 ⟨k1, B1, v1, A1, hs1, hI1, hF1, rfl, ho1, hk4⟩
  obtain ⟨⟨rr1, hM1⟩, hw1⟩ := hL0.l hF1 hI1
  refine g_istore C dL_law_1411 (by decide) rfl ?_
  refine g_aload_n C dL_law_1413 rfl rfl ?_
  refine g_aload_n C dL_law_1414 rfl rfl ?_
  refine g_iload C dL_law_1415 rfl ?_
  refine g_iconst C dL_law_1417 (v := 1) (by decide) ?_
  refine g_iadd C dL_law_1418 ?_
  refine g_sld C hX (nI_add (5 * j) 1) (by omega) dL_law_1419 ?_
  refine g_aload_n C dL_law_1420 rfl rfl ?_
  refine g_iload C dL_law_1421 rfl ?_
  refine g_iconst C dL_law_1423 (v := 2) (by decide) ?_
  refine g_iadd C dL_law_1424 ?_
  refine g_sld C hX (nI_add (5 * j) 2) (by omega) dL_law_1425 ?_
  refine g_callV C gy_X6_note tw_6_111 tw_6_112 tw_6_113 (by decide) (kk := 6) rfl rfl (by exact hM1.1.m) (md_note C.F S1 m (xs (5 * j + 1)) (xs (5 * j + 2)) rr1 B hM1) rfl rfl (Nat.le_of_ble_eq_true rfl) (by omega) (by omega) dL_law_1426 (fun _ _ h9 => h9.elim) ?_
  rintro _ _ ⟨k2, B2, v2, u2, hs2, hM2, ht2, hF2, rfl, hu2⟩
  rename_i S2
  obtain ⟨rfl, rfl, hv⟩ := fnNote hV (xs (5 * j + 1)) (xs (5 * j + 2)) _ _ _ _ _ _ hs1 hs2
  obtain ⟨hLI2, hrl, hrd⟩ := LI.of hM1.1.m hI1 hw1 hF2 hM2
  refine g_istore C dL_law_1429 (by decide) rfl ?_
  refine g_aload_n C dL_law_1431 rfl rfl ?_
  refine g_callV C gy_X6_thrown tw_5_157 tw_5_158 tw_5_159 (by decide) (kk := 6) rfl rfl (by exact hLI2.m) (md_thrown C.F S2 m k1 hLI2.m ht2) rfl rfl (Nat.le_of_ble_eq_true rfl) (by omega) (by omega) dL_law_1432 (fun _ _ h9 => h9.elim) ?_
  rintro _ _ ⟨rfl, rfl⟩
  refine g_iload C dL_law_1435 rfl ?_
  refine g_icmp_eq C dL_law_1437 (tgt := 1442) (by decide) (fun c1 => ?_) (fun c1 => ?_)
  · refine g_iload C dL_law_1442 rfl ?_
    refine g_if_ne C dL_law_1444 (tgt := 1459) (by decide) (fun c2 => ?_) (fun c2 => ?_)
    · refine g_goto C dL_law_1459 (tgt := 1566) (by decide) ?_
      refine g_widen (kc + 92) (nc + 4500) (by omega) (by omega) ?_
      refine g_sub [(0, _), (1, _), (2, _), (3, _), (4, _), (5, _)] ⟨rfl, rfl, rfl, rfl, rfl, rfl, trivial⟩ ?_
      exact next S2 B1 hLI2
    · have k0 : k1 = 0 := (nI_eq (b := 0) (by omega) (by omega)).mp c2
      have eu : u2 = v1 := (hu2 k0).trans (hv k0).symm
      refine g_aload_n C dL_law_1447 rfl rfl ?_
      refine g_iconst C dL_law_1448 (v := 0) (by decide) ?_
      refine g_ldJ C rfl hLI2.2.2.1 (by rw [hLI2.2.2.2.1]; decide) (by decide) ((congrFun hrl 0).trans (ho1 k0)) dL_law_1449 ?_
      refine g_iload C dL_law_1450 rfl ?_
      refine g_i2l C dL_law_1452 ?_
      refine g_lcmp C dL_law_1453 ?_
      rw [eu, cmp_eq]
      refine g_if_eq C dL_law_1454 (tgt := 1459) (by decide) (fun c3 => ?_) (fun c3 => ?_)
      · refine g_goto C dL_law_1459 (tgt := 1566) (by decide) ?_
        refine g_widen (kc + 92) (nc + 4500) (by omega) (by omega) ?_
        refine g_sub [(0, _), (1, _), (2, _), (3, _), (4, _), (5, _)] ⟨rfl, rfl, rfl, rfl, rfl, rfl, trivial⟩ ?_
        exact next S2 B1 hLI2
      · exact absurd rfl c3
  · exact absurd rfl c1
