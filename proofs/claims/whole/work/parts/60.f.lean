/-! what is known of the cells, for the cleaned rows -/
theorem b_0 : ((0 : Int32) = 0 ∨ (0 : Int32) = 1) = True := by simp
theorem b_1 : ((1 : Int32) = 0 ∨ (1 : Int32) = 1) = True := by simp
theorem g_0_0 : am_tg 0 0 = 1 := rfl
theorem g_0_1 : am_tg 0 1 = 3 := rfl
theorem g_0_10 : am_tg 0 10 = 362 := rfl
theorem g_0_11 : am_tg 0 11 = 365 := rfl
theorem g_0_12 : am_tg 0 12 = 370 := rfl
theorem g_0_2 : am_tg 0 2 = 25 := rfl
theorem g_0_3 : am_tg 0 3 = 47 := rfl
theorem g_0_4 : am_tg 0 4 = 69 := rfl
theorem g_0_5 : am_tg 0 5 = 335 := rfl
theorem g_0_6 : am_tg 0 6 = 342 := rfl
theorem g_0_7 : am_tg 0 7 = 349 := rfl
theorem g_0_8 : am_tg 0 8 = 356 := rfl
theorem g_0_9 : am_tg 0 9 = 359 := rfl
theorem g_1_0 : am_tg 1 0 = 2 := rfl
theorem g_25_0 : am_tg 25 0 = 26 := rfl
theorem g_25_1 : am_tg 25 1 = 31 := rfl
theorem g_335_0 : am_tg 335 0 = 336 := rfl
theorem g_335_1 : am_tg 335 1 = 337 := rfl
theorem g_335_2 : am_tg 335 2 = 338 := rfl
theorem g_335_3 : am_tg 335 3 = 339 := rfl
theorem g_335_4 : am_tg 335 4 = 340 := rfl
theorem g_335_5 : am_tg 335 5 = 341 := rfl
theorem g_342_0 : am_tg 342 0 = 343 := rfl
theorem g_342_1 : am_tg 342 1 = 344 := rfl
theorem g_342_2 : am_tg 342 2 = 345 := rfl
theorem g_342_3 : am_tg 342 3 = 346 := rfl
theorem g_356_4 : am_tg 356 4 = 25 := rfl
theorem g_359_4 : am_tg 359 4 = 342 := rfl
theorem g_362_0 : am_tg 362 0 = 363 := rfl
theorem g_362_1 : am_tg 362 1 = 364 := rfl
theorem g_365_0 : am_tg 365 0 = 366 := rfl
theorem g_365_1 : am_tg 365 1 = 367 := rfl
theorem g_365_2 : am_tg 365 2 = 368 := rfl
theorem g_365_3 : am_tg 365 3 = 369 := rfl
theorem g_370_0 : am_tg 370 0 = 371 := rfl
theorem g_370_1 : am_tg 370 1 = 372 := rfl
theorem g_373_1 : am_tg 373 1 = 374 := rfl
theorem g_373_15 : am_tg 373 15 = 380 := rfl
theorem g_373_17 : am_tg 373 17 = 381 := rfl
theorem g_373_18 : am_tg 373 18 = 382 := rfl
theorem g_373_19 : am_tg 373 19 = 383 := rfl
theorem g_373_2 : am_tg 373 2 = 375 := rfl
theorem g_373_20 : am_tg 373 20 = 384 := rfl
theorem g_373_22 : am_tg 373 22 = 385 := rfl
theorem g_373_23 : am_tg 373 23 = 386 := rfl
theorem g_373_24 : am_tg 373 24 = 387 := rfl
theorem g_373_25 : am_tg 373 25 = 388 := rfl
theorem g_373_3 : am_tg 373 3 = 376 := rfl
theorem g_373_4 : am_tg 373 4 = 377 := rfl
theorem g_373_5 : am_tg 373 5 = 378 := rfl
theorem g_373_8 : am_tg 373 8 = 379 := rfl
theorem g_3_0 : am_tg 3 0 = 4 := rfl
theorem g_3_1 : am_tg 3 1 = 9 := rfl
theorem g_3_2 : am_tg 3 2 = 19 := rfl
theorem g_69_0 : am_tg 69 0 = 70 := rfl
theorem in_0_1 : am_in (0 : Int32) 1 = true := by decide
theorem in_0_11 : am_in (0 : Int32) 11 = true := by decide
theorem in_0_2113 : am_in (0 : Int32) 2113 = true := by decide
theorem in_0_32 : am_in (0 : Int32) 32 = true := by decide
theorem in_0_4 : am_in (0 : Int32) 4 = true := by decide
theorem in_0_400 : am_in (0 : Int32) 400 = true := by decide
theorem in_0_5 : am_in (0 : Int32) 5 = true := by decide
theorem in_0_9 : am_in (0 : Int32) 9 = true := by decide
theorem in_115_2113 : am_in (115 : Int32) 2113 = true := by decide
theorem in_116_2113 : am_in (116 : Int32) 2113 = true := by decide
theorem in_117_2113 : am_in (117 : Int32) 2113 = true := by decide
theorem in_118_2113 : am_in (118 : Int32) 2113 = true := by decide
theorem in_119_2113 : am_in (119 : Int32) 2113 = true := by decide
theorem in_1264_2113 : am_in (1264 : Int32) 2113 = true := by decide
theorem in_1_11 : am_in (1 : Int32) 11 = true := by decide
theorem in_1_2113 : am_in (1 : Int32) 2113 = true := by decide
theorem in_1_4 : am_in (1 : Int32) 4 = true := by decide
theorem in_1_5 : am_in (1 : Int32) 5 = true := by decide
theorem in_1_9 : am_in (1 : Int32) 9 = true := by decide
theorem in_2_11 : am_in (2 : Int32) 11 = true := by decide
theorem in_2_2113 : am_in (2 : Int32) 2113 = true := by decide
theorem in_2_4 : am_in (2 : Int32) 4 = true := by decide
theorem in_2_5 : am_in (2 : Int32) 5 = true := by decide
theorem in_2_9 : am_in (2 : Int32) 9 = true := by decide
theorem in_3_11 : am_in (3 : Int32) 11 = true := by decide
theorem in_3_2113 : am_in (3 : Int32) 2113 = true := by decide
theorem in_3_4 : am_in (3 : Int32) 4 = true := by decide
theorem in_3_5 : am_in (3 : Int32) 5 = true := by decide
theorem in_3_9 : am_in (3 : Int32) 9 = true := by decide
theorem in_415_2113 : am_in (415 : Int32) 2113 = true := by decide
theorem in_4_11 : am_in (4 : Int32) 11 = true := by decide
theorem in_4_2113 : am_in (4 : Int32) 2113 = true := by decide
theorem in_4_5 : am_in (4 : Int32) 5 = true := by decide
theorem in_4_9 : am_in (4 : Int32) 9 = true := by decide
theorem in_5_11 : am_in (5 : Int32) 11 = true := by decide
theorem in_5_2113 : am_in (5 : Int32) 2113 = true := by decide
theorem in_5_9 : am_in (5 : Int32) 9 = true := by decide
theorem in_6_11 : am_in (6 : Int32) 11 = true := by decide
theorem in_6_2113 : am_in (6 : Int32) 2113 = true := by decide
theorem in_6_9 : am_in (6 : Int32) 9 = true := by decide
theorem in_7_11 : am_in (7 : Int32) 11 = true := by decide
theorem in_7_9 : am_in (7 : Int32) 9 = true := by decide
theorem in_8_9 : am_in (8 : Int32) 9 = true := by decide
theorem k_0 : am_kd 0 = 9 := rfl
theorem k_1 : am_kd 1 = 8 := rfl
theorem k_10 : am_kd 10 = 20 := rfl
theorem k_12 : am_kd 12 = 20 := rfl
theorem k_13 : am_kd 13 = 20 := rfl
theorem k_14 : am_kd 14 = 20 := rfl
theorem k_15 : am_kd 15 = 20 := rfl
theorem k_17 : am_kd 17 = 20 := rfl
theorem k_18 : am_kd 18 = 20 := rfl
theorem k_19 : am_kd 19 = 24 := rfl
theorem k_2 : am_kd 2 = 20 := rfl
theorem k_25 : am_kd 25 = 7 := rfl
theorem k_26 : am_kd 26 = 24 := rfl
theorem k_3 : am_kd 3 = 7 := rfl
theorem k_31 : am_kd 31 = 24 := rfl
theorem k_335 : am_kd 335 = 2 := rfl
theorem k_336 : am_kd 336 = 22 := rfl
theorem k_337 : am_kd 337 = 20 := rfl
theorem k_338 : am_kd 338 = 20 := rfl
theorem k_339 : am_kd 339 = 20 := rfl
theorem k_34 : am_kd 34 = 20 := rfl
theorem k_340 : am_kd 340 = 20 := rfl
theorem k_341 : am_kd 341 = 20 := rfl
theorem k_342 : am_kd 342 = 2 := rfl
theorem k_343 : am_kd 343 = 22 := rfl
theorem k_344 : am_kd 344 = 20 := rfl
theorem k_345 : am_kd 345 = 20 := rfl
theorem k_346 : am_kd 346 = 20 := rfl
theorem k_349 : am_kd 349 = 2 := rfl
theorem k_356 : am_kd 356 = 5 := rfl
theorem k_359 : am_kd 359 = 3 := rfl
theorem k_36 : am_kd 36 = 20 := rfl
theorem k_362 : am_kd 362 = 1 := rfl
theorem k_363 : am_kd 363 = 20 := rfl
theorem k_364 : am_kd 364 = 20 := rfl
theorem k_365 : am_kd 365 = 4 := rfl
theorem k_366 : am_kd 366 = 20 := rfl
theorem k_367 : am_kd 367 = 20 := rfl
theorem k_368 : am_kd 368 = 20 := rfl
theorem k_369 : am_kd 369 = 20 := rfl
theorem k_370 : am_kd 370 = 0 := rfl
theorem k_371 : am_kd 371 = 22 := rfl
theorem k_372 : am_kd 372 = 20 := rfl
theorem k_373 : am_kd 373 = 10 := rfl
theorem k_374 : am_kd 374 = 20 := rfl
theorem k_375 : am_kd 375 = 20 := rfl
theorem k_376 : am_kd 376 = 20 := rfl
theorem k_377 : am_kd 377 = 20 := rfl
theorem k_378 : am_kd 378 = 20 := rfl
theorem k_379 : am_kd 379 = 21 := rfl
theorem k_380 : am_kd 380 = 20 := rfl
theorem k_381 : am_kd 381 = 20 := rfl
theorem k_382 : am_kd 382 = 20 := rfl
theorem k_383 : am_kd 383 = 20 := rfl
theorem k_384 : am_kd 384 = 20 := rfl
theorem k_385 : am_kd 385 = 20 := rfl
theorem k_386 : am_kd 386 = 20 := rfl
theorem k_387 : am_kd 387 = 20 := rfl
theorem k_388 : am_kd 388 = 20 := rfl
theorem k_389 : am_kd 389 = 23 := rfl
theorem k_39 : am_kd 39 = 20 := rfl
theorem k_4 : am_kd 4 = 24 := rfl
theorem k_40 : am_kd 40 = 20 := rfl
theorem k_47 : am_kd 47 = 7 := rfl
theorem k_5 : am_kd 5 = 20 := rfl
theorem k_6 : am_kd 6 = 20 := rfl
theorem k_69 : am_kd 69 = 6 := rfl
theorem k_7 : am_kd 7 = 20 := rfl
theorem k_70 : am_kd 70 = 25 := rfl
theorem k_8 : am_kd 8 = 20 := rfl
theorem k_9 : am_kd 9 = 24 := rfl
theorem kk_0_0 : am_kk 0 0 = true := rfl
theorem kk_10_10 : am_kk 10 10 = true := rfl
theorem kk_1_1 : am_kk 1 1 = true := rfl
theorem kk_2_2 : am_kk 2 2 = true := rfl
theorem kk_3_3 : am_kk 3 3 = true := rfl
theorem kk_4_4 : am_kk 4 4 = true := rfl
theorem kk_5_5 : am_kk 5 5 = true := rfl
theorem kk_6_6 : am_kk 6 6 = true := rfl
theorem kk_7_7 : am_kk 7 7 = true := rfl
theorem kk_8_8 : am_kk 8 8 = true := rfl
theorem kk_9_9 : am_kk 9 9 = true := rfl
theorem n_10 : am_ln 10 = 8 := rfl
theorem n_12 : am_ln 12 = 8 := rfl
theorem n_13 : am_ln 13 = 8 := rfl
theorem n_14 : am_ln 14 = 8 := rfl
theorem n_15 : am_ln 15 = 8 := rfl
theorem n_17 : am_ln 17 = 8 := rfl
theorem n_18 : am_ln 18 = 8 := rfl
theorem n_19 : am_ln 19 = 5 := rfl
theorem n_2 : am_ln 2 = 400 := rfl
theorem n_26 : am_ln 26 = 4 := rfl
theorem n_31 : am_ln 31 = 9 := rfl
theorem n_336 : am_ln 336 = 12 := rfl
theorem n_337 : am_ln 337 = 12 := rfl
theorem n_338 : am_ln 338 = 12 := rfl
theorem n_339 : am_ln 339 = 400 := rfl
theorem n_34 : am_ln 34 = 8 := rfl
theorem n_340 : am_ln 340 = 11 := rfl
theorem n_341 : am_ln 341 = 32 := rfl
theorem n_343 : am_ln 343 = 12 := rfl
theorem n_344 : am_ln 344 = 12 := rfl
theorem n_345 : am_ln 345 = 12 := rfl
theorem n_346 : am_ln 346 = 400 := rfl
theorem n_36 : am_ln 36 = 8 := rfl
theorem n_363 : am_ln 363 = 1024 := rfl
theorem n_364 : am_ln 364 = 1024 := rfl
theorem n_366 : am_ln 366 = 8 := rfl
theorem n_367 : am_ln 367 = 8 := rfl
theorem n_368 : am_ln 368 = 8 := rfl
theorem n_369 : am_ln 369 = 8 := rfl
theorem n_371 : am_ln 371 = 1000 := rfl
theorem n_372 : am_ln 372 = 1000 := rfl
theorem n_374 : am_ln 374 = 2113 := rfl
theorem n_375 : am_ln 375 = 1264 := rfl
theorem n_376 : am_ln 376 = 1264 := rfl
theorem n_377 : am_ln 377 = 415 := rfl
theorem n_378 : am_ln 378 = 4980 := rfl
theorem n_379 : am_ln 379 = 400 := rfl
theorem n_380 : am_ln 380 = 5 := rfl
theorem n_381 : am_ln 381 = 400 := rfl
theorem n_382 : am_ln 382 = 1024 := rfl
theorem n_383 : am_ln 383 = 1024 := rfl
theorem n_384 : am_ln 384 = 1024 := rfl
theorem n_385 : am_ln 385 = 2304 := rfl
theorem n_386 : am_ln 386 = 8 := rfl
theorem n_387 : am_ln 387 = 8 := rfl
theorem n_388 : am_ln 388 = 1000 := rfl
theorem n_389 : am_ln 389 = 1 := rfl
theorem n_39 : am_ln 39 = 8 := rfl
theorem n_4 : am_ln 4 = 4 := rfl
theorem n_40 : am_ln 40 = 8 := rfl
theorem n_5 : am_ln 5 = 9 := rfl
theorem n_6 : am_ln 6 = 9 := rfl
theorem n_7 : am_ln 7 = 9 := rfl
theorem n_70 : am_ln 70 = 12 := rfl
theorem n_8 : am_ln 8 = 9 := rfl
theorem n_9 : am_ln 9 = 9 := rfl
theorem s_26_0k : am_kd (26 + 1 + 0) = 20 := rfl
theorem s_26_0n : am_ln (26 + 1 + 0) = 9 := rfl
theorem s_26_1k : am_kd (26 + 1 + 1) = 20 := rfl
theorem s_26_1n : am_ln (26 + 1 + 1) = 9 := rfl
theorem s_26_2k : am_kd (26 + 1 + 2) = 20 := rfl
theorem s_26_2n : am_ln (26 + 1 + 2) = 9 := rfl
theorem s_26_3k : am_kd (26 + 1 + 3) = 20 := rfl
theorem s_26_3n : am_ln (26 + 1 + 3) = 9 := rfl
theorem s_31_0k : am_kd (31 + 1 + 0) = 20 := rfl
theorem s_31_0n : am_ln (31 + 1 + 0) = 8 := rfl
theorem s_31_2k : am_kd (31 + 1 + 2) = 20 := rfl
theorem s_31_2n : am_ln (31 + 1 + 2) = 8 := rfl
theorem s_31_3k : am_kd (31 + 1 + 3) = 20 := rfl
theorem s_31_3n : am_ln (31 + 1 + 3) = 8 := rfl
theorem s_31_4k : am_kd (31 + 1 + 4) = 20 := rfl
theorem s_31_4n : am_ln (31 + 1 + 4) = 8 := rfl
theorem s_31_7k : am_kd (31 + 1 + 7) = 20 := rfl
theorem s_31_7n : am_ln (31 + 1 + 7) = 8 := rfl
theorem s_31_8k : am_kd (31 + 1 + 8) = 20 := rfl
theorem s_31_8n : am_ln (31 + 1 + 8) = 8 := rfl
theorem s_4_0k : am_kd (4 + 1 + 0) = 20 := rfl
theorem s_4_0n : am_ln (4 + 1 + 0) = 9 := rfl
theorem s_4_1k : am_kd (4 + 1 + 1) = 20 := rfl
theorem s_4_1n : am_ln (4 + 1 + 1) = 9 := rfl
theorem s_4_2k : am_kd (4 + 1 + 2) = 20 := rfl
theorem s_4_2n : am_ln (4 + 1 + 2) = 9 := rfl
theorem s_4_3k : am_kd (4 + 1 + 3) = 20 := rfl
theorem s_4_3n : am_ln (4 + 1 + 3) = 9 := rfl
theorem s_9_0k : am_kd (9 + 1 + 0) = 20 := rfl
theorem s_9_0n : am_ln (9 + 1 + 0) = 8 := rfl
theorem s_9_2k : am_kd (9 + 1 + 2) = 20 := rfl
theorem s_9_2n : am_ln (9 + 1 + 2) = 8 := rfl
theorem s_9_3k : am_kd (9 + 1 + 3) = 20 := rfl
theorem s_9_3n : am_ln (9 + 1 + 3) = 8 := rfl
theorem s_9_4k : am_kd (9 + 1 + 4) = 20 := rfl
theorem s_9_4n : am_ln (9 + 1 + 4) = 8 := rfl
theorem s_9_5k : am_kd (9 + 1 + 5) = 20 := rfl
theorem s_9_5n : am_ln (9 + 1 + 5) = 8 := rfl
theorem s_9_7k : am_kd (9 + 1 + 7) = 20 := rfl
theorem s_9_7n : am_ln (9 + 1 + 7) = 8 := rfl
theorem s_9_8k : am_kd (9 + 1 + 8) = 20 := rfl
theorem s_9_8n : am_ln (9 + 1 + 8) = 8 := rfl
theorem tn_0 : (0 : Int32).toNatClampNeg = 0 := by decide
theorem tn_1 : (1 : Int32).toNatClampNeg = 1 := by decide
theorem tn_115 : (115 : Int32).toNatClampNeg = 115 := by decide
theorem tn_116 : (116 : Int32).toNatClampNeg = 116 := by decide
theorem tn_117 : (117 : Int32).toNatClampNeg = 117 := by decide
theorem tn_118 : (118 : Int32).toNatClampNeg = 118 := by decide
theorem tn_119 : (119 : Int32).toNatClampNeg = 119 := by decide
theorem tn_1264 : (1264 : Int32).toNatClampNeg = 1264 := by decide
theorem tn_2 : (2 : Int32).toNatClampNeg = 2 := by decide
theorem tn_3 : (3 : Int32).toNatClampNeg = 3 := by decide
theorem tn_4 : (4 : Int32).toNatClampNeg = 4 := by decide
theorem tn_415 : (415 : Int32).toNatClampNeg = 415 := by decide
theorem tn_5 : (5 : Int32).toNatClampNeg = 5 := by decide
theorem tn_6 : (6 : Int32).toNatClampNeg = 6 := by decide
theorem tn_7 : (7 : Int32).toNatClampNeg = 7 := by decide
theorem tn_8 : (8 : Int32).toNatClampNeg = 8 := by decide
theorem z_10 : ((10 : Int32) = 0) = False := by simp
theorem z_100 : ((100 : Int32) = 0) = False := by simp
theorem z_12 : ((12 : Int32) = 0) = False := by simp
theorem z_2 : ((2 : Int32) = 0) = False := by simp
theorem z_4 : ((4 : Int32) = 0) = False := by simp
theorem z_8 : ((8 : Int32) = 0) = False := by simp
theorem am_sf_d : ∀ (l : List (Int32 × Nat)) (d : Nat) (x : Int32), (∀ e ∈ l, x ≠ e.1) → am_sf l d x = d := by
  intro l
  induction l with
  | nil => intro d x _; rfl
  | cons e l ih =>
    intro d x hx
    obtain ⟨v, t⟩ := e
    show (if x = v then t else am_sf l d x) = d
    rw [if_neg (hx (v, t) List.mem_cons_self), ih d x (fun e he => hx e (List.mem_cons_of_mem _ he))]
theorem or20 : ((20 : Nat) = 20 ∨ (20 : Nat) = 24) = True := by simp
theorem or24 : ((24 : Nat) = 20 ∨ (24 : Nat) = 24) = True := by simp
theorem iSk_0 {o : Nat} (H : am_isS o) : am_kd (o) = 7 := by obtain ⟨h0, h1, h2, h3, h4, h5, h6, h7, h8, h9, h10, h11, h12⟩ := H; exact h0
theorem iSk_1 {o : Nat} (H : am_isS o) : am_kd (o + 1) = 24 := by obtain ⟨h0, h1, h2, h3, h4, h5, h6, h7, h8, h9, h10, h11, h12⟩ := H; exact h4
theorem iSk_6 {o : Nat} (H : am_isS o) : am_kd (o + 6) = 24 := by obtain ⟨h0, h1, h2, h3, h4, h5, h6, h7, h8, h9, h10, h11, h12⟩ := H; exact h6
theorem iSk_16 {o : Nat} (H : am_isS o) : am_kd (o + 16) = 24 := by obtain ⟨h0, h1, h2, h3, h4, h5, h6, h7, h8, h9, h10, h11, h12⟩ := H; exact h8
theorem iSn_1 {o : Nat} (H : am_isS o) : am_ln (o + 1) = 4 := by obtain ⟨h0, h1, h2, h3, h4, h5, h6, h7, h8, h9, h10, h11, h12⟩ := H; exact h5
theorem iSn_6 {o : Nat} (H : am_isS o) : am_ln (o + 6) = 9 := by obtain ⟨h0, h1, h2, h3, h4, h5, h6, h7, h8, h9, h10, h11, h12⟩ := H; exact h7
theorem iSn_16 {o : Nat} (H : am_isS o) : am_ln (o + 16) = 5 := by obtain ⟨h0, h1, h2, h3, h4, h5, h6, h7, h8, h9, h10, h11, h12⟩ := H; exact h9
theorem iSt_0 {o : Nat} (H : am_isS o) : am_tg o 0 = o + 1 := by obtain ⟨h0, h1, h2, h3, h4, h5, h6, h7, h8, h9, h10, h11, h12⟩ := H; exact h1
theorem iSt_1 {o : Nat} (H : am_isS o) : am_tg o 1 = o + 6 := by obtain ⟨h0, h1, h2, h3, h4, h5, h6, h7, h8, h9, h10, h11, h12⟩ := H; exact h2
theorem iSt_2 {o : Nat} (H : am_isS o) : am_tg o 2 = o + 16 := by obtain ⟨h0, h1, h2, h3, h4, h5, h6, h7, h8, h9, h10, h11, h12⟩ := H; exact h3
theorem iSk_2 {o : Nat} (H : am_isS o) : am_kd (o + 1 + 1 + 0) = 20 := by obtain ⟨h0, h1, h2, h3, h4, h5, h6, h7, h8, h9, h10, h11, h12⟩ := H; exact (h10 0 (by omega)).1
theorem iSn_2 {o : Nat} (H : am_isS o) : am_ln (o + 1 + 1 + 0) = 9 := by obtain ⟨h0, h1, h2, h3, h4, h5, h6, h7, h8, h9, h10, h11, h12⟩ := H; exact (h10 0 (by omega)).2
theorem iSk_3 {o : Nat} (H : am_isS o) : am_kd (o + 1 + 1 + 1) = 20 := by obtain ⟨h0, h1, h2, h3, h4, h5, h6, h7, h8, h9, h10, h11, h12⟩ := H; exact (h10 1 (by omega)).1
theorem iSn_3 {o : Nat} (H : am_isS o) : am_ln (o + 1 + 1 + 1) = 9 := by obtain ⟨h0, h1, h2, h3, h4, h5, h6, h7, h8, h9, h10, h11, h12⟩ := H; exact (h10 1 (by omega)).2
theorem iSk_4 {o : Nat} (H : am_isS o) : am_kd (o + 1 + 1 + 2) = 20 := by obtain ⟨h0, h1, h2, h3, h4, h5, h6, h7, h8, h9, h10, h11, h12⟩ := H; exact (h10 2 (by omega)).1
theorem iSn_4 {o : Nat} (H : am_isS o) : am_ln (o + 1 + 1 + 2) = 9 := by obtain ⟨h0, h1, h2, h3, h4, h5, h6, h7, h8, h9, h10, h11, h12⟩ := H; exact (h10 2 (by omega)).2
theorem iSk_5 {o : Nat} (H : am_isS o) : am_kd (o + 1 + 1 + 3) = 20 := by obtain ⟨h0, h1, h2, h3, h4, h5, h6, h7, h8, h9, h10, h11, h12⟩ := H; exact (h10 3 (by omega)).1
theorem iSn_5 {o : Nat} (H : am_isS o) : am_ln (o + 1 + 1 + 3) = 9 := by obtain ⟨h0, h1, h2, h3, h4, h5, h6, h7, h8, h9, h10, h11, h12⟩ := H; exact (h10 3 (by omega)).2
theorem iSk_7 {o : Nat} (H : am_isS o) : am_kd (o + 6 + 1 + 0) = 20 := by obtain ⟨h0, h1, h2, h3, h4, h5, h6, h7, h8, h9, h10, h11, h12⟩ := H; exact (h11 0 (by omega)).1
theorem iSn_7 {o : Nat} (H : am_isS o) : am_ln (o + 6 + 1 + 0) = 8 := by obtain ⟨h0, h1, h2, h3, h4, h5, h6, h7, h8, h9, h10, h11, h12⟩ := H; exact (h11 0 (by omega)).2
theorem iSk_8 {o : Nat} (H : am_isS o) : am_kd (o + 6 + 1 + 1) = 20 := by obtain ⟨h0, h1, h2, h3, h4, h5, h6, h7, h8, h9, h10, h11, h12⟩ := H; exact (h11 1 (by omega)).1
theorem iSn_8 {o : Nat} (H : am_isS o) : am_ln (o + 6 + 1 + 1) = 8 := by obtain ⟨h0, h1, h2, h3, h4, h5, h6, h7, h8, h9, h10, h11, h12⟩ := H; exact (h11 1 (by omega)).2
theorem iSk_9 {o : Nat} (H : am_isS o) : am_kd (o + 6 + 1 + 2) = 20 := by obtain ⟨h0, h1, h2, h3, h4, h5, h6, h7, h8, h9, h10, h11, h12⟩ := H; exact (h11 2 (by omega)).1
theorem iSn_9 {o : Nat} (H : am_isS o) : am_ln (o + 6 + 1 + 2) = 8 := by obtain ⟨h0, h1, h2, h3, h4, h5, h6, h7, h8, h9, h10, h11, h12⟩ := H; exact (h11 2 (by omega)).2
theorem iSk_10 {o : Nat} (H : am_isS o) : am_kd (o + 6 + 1 + 3) = 20 := by obtain ⟨h0, h1, h2, h3, h4, h5, h6, h7, h8, h9, h10, h11, h12⟩ := H; exact (h11 3 (by omega)).1
theorem iSn_10 {o : Nat} (H : am_isS o) : am_ln (o + 6 + 1 + 3) = 8 := by obtain ⟨h0, h1, h2, h3, h4, h5, h6, h7, h8, h9, h10, h11, h12⟩ := H; exact (h11 3 (by omega)).2
theorem iSk_11 {o : Nat} (H : am_isS o) : am_kd (o + 6 + 1 + 4) = 20 := by obtain ⟨h0, h1, h2, h3, h4, h5, h6, h7, h8, h9, h10, h11, h12⟩ := H; exact (h11 4 (by omega)).1
theorem iSn_11 {o : Nat} (H : am_isS o) : am_ln (o + 6 + 1 + 4) = 8 := by obtain ⟨h0, h1, h2, h3, h4, h5, h6, h7, h8, h9, h10, h11, h12⟩ := H; exact (h11 4 (by omega)).2
theorem iSk_12 {o : Nat} (H : am_isS o) : am_kd (o + 6 + 1 + 5) = 20 := by obtain ⟨h0, h1, h2, h3, h4, h5, h6, h7, h8, h9, h10, h11, h12⟩ := H; exact (h11 5 (by omega)).1
theorem iSn_12 {o : Nat} (H : am_isS o) : am_ln (o + 6 + 1 + 5) = 8 := by obtain ⟨h0, h1, h2, h3, h4, h5, h6, h7, h8, h9, h10, h11, h12⟩ := H; exact (h11 5 (by omega)).2
theorem iSk_13 {o : Nat} (H : am_isS o) : am_kd (o + 6 + 1 + 6) = 20 := by obtain ⟨h0, h1, h2, h3, h4, h5, h6, h7, h8, h9, h10, h11, h12⟩ := H; exact (h11 6 (by omega)).1
theorem iSn_13 {o : Nat} (H : am_isS o) : am_ln (o + 6 + 1 + 6) = 8 := by obtain ⟨h0, h1, h2, h3, h4, h5, h6, h7, h8, h9, h10, h11, h12⟩ := H; exact (h11 6 (by omega)).2
theorem iSk_14 {o : Nat} (H : am_isS o) : am_kd (o + 6 + 1 + 7) = 20 := by obtain ⟨h0, h1, h2, h3, h4, h5, h6, h7, h8, h9, h10, h11, h12⟩ := H; exact (h11 7 (by omega)).1
theorem iSn_14 {o : Nat} (H : am_isS o) : am_ln (o + 6 + 1 + 7) = 8 := by obtain ⟨h0, h1, h2, h3, h4, h5, h6, h7, h8, h9, h10, h11, h12⟩ := H; exact (h11 7 (by omega)).2
theorem iSk_15 {o : Nat} (H : am_isS o) : am_kd (o + 6 + 1 + 8) = 20 := by obtain ⟨h0, h1, h2, h3, h4, h5, h6, h7, h8, h9, h10, h11, h12⟩ := H; exact (h11 8 (by omega)).1
theorem iSn_15 {o : Nat} (H : am_isS o) : am_ln (o + 6 + 1 + 8) = 8 := by obtain ⟨h0, h1, h2, h3, h4, h5, h6, h7, h8, h9, h10, h11, h12⟩ := H; exact (h11 8 (by omega)).2
theorem iSk_17 {o : Nat} (H : am_isS o) : am_kd (o + 16 + 1 + 0) = 20 := by obtain ⟨h0, h1, h2, h3, h4, h5, h6, h7, h8, h9, h10, h11, h12⟩ := H; exact (h12 0 (by omega)).1
theorem iSn_17 {o : Nat} (H : am_isS o) : am_ln (o + 16 + 1 + 0) = 8 := by obtain ⟨h0, h1, h2, h3, h4, h5, h6, h7, h8, h9, h10, h11, h12⟩ := H; exact (h12 0 (by omega)).2
theorem iSk_18 {o : Nat} (H : am_isS o) : am_kd (o + 16 + 1 + 1) = 20 := by obtain ⟨h0, h1, h2, h3, h4, h5, h6, h7, h8, h9, h10, h11, h12⟩ := H; exact (h12 1 (by omega)).1
theorem iSn_18 {o : Nat} (H : am_isS o) : am_ln (o + 16 + 1 + 1) = 8 := by obtain ⟨h0, h1, h2, h3, h4, h5, h6, h7, h8, h9, h10, h11, h12⟩ := H; exact (h12 1 (by omega)).2
theorem iSk_19 {o : Nat} (H : am_isS o) : am_kd (o + 16 + 1 + 2) = 20 := by obtain ⟨h0, h1, h2, h3, h4, h5, h6, h7, h8, h9, h10, h11, h12⟩ := H; exact (h12 2 (by omega)).1
theorem iSn_19 {o : Nat} (H : am_isS o) : am_ln (o + 16 + 1 + 2) = 8 := by obtain ⟨h0, h1, h2, h3, h4, h5, h6, h7, h8, h9, h10, h11, h12⟩ := H; exact (h12 2 (by omega)).2
theorem iSk_20 {o : Nat} (H : am_isS o) : am_kd (o + 16 + 1 + 3) = 20 := by obtain ⟨h0, h1, h2, h3, h4, h5, h6, h7, h8, h9, h10, h11, h12⟩ := H; exact (h12 3 (by omega)).1
theorem iSn_20 {o : Nat} (H : am_isS o) : am_ln (o + 16 + 1 + 3) = 8 := by obtain ⟨h0, h1, h2, h3, h4, h5, h6, h7, h8, h9, h10, h11, h12⟩ := H; exact (h12 3 (by omega)).2
theorem iSk_21 {o : Nat} (H : am_isS o) : am_kd (o + 16 + 1 + 4) = 20 := by obtain ⟨h0, h1, h2, h3, h4, h5, h6, h7, h8, h9, h10, h11, h12⟩ := H; exact (h12 4 (by omega)).1
theorem iSn_21 {o : Nat} (H : am_isS o) : am_ln (o + 16 + 1 + 4) = 8 := by obtain ⟨h0, h1, h2, h3, h4, h5, h6, h7, h8, h9, h10, h11, h12⟩ := H; exact (h12 4 (by omega)).2
def am_isX (p : Nat) : Prop := am_kk (am_kd p) 35 = true ∧ am_tg p 0 = p + 1 ∧ am_tg p 1 = p + 2 ∧ am_kd (p + 1) = 20 ∧ am_ln (p + 1) = 401 ∧ am_kd (p + 2) = 20 ∧ am_ln (p + 2) = 401
theorem am_isX_356 : am_isX 356 := ⟨rfl, rfl, rfl, rfl, rfl, rfl, rfl⟩
theorem am_isX_359 : am_isX 359 := ⟨rfl, rfl, rfl, rfl, rfl, rfl, rfl⟩
theorem iX_kk {o : Nat} (H : am_isX o) : am_kk (am_kd o) 35 = true := H.1
theorem iXt_0 {o : Nat} (H : am_isX o) : am_tg o 0 = o + 1 := H.2.1
theorem iXt_1 {o : Nat} (H : am_isX o) : am_tg o 1 = o + 2 := H.2.2.1
theorem iXk_1 {o : Nat} (H : am_isX o) : am_kd (o + 1) = 20 := H.2.2.2.1
theorem iXn_1 {o : Nat} (H : am_isX o) : am_ln (o + 1) = 401 := H.2.2.2.2.1
theorem iXk_2 {o : Nat} (H : am_isX o) : am_kd (o + 2) = 20 := H.2.2.2.2.2.1
theorem iXn_2 {o : Nat} (H : am_isX o) : am_ln (o + 2) = 401 := H.2.2.2.2.2.2
theorem w0_0 : am_sf (am_swt 0) 7 (Int32.ofNat 0) = 7 := by decide +kernel
theorem w0_1 : am_sf (am_swt 0) 7 (Int32.ofNat 1) = 7 := by decide +kernel
theorem w0_2 : am_sf (am_swt 0) 7 (Int32.ofNat 2) = 7 := by decide +kernel
theorem w0_3 : am_sf (am_swt 0) 7 (Int32.ofNat 3) = 7 := by decide +kernel
theorem w0_4 : am_sf (am_swt 0) 7 (Int32.ofNat 4) = 7 := by decide +kernel
theorem w0_5 : am_sf (am_swt 0) 7 (Int32.ofNat 5) = 7 := by decide +kernel
theorem w0_6 : am_sf (am_swt 0) 7 (Int32.ofNat 6) = 7 := by decide +kernel
theorem w0_7 : am_sf (am_swt 0) 7 (Int32.ofNat 7) = 7 := by decide +kernel
theorem w0_8 : am_sf (am_swt 0) 7 (Int32.ofNat 8) = 7 := by decide +kernel
theorem w0_9 : am_sf (am_swt 0) 7 (Int32.ofNat 9) = 4 := by decide +kernel
theorem w0_10 : am_sf (am_swt 0) 7 (Int32.ofNat 10) = 5 := by decide +kernel
theorem w0_11 : am_sf (am_swt 0) 7 (Int32.ofNat 11) = 6 := by decide +kernel
theorem w0_12 : am_sf (am_swt 0) 7 (Int32.ofNat 12) = 7 := by decide +kernel
theorem w0_13 : am_sf (am_swt 0) 7 (Int32.ofNat 13) = 7 := by decide +kernel
theorem w0_d {x : Int32} (hx : ∀ e ∈ am_swt 0, x ≠ e.1) : am_sf (am_swt 0) 7 x = 7 := am_sf_d _ _ _ hx
theorem w1_0 : am_sf (am_swt 1) 6 (Int32.ofNat 0) = 4 := by decide +kernel
theorem w1_1 : am_sf (am_swt 1) 6 (Int32.ofNat 1) = 5 := by decide +kernel
theorem w1_2 : am_sf (am_swt 1) 6 (Int32.ofNat 2) = 6 := by decide +kernel
theorem w1_3 : am_sf (am_swt 1) 6 (Int32.ofNat 3) = 6 := by decide +kernel
theorem w1_d {x : Int32} (hx : ∀ e ∈ am_swt 1, x ≠ e.1) : am_sf (am_swt 1) 6 x = 6 := am_sf_d _ _ _ hx
theorem w2_0 : am_sf (am_swt 2) 11 (Int32.ofNat 0) = 1 := by decide +kernel
theorem w2_1 : am_sf (am_swt 2) 11 (Int32.ofNat 1) = 2 := by decide +kernel
theorem w2_2 : am_sf (am_swt 2) 11 (Int32.ofNat 2) = 3 := by decide +kernel
theorem w2_3 : am_sf (am_swt 2) 11 (Int32.ofNat 3) = 4 := by decide +kernel
theorem w2_4 : am_sf (am_swt 2) 11 (Int32.ofNat 4) = 5 := by decide +kernel
theorem w2_5 : am_sf (am_swt 2) 11 (Int32.ofNat 5) = 6 := by decide +kernel
theorem w2_6 : am_sf (am_swt 2) 11 (Int32.ofNat 6) = 7 := by decide +kernel
theorem w2_7 : am_sf (am_swt 2) 11 (Int32.ofNat 7) = 8 := by decide +kernel
theorem w2_8 : am_sf (am_swt 2) 11 (Int32.ofNat 8) = 9 := by decide +kernel
theorem w2_9 : am_sf (am_swt 2) 11 (Int32.ofNat 9) = 10 := by decide +kernel
theorem w2_10 : am_sf (am_swt 2) 11 (Int32.ofNat 10) = 11 := by decide +kernel
theorem w2_11 : am_sf (am_swt 2) 11 (Int32.ofNat 11) = 11 := by decide +kernel
theorem w2_d {x : Int32} (hx : ∀ e ∈ am_swt 2, x ≠ e.1) : am_sf (am_swt 2) 11 x = 11 := am_sf_d _ _ _ hx
theorem w3_0 : am_sf (am_swt 3) 4 (Int32.ofNat 0) = 1 := by decide +kernel
theorem w3_1 : am_sf (am_swt 3) 4 (Int32.ofNat 1) = 2 := by decide +kernel
theorem w3_2 : am_sf (am_swt 3) 4 (Int32.ofNat 2) = 3 := by decide +kernel
theorem w3_3 : am_sf (am_swt 3) 4 (Int32.ofNat 3) = 4 := by decide +kernel
theorem w3_4 : am_sf (am_swt 3) 4 (Int32.ofNat 4) = 4 := by decide +kernel
theorem w3_d {x : Int32} (hx : ∀ e ∈ am_swt 3, x ≠ e.1) : am_sf (am_swt 3) 4 x = 4 := am_sf_d _ _ _ hx
theorem w4_0 : am_sf (am_swt 4) 4 (Int32.ofNat 0) = 1 := by decide +kernel
theorem w4_1 : am_sf (am_swt 4) 4 (Int32.ofNat 1) = 2 := by decide +kernel
theorem w4_2 : am_sf (am_swt 4) 4 (Int32.ofNat 2) = 3 := by decide +kernel
theorem w4_3 : am_sf (am_swt 4) 4 (Int32.ofNat 3) = 4 := by decide +kernel
theorem w4_4 : am_sf (am_swt 4) 4 (Int32.ofNat 4) = 4 := by decide +kernel
theorem w4_d {x : Int32} (hx : ∀ e ∈ am_swt 4, x ≠ e.1) : am_sf (am_swt 4) 4 x = 4 := am_sf_d _ _ _ hx
theorem w5_0 : am_sf (am_swt 5) 21 (Int32.ofNat 0) = 1 := by decide +kernel
theorem w5_1 : am_sf (am_swt 5) 21 (Int32.ofNat 1) = 2 := by decide +kernel
theorem w5_2 : am_sf (am_swt 5) 21 (Int32.ofNat 2) = 3 := by decide +kernel
theorem w5_3 : am_sf (am_swt 5) 21 (Int32.ofNat 3) = 4 := by decide +kernel
theorem w5_4 : am_sf (am_swt 5) 21 (Int32.ofNat 4) = 5 := by decide +kernel
theorem w5_5 : am_sf (am_swt 5) 21 (Int32.ofNat 5) = 6 := by decide +kernel
theorem w5_6 : am_sf (am_swt 5) 21 (Int32.ofNat 6) = 7 := by decide +kernel
theorem w5_7 : am_sf (am_swt 5) 21 (Int32.ofNat 7) = 8 := by decide +kernel
theorem w5_8 : am_sf (am_swt 5) 21 (Int32.ofNat 8) = 9 := by decide +kernel
theorem w5_9 : am_sf (am_swt 5) 21 (Int32.ofNat 9) = 13 := by decide +kernel
theorem w5_10 : am_sf (am_swt 5) 21 (Int32.ofNat 10) = 17 := by decide +kernel
theorem w5_11 : am_sf (am_swt 5) 21 (Int32.ofNat 11) = 21 := by decide +kernel
theorem w5_12 : am_sf (am_swt 5) 21 (Int32.ofNat 12) = 21 := by decide +kernel
theorem w5_d {x : Int32} (hx : ∀ e ∈ am_swt 5, x ≠ e.1) : am_sf (am_swt 5) 21 x = 21 := am_sf_d _ _ _ hx
theorem w6_0 : am_sf (am_swt 6) 10 (Int32.ofNat 0) = 10 := by decide +kernel
theorem w6_1 : am_sf (am_swt 6) 10 (Int32.ofNat 1) = 10 := by decide +kernel
theorem w6_2 : am_sf (am_swt 6) 10 (Int32.ofNat 2) = 10 := by decide +kernel
theorem w6_3 : am_sf (am_swt 6) 10 (Int32.ofNat 3) = 10 := by decide +kernel
theorem w6_4 : am_sf (am_swt 6) 10 (Int32.ofNat 4) = 10 := by decide +kernel
theorem w6_5 : am_sf (am_swt 6) 10 (Int32.ofNat 5) = 10 := by decide +kernel
theorem w6_6 : am_sf (am_swt 6) 10 (Int32.ofNat 6) = 10 := by decide +kernel
theorem w6_7 : am_sf (am_swt 6) 10 (Int32.ofNat 7) = 10 := by decide +kernel
theorem w6_8 : am_sf (am_swt 6) 10 (Int32.ofNat 8) = 10 := by decide +kernel
theorem w6_9 : am_sf (am_swt 6) 10 (Int32.ofNat 9) = 7 := by decide +kernel
theorem w6_10 : am_sf (am_swt 6) 10 (Int32.ofNat 10) = 8 := by decide +kernel
theorem w6_11 : am_sf (am_swt 6) 10 (Int32.ofNat 11) = 9 := by decide +kernel
theorem w6_12 : am_sf (am_swt 6) 10 (Int32.ofNat 12) = 10 := by decide +kernel
theorem w6_13 : am_sf (am_swt 6) 10 (Int32.ofNat 13) = 10 := by decide +kernel
theorem w6_d {x : Int32} (hx : ∀ e ∈ am_swt 6, x ≠ e.1) : am_sf (am_swt 6) 10 x = 10 := am_sf_d _ _ _ hx
theorem w7_0 : am_sf (am_swt 7) 16 (Int32.ofNat 0) = 16 := by decide +kernel
theorem w7_1 : am_sf (am_swt 7) 16 (Int32.ofNat 1) = 16 := by decide +kernel
theorem w7_2 : am_sf (am_swt 7) 16 (Int32.ofNat 2) = 7 := by decide +kernel
theorem w7_3 : am_sf (am_swt 7) 16 (Int32.ofNat 3) = 16 := by decide +kernel
theorem w7_4 : am_sf (am_swt 7) 16 (Int32.ofNat 4) = 16 := by decide +kernel
theorem w7_5 : am_sf (am_swt 7) 16 (Int32.ofNat 5) = 11 := by decide +kernel
theorem w7_6 : am_sf (am_swt 7) 16 (Int32.ofNat 6) = 12 := by decide +kernel
theorem w7_7 : am_sf (am_swt 7) 16 (Int32.ofNat 7) = 13 := by decide +kernel
theorem w7_8 : am_sf (am_swt 7) 16 (Int32.ofNat 8) = 14 := by decide +kernel
theorem w7_9 : am_sf (am_swt 7) 16 (Int32.ofNat 9) = 15 := by decide +kernel
theorem w7_10 : am_sf (am_swt 7) 16 (Int32.ofNat 10) = 16 := by decide +kernel
theorem w7_11 : am_sf (am_swt 7) 16 (Int32.ofNat 11) = 16 := by decide +kernel
theorem w7_d {x : Int32} (hx : ∀ e ∈ am_swt 7, x ≠ e.1) : am_sf (am_swt 7) 16 x = 16 := am_sf_d _ _ _ hx
theorem w8_0 : am_sf (am_swt 8) 3 (Int32.ofNat 0) = 1 := by decide +kernel
theorem w8_1 : am_sf (am_swt 8) 3 (Int32.ofNat 1) = 2 := by decide +kernel
theorem w8_2 : am_sf (am_swt 8) 3 (Int32.ofNat 2) = 3 := by decide +kernel
theorem w8_3 : am_sf (am_swt 8) 3 (Int32.ofNat 3) = 3 := by decide +kernel
theorem w8_d {x : Int32} (hx : ∀ e ∈ am_swt 8, x ≠ e.1) : am_sf (am_swt 8) 3 x = 3 := am_sf_d _ _ _ hx
theorem w9_0 : am_sf (am_swt 9) 11 (Int32.ofNat 0) = 11 := by decide +kernel
theorem w9_1 : am_sf (am_swt 9) 11 (Int32.ofNat 1) = 11 := by decide +kernel
theorem w9_2 : am_sf (am_swt 9) 11 (Int32.ofNat 2) = 11 := by decide +kernel
theorem w9_3 : am_sf (am_swt 9) 11 (Int32.ofNat 3) = 11 := by decide +kernel
theorem w9_4 : am_sf (am_swt 9) 11 (Int32.ofNat 4) = 11 := by decide +kernel
theorem w9_5 : am_sf (am_swt 9) 11 (Int32.ofNat 5) = 11 := by decide +kernel
theorem w9_6 : am_sf (am_swt 9) 11 (Int32.ofNat 6) = 11 := by decide +kernel
theorem w9_7 : am_sf (am_swt 9) 11 (Int32.ofNat 7) = 11 := by decide +kernel
theorem w9_8 : am_sf (am_swt 9) 11 (Int32.ofNat 8) = 11 := by decide +kernel
theorem w9_9 : am_sf (am_swt 9) 11 (Int32.ofNat 9) = 11 := by decide +kernel
theorem w9_10 : am_sf (am_swt 9) 11 (Int32.ofNat 10) = 11 := by decide +kernel
theorem w9_11 : am_sf (am_swt 9) 11 (Int32.ofNat 11) = 11 := by decide +kernel
theorem w9_12 : am_sf (am_swt 9) 11 (Int32.ofNat 12) = 11 := by decide +kernel
theorem w9_13 : am_sf (am_swt 9) 11 (Int32.ofNat 13) = 11 := by decide +kernel
theorem w9_14 : am_sf (am_swt 9) 11 (Int32.ofNat 14) = 11 := by decide +kernel
theorem w9_15 : am_sf (am_swt 9) 11 (Int32.ofNat 15) = 11 := by decide +kernel
theorem w9_16 : am_sf (am_swt 9) 11 (Int32.ofNat 16) = 11 := by decide +kernel
theorem w9_17 : am_sf (am_swt 9) 11 (Int32.ofNat 17) = 11 := by decide +kernel
theorem w9_18 : am_sf (am_swt 9) 11 (Int32.ofNat 18) = 11 := by decide +kernel
theorem w9_19 : am_sf (am_swt 9) 11 (Int32.ofNat 19) = 11 := by decide +kernel
theorem w9_20 : am_sf (am_swt 9) 11 (Int32.ofNat 20) = 11 := by decide +kernel
theorem w9_21 : am_sf (am_swt 9) 11 (Int32.ofNat 21) = 11 := by decide +kernel
theorem w9_22 : am_sf (am_swt 9) 11 (Int32.ofNat 22) = 11 := by decide +kernel
theorem w9_23 : am_sf (am_swt 9) 11 (Int32.ofNat 23) = 11 := by decide +kernel
theorem w9_24 : am_sf (am_swt 9) 11 (Int32.ofNat 24) = 11 := by decide +kernel
theorem w9_25 : am_sf (am_swt 9) 11 (Int32.ofNat 25) = 11 := by decide +kernel
theorem w9_26 : am_sf (am_swt 9) 11 (Int32.ofNat 26) = 11 := by decide +kernel
theorem w9_27 : am_sf (am_swt 9) 11 (Int32.ofNat 27) = 11 := by decide +kernel
theorem w9_28 : am_sf (am_swt 9) 11 (Int32.ofNat 28) = 11 := by decide +kernel
theorem w9_29 : am_sf (am_swt 9) 11 (Int32.ofNat 29) = 11 := by decide +kernel
theorem w9_30 : am_sf (am_swt 9) 11 (Int32.ofNat 30) = 11 := by decide +kernel
theorem w9_31 : am_sf (am_swt 9) 11 (Int32.ofNat 31) = 11 := by decide +kernel
theorem w9_32 : am_sf (am_swt 9) 11 (Int32.ofNat 32) = 11 := by decide +kernel
theorem w9_33 : am_sf (am_swt 9) 11 (Int32.ofNat 33) = 11 := by decide +kernel
theorem w9_34 : am_sf (am_swt 9) 11 (Int32.ofNat 34) = 11 := by decide +kernel
theorem w9_35 : am_sf (am_swt 9) 11 (Int32.ofNat 35) = 11 := by decide +kernel
theorem w9_36 : am_sf (am_swt 9) 11 (Int32.ofNat 36) = 11 := by decide +kernel
theorem w9_37 : am_sf (am_swt 9) 11 (Int32.ofNat 37) = 11 := by decide +kernel
theorem w9_38 : am_sf (am_swt 9) 11 (Int32.ofNat 38) = 11 := by decide +kernel
theorem w9_39 : am_sf (am_swt 9) 11 (Int32.ofNat 39) = 11 := by decide +kernel
theorem w9_40 : am_sf (am_swt 9) 11 (Int32.ofNat 40) = 11 := by decide +kernel
theorem w9_41 : am_sf (am_swt 9) 11 (Int32.ofNat 41) = 11 := by decide +kernel
theorem w9_42 : am_sf (am_swt 9) 11 (Int32.ofNat 42) = 11 := by decide +kernel
theorem w9_43 : am_sf (am_swt 9) 11 (Int32.ofNat 43) = 11 := by decide +kernel
theorem w9_44 : am_sf (am_swt 9) 11 (Int32.ofNat 44) = 11 := by decide +kernel
theorem w9_45 : am_sf (am_swt 9) 11 (Int32.ofNat 45) = 11 := by decide +kernel
theorem w9_46 : am_sf (am_swt 9) 11 (Int32.ofNat 46) = 11 := by decide +kernel
theorem w9_47 : am_sf (am_swt 9) 11 (Int32.ofNat 47) = 11 := by decide +kernel
theorem w9_48 : am_sf (am_swt 9) 11 (Int32.ofNat 48) = 11 := by decide +kernel
theorem w9_49 : am_sf (am_swt 9) 11 (Int32.ofNat 49) = 11 := by decide +kernel
theorem w9_50 : am_sf (am_swt 9) 11 (Int32.ofNat 50) = 11 := by decide +kernel
theorem w9_51 : am_sf (am_swt 9) 11 (Int32.ofNat 51) = 11 := by decide +kernel
theorem w9_52 : am_sf (am_swt 9) 11 (Int32.ofNat 52) = 11 := by decide +kernel
theorem w9_53 : am_sf (am_swt 9) 11 (Int32.ofNat 53) = 11 := by decide +kernel
theorem w9_54 : am_sf (am_swt 9) 11 (Int32.ofNat 54) = 11 := by decide +kernel
theorem w9_55 : am_sf (am_swt 9) 11 (Int32.ofNat 55) = 11 := by decide +kernel
theorem w9_56 : am_sf (am_swt 9) 11 (Int32.ofNat 56) = 11 := by decide +kernel
theorem w9_57 : am_sf (am_swt 9) 11 (Int32.ofNat 57) = 11 := by decide +kernel
theorem w9_58 : am_sf (am_swt 9) 11 (Int32.ofNat 58) = 11 := by decide +kernel
theorem w9_59 : am_sf (am_swt 9) 11 (Int32.ofNat 59) = 11 := by decide +kernel
theorem w9_60 : am_sf (am_swt 9) 11 (Int32.ofNat 60) = 11 := by decide +kernel
theorem w9_61 : am_sf (am_swt 9) 11 (Int32.ofNat 61) = 11 := by decide +kernel
theorem w9_62 : am_sf (am_swt 9) 11 (Int32.ofNat 62) = 11 := by decide +kernel
theorem w9_63 : am_sf (am_swt 9) 11 (Int32.ofNat 63) = 11 := by decide +kernel
theorem w9_64 : am_sf (am_swt 9) 11 (Int32.ofNat 64) = 11 := by decide +kernel
theorem w9_65 : am_sf (am_swt 9) 11 (Int32.ofNat 65) = 11 := by decide +kernel
theorem w9_1011 : am_sf (am_swt 9) 11 (Int32.ofNat 1011) = 10 := by decide +kernel
theorem w9_1243 : am_sf (am_swt 9) 11 (Int32.ofNat 1243) = 1 := by decide +kernel
theorem w9_1260 : am_sf (am_swt 9) 11 (Int32.ofNat 1260) = 2 := by decide +kernel
theorem w9_1262 : am_sf (am_swt 9) 11 (Int32.ofNat 1262) = 6 := by decide +kernel
theorem w9_d {x : Int32} (hx : ∀ e ∈ am_swt 9, x ≠ e.1) : am_sf (am_swt 9) 11 x = 11 := am_sf_d _ _ _ hx
theorem w10_0 : am_sf (am_swt 10) 273 (Int32.ofNat 0) = 3 := by decide +kernel
theorem w10_1 : am_sf (am_swt 10) 273 (Int32.ofNat 1) = 5 := by decide +kernel
theorem w10_2 : am_sf (am_swt 10) 273 (Int32.ofNat 2) = 7 := by decide +kernel
theorem w10_3 : am_sf (am_swt 10) 273 (Int32.ofNat 3) = 13 := by decide +kernel
theorem w10_4 : am_sf (am_swt 10) 273 (Int32.ofNat 4) = 19 := by decide +kernel
theorem w10_5 : am_sf (am_swt 10) 273 (Int32.ofNat 5) = 21 := by decide +kernel
theorem w10_6 : am_sf (am_swt 10) 273 (Int32.ofNat 6) = 27 := by decide +kernel
theorem w10_7 : am_sf (am_swt 10) 273 (Int32.ofNat 7) = 33 := by decide +kernel
theorem w10_8 : am_sf (am_swt 10) 273 (Int32.ofNat 8) = 39 := by decide +kernel
theorem w10_9 : am_sf (am_swt 10) 273 (Int32.ofNat 9) = 45 := by decide +kernel
theorem w10_10 : am_sf (am_swt 10) 273 (Int32.ofNat 10) = 51 := by decide +kernel
theorem w10_11 : am_sf (am_swt 10) 273 (Int32.ofNat 11) = 57 := by decide +kernel
theorem w10_12 : am_sf (am_swt 10) 273 (Int32.ofNat 12) = 63 := by decide +kernel
theorem w10_13 : am_sf (am_swt 10) 273 (Int32.ofNat 13) = 69 := by decide +kernel
theorem w10_14 : am_sf (am_swt 10) 273 (Int32.ofNat 14) = 75 := by decide +kernel
theorem w10_15 : am_sf (am_swt 10) 273 (Int32.ofNat 15) = 81 := by decide +kernel
theorem w10_16 : am_sf (am_swt 10) 273 (Int32.ofNat 16) = 87 := by decide +kernel
theorem w10_17 : am_sf (am_swt 10) 273 (Int32.ofNat 17) = 93 := by decide +kernel
theorem w10_18 : am_sf (am_swt 10) 273 (Int32.ofNat 18) = 99 := by decide +kernel
theorem w10_19 : am_sf (am_swt 10) 273 (Int32.ofNat 19) = 105 := by decide +kernel
theorem w10_20 : am_sf (am_swt 10) 273 (Int32.ofNat 20) = 111 := by decide +kernel
theorem w10_21 : am_sf (am_swt 10) 273 (Int32.ofNat 21) = 117 := by decide +kernel
theorem w10_22 : am_sf (am_swt 10) 273 (Int32.ofNat 22) = 123 := by decide +kernel
theorem w10_23 : am_sf (am_swt 10) 273 (Int32.ofNat 23) = 125 := by decide +kernel
theorem w10_24 : am_sf (am_swt 10) 273 (Int32.ofNat 24) = 131 := by decide +kernel
theorem w10_25 : am_sf (am_swt 10) 273 (Int32.ofNat 25) = 137 := by decide +kernel
theorem w10_26 : am_sf (am_swt 10) 273 (Int32.ofNat 26) = 139 := by decide +kernel
theorem w10_27 : am_sf (am_swt 10) 273 (Int32.ofNat 27) = 145 := by decide +kernel
theorem w10_28 : am_sf (am_swt 10) 273 (Int32.ofNat 28) = 151 := by decide +kernel
theorem w10_29 : am_sf (am_swt 10) 273 (Int32.ofNat 29) = 157 := by decide +kernel
theorem w10_30 : am_sf (am_swt 10) 273 (Int32.ofNat 30) = 166 := by decide +kernel
theorem w10_31 : am_sf (am_swt 10) 273 (Int32.ofNat 31) = 168 := by decide +kernel
theorem w10_32 : am_sf (am_swt 10) 273 (Int32.ofNat 32) = 170 := by decide +kernel
theorem w10_33 : am_sf (am_swt 10) 273 (Int32.ofNat 33) = 172 := by decide +kernel
theorem w10_34 : am_sf (am_swt 10) 273 (Int32.ofNat 34) = 184 := by decide +kernel
theorem w10_35 : am_sf (am_swt 10) 273 (Int32.ofNat 35) = 190 := by decide +kernel
theorem w10_36 : am_sf (am_swt 10) 273 (Int32.ofNat 36) = 196 := by decide +kernel
theorem w10_37 : am_sf (am_swt 10) 273 (Int32.ofNat 37) = 202 := by decide +kernel
theorem w10_38 : am_sf (am_swt 10) 273 (Int32.ofNat 38) = 204 := by decide +kernel
theorem w10_39 : am_sf (am_swt 10) 273 (Int32.ofNat 39) = 206 := by decide +kernel
theorem w10_40 : am_sf (am_swt 10) 273 (Int32.ofNat 40) = 208 := by decide +kernel
theorem w10_41 : am_sf (am_swt 10) 273 (Int32.ofNat 41) = 210 := by decide +kernel
theorem w10_42 : am_sf (am_swt 10) 273 (Int32.ofNat 42) = 212 := by decide +kernel
theorem w10_43 : am_sf (am_swt 10) 273 (Int32.ofNat 43) = 214 := by decide +kernel
theorem w10_44 : am_sf (am_swt 10) 273 (Int32.ofNat 44) = 216 := by decide +kernel
theorem w10_45 : am_sf (am_swt 10) 273 (Int32.ofNat 45) = 222 := by decide +kernel
theorem w10_46 : am_sf (am_swt 10) 273 (Int32.ofNat 46) = 234 := by decide +kernel
theorem w10_47 : am_sf (am_swt 10) 273 (Int32.ofNat 47) = 246 := by decide +kernel
theorem w10_48 : am_sf (am_swt 10) 273 (Int32.ofNat 48) = 258 := by decide +kernel
theorem w10_49 : am_sf (am_swt 10) 273 (Int32.ofNat 49) = 264 := by decide +kernel
theorem w10_50 : am_sf (am_swt 10) 273 (Int32.ofNat 50) = 266 := by decide +kernel
theorem w10_51 : am_sf (am_swt 10) 273 (Int32.ofNat 51) = 268 := by decide +kernel
theorem w10_52 : am_sf (am_swt 10) 273 (Int32.ofNat 52) = 269 := by decide +kernel
theorem w10_53 : am_sf (am_swt 10) 273 (Int32.ofNat 53) = 271 := by decide +kernel
theorem w10_54 : am_sf (am_swt 10) 273 (Int32.ofNat 54) = 273 := by decide +kernel
theorem w10_55 : am_sf (am_swt 10) 273 (Int32.ofNat 55) = 273 := by decide +kernel
theorem w10_56 : am_sf (am_swt 10) 273 (Int32.ofNat 56) = 273 := by decide +kernel
theorem w10_57 : am_sf (am_swt 10) 273 (Int32.ofNat 57) = 273 := by decide +kernel
theorem w10_58 : am_sf (am_swt 10) 273 (Int32.ofNat 58) = 273 := by decide +kernel
theorem w10_59 : am_sf (am_swt 10) 273 (Int32.ofNat 59) = 273 := by decide +kernel
theorem w10_60 : am_sf (am_swt 10) 273 (Int32.ofNat 60) = 273 := by decide +kernel
theorem w10_61 : am_sf (am_swt 10) 273 (Int32.ofNat 61) = 273 := by decide +kernel
theorem w10_62 : am_sf (am_swt 10) 273 (Int32.ofNat 62) = 273 := by decide +kernel
theorem w10_63 : am_sf (am_swt 10) 273 (Int32.ofNat 63) = 273 := by decide +kernel
theorem w10_d {x : Int32} (hx : ∀ e ∈ am_swt 10, x ≠ e.1) : am_sf (am_swt 10) 273 x = 273 := am_sf_d _ _ _ hx
theorem am_isS_3 : am_isS 3 := am_stL_ok _ (by decide)
theorem am_isS_25 : am_isS 25 := am_stL_ok _ (by decide)
theorem am_isS_47 : am_isS 47 := am_stL_ok _ (by decide)
