/-! what is known of the cells, for the cleaned rows -/
theorem b_0 : ((0 : Int32) = 0 ∨ (0 : Int32) = 1) = True := by simp
theorem b_1 : ((1 : Int32) = 0 ∨ (1 : Int32) = 1) = True := by simp
theorem g_0_0 : am_tg 0 0 = 1 := rfl
theorem g_0_1 : am_tg 0 1 = 3 := rfl
theorem g_0_10 : am_tg 0 10 = 362 := rfl
theorem g_0_11 : am_tg 0 11 = 365 := rfl
theorem g_0_12 : am_tg 0 12 = 370 := rfl
theorem g_0_2 : am_tg 0 2 = 25 := rfl
theorem g_0_3 : am_tg 0 3 = 47 := rfl
theorem g_0_4 : am_tg 0 4 = 69 := rfl
theorem g_0_5 : am_tg 0 5 = 335 := rfl
theorem g_0_6 : am_tg 0 6 = 342 := rfl
theorem g_0_7 : am_tg 0 7 = 349 := rfl
theorem g_0_8 : am_tg 0 8 = 356 := rfl
theorem g_0_9 : am_tg 0 9 = 359 := rfl
theorem g_1_0 : am_tg 1 0 = 2 := rfl
theorem g_25_0 : am_tg 25 0 = 26 := rfl
theorem g_25_1 : am_tg 25 1 = 31 := rfl
theorem g_335_0 : am_tg 335 0 = 336 := rfl
theorem g_335_1 : am_tg 335 1 = 337 := rfl
theorem g_335_2 : am_tg 335 2 = 338 := rfl
theorem g_335_3 : am_tg 335 3 = 339 := rfl
theorem g_335_4 : am_tg 335 4 = 340 := rfl
theorem g_335_5 : am_tg 335 5 = 341 := rfl
theorem g_342_0 : am_tg 342 0 = 343 := rfl
theorem g_342_1 : am_tg 342 1 = 344 := rfl
theorem g_342_2 : am_tg 342 2 = 345 := rfl
theorem g_342_3 : am_tg 342 3 = 346 := rfl
theorem g_356_4 : am_tg 356 4 = 25 := rfl
theorem g_359_4 : am_tg 359 4 = 342 := rfl
theorem g_362_0 : am_tg 362 0 = 363 := rfl
theorem g_362_1 : am_tg 362 1 = 364 := rfl
theorem g_365_0 : am_tg 365 0 = 366 := rfl
theorem g_365_1 : am_tg 365 1 = 367 := rfl
theorem g_365_2 : am_tg 365 2 = 368 := rfl
theorem g_365_3 : am_tg 365 3 = 369 := rfl
theorem g_370_0 : am_tg 370 0 = 371 := rfl
theorem g_370_1 : am_tg 370 1 = 372 := rfl
theorem g_373_1 : am_tg 373 1 = 374 := rfl
theorem g_373_15 : am_tg 373 15 = 380 := rfl
theorem g_373_17 : am_tg 373 17 = 381 := rfl
theorem g_373_18 : am_tg 373 18 = 382 := rfl
theorem g_373_19 : am_tg 373 19 = 383 := rfl
theorem g_373_2 : am_tg 373 2 = 375 := rfl
theorem g_373_20 : am_tg 373 20 = 384 := rfl
theorem g_373_22 : am_tg 373 22 = 385 := rfl
theorem g_373_23 : am_tg 373 23 = 386 := rfl
theorem g_373_24 : am_tg 373 24 = 387 := rfl
theorem g_373_25 : am_tg 373 25 = 388 := rfl
theorem g_373_3 : am_tg 373 3 = 376 := rfl
theorem g_373_4 : am_tg 373 4 = 377 := rfl
theorem g_373_5 : am_tg 373 5 = 378 := rfl
theorem g_373_8 : am_tg 373 8 = 379 := rfl
theorem g_3_0 : am_tg 3 0 = 4 := rfl
theorem g_3_1 : am_tg 3 1 = 9 := rfl
theorem g_3_2 : am_tg 3 2 = 19 := rfl
theorem g_69_0 : am_tg 69 0 = 70 := rfl
theorem in_0_1 : am_in (0 : Int32) 1 = true := by decide
theorem in_0_11 : am_in (0 : Int32) 11 = true := by decide
theorem in_0_2113 : am_in (0 : Int32) 2113 = true := by decide
theorem in_0_32 : am_in (0 : Int32) 32 = true := by decide
theorem in_0_4 : am_in (0 : Int32) 4 = true := by decide
theorem in_0_400 : am_in (0 : Int32) 400 = true := by decide
theorem in_0_5 : am_in (0 : Int32) 5 = true := by decide
theorem in_0_9 : am_in (0 : Int32) 9 = true := by decide
theorem in_115_2113 : am_in (115 : Int32) 2113 = true := by decide
theorem in_116_2113 : am_in (116 : Int32) 2113 = true := by decide
theorem in_117_2113 : am_in (117 : Int32) 2113 = true := by decide
theorem in_118_2113 : am_in (118 : Int32) 2113 = true := by decide
theorem in_119_2113 : am_in (119 : Int32) 2113 = true := by decide
theorem in_1264_2113 : am_in (1264 : Int32) 2113 = true := by decide
theorem in_1_11 : am_in (1 : Int32) 11 = true := by decide
theorem in_1_2113 : am_in (1 : Int32) 2113 = true := by decide
theorem in_1_4 : am_in (1 : Int32) 4 = true := by decide
theorem in_1_5 : am_in (1 : Int32) 5 = true := by decide
theorem in_1_9 : am_in (1 : Int32) 9 = true := by decide
theorem in_2_11 : am_in (2 : Int32) 11 = true := by decide
theorem in_2_2113 : am_in (2 : Int32) 2113 = true := by decide
theorem in_2_4 : am_in (2 : Int32) 4 = true := by decide
theorem in_2_5 : am_in (2 : Int32) 5 = true := by decide
theorem in_2_9 : am_in (2 : Int32) 9 = true := by decide
theorem in_3_11 : am_in (3 : Int32) 11 = true := by decide
theorem in_3_2113 : am_in (3 : Int32) 2113 = true := by decide
theorem in_3_4 : am_in (3 : Int32) 4 = true := by decide
theorem in_3_5 : am_in (3 : Int32) 5 = true := by decide
theorem in_3_9 : am_in (3 : Int32) 9 = true := by decide
theorem in_415_2113 : am_in (415 : Int32) 2113 = true := by decide
theorem in_4_11 : am_in (4 : Int32) 11 = true := by decide
theorem in_4_2113 : am_in (4 : Int32) 2113 = true := by decide
theorem in_4_5 : am_in (4 : Int32) 5 = true := by decide
theorem in_4_9 : am_in (4 : Int32) 9 = true := by decide
theorem in_5_11 : am_in (5 : Int32) 11 = true := by decide
theorem in_5_2113 : am_in (5 : Int32) 2113 = true := by decide
theorem in_5_9 : am_in (5 : Int32) 9 = true := by decide
theorem in_6_11 : am_in (6 : Int32) 11 = true := by decide
theorem in_6_2113 : am_in (6 : Int32) 2113 = true := by decide
theorem in_6_9 : am_in (6 : Int32) 9 = true := by decide
theorem in_7_11 : am_in (7 : Int32) 11 = true := by decide
theorem in_7_9 : am_in (7 : Int32) 9 = true := by decide
theorem in_8_9 : am_in (8 : Int32) 9 = true := by decide
theorem k_0 : am_kd 0 = 9 := rfl
theorem k_1 : am_kd 1 = 8 := rfl
theorem k_10 : am_kd 10 = 20 := rfl
theorem k_12 : am_kd 12 = 20 := rfl
theorem k_13 : am_kd 13 = 20 := rfl
theorem k_14 : am_kd 14 = 20 := rfl
theorem k_15 : am_kd 15 = 20 := rfl
theorem k_17 : am_kd 17 = 20 := rfl
theorem k_18 : am_kd 18 = 20 := rfl
theorem k_19 : am_kd 19 = 24 := rfl
theorem k_2 : am_kd 2 = 20 := rfl
theorem k_25 : am_kd 25 = 7 := rfl
theorem k_26 : am_kd 26 = 24 := rfl
theorem k_3 : am_kd 3 = 7 := rfl
theorem k_31 : am_kd 31 = 24 := rfl
theorem k_335 : am_kd 335 = 2 := rfl
theorem k_336 : am_kd 336 = 22 := rfl
theorem k_337 : am_kd 337 = 20 := rfl
theorem k_338 : am_kd 338 = 20 := rfl
theorem k_339 : am_kd 339 = 20 := rfl
theorem k_34 : am_kd 34 = 20 := rfl
theorem k_340 : am_kd 340 = 20 := rfl
theorem k_341 : am_kd 341 = 20 := rfl
theorem k_342 : am_kd 342 = 2 := rfl
theorem k_343 : am_kd 343 = 22 := rfl
theorem k_344 : am_kd 344 = 20 := rfl
theorem k_345 : am_kd 345 = 20 := rfl
theorem k_346 : am_kd 346 = 20 := rfl
theorem k_349 : am_kd 349 = 2 := rfl
theorem k_356 : am_kd 356 = 5 := rfl
theorem k_359 : am_kd 359 = 3 := rfl
theorem k_36 : am_kd 36 = 20 := rfl
theorem k_362 : am_kd 362 = 1 := rfl
theorem k_363 : am_kd 363 = 20 := rfl
theorem k_364 : am_kd 364 = 20 := rfl
theorem k_365 : am_kd 365 = 4 := rfl
theorem k_366 : am_kd 366 = 20 := rfl
theorem k_367 : am_kd 367 = 20 := rfl
theorem k_368 : am_kd 368 = 20 := rfl
theorem k_369 : am_kd 369 = 20 := rfl
theorem k_370 : am_kd 370 = 0 := rfl
theorem k_371 : am_kd 371 = 22 := rfl
theorem k_372 : am_kd 372 = 20 := rfl
theorem k_373 : am_kd 373 = 10 := rfl
theorem k_374 : am_kd 374 = 20 := rfl
theorem k_375 : am_kd 375 = 20 := rfl
theorem k_376 : am_kd 376 = 20 := rfl
theorem k_377 : am_kd 377 = 20 := rfl
theorem k_378 : am_kd 378 = 20 := rfl
theorem k_379 : am_kd 379 = 21 := rfl
theorem k_380 : am_kd 380 = 20 := rfl
theorem k_381 : am_kd 381 = 20 := rfl
theorem k_382 : am_kd 382 = 20 := rfl
theorem k_383 : am_kd 383 = 20 := rfl
theorem k_384 : am_kd 384 = 20 := rfl
theorem k_385 : am_kd 385 = 20 := rfl
theorem k_386 : am_kd 386 = 20 := rfl
theorem k_387 : am_kd 387 = 20 := rfl
theorem k_388 : am_kd 388 = 20 := rfl
theorem k_389 : am_kd 389 = 23 := rfl
theorem k_39 : am_kd 39 = 20 := rfl
theorem k_4 : am_kd 4 = 24 := rfl
theorem k_40 : am_kd 40 = 20 := rfl
theorem k_47 : am_kd 47 = 7 := rfl
theorem k_5 : am_kd 5 = 20 := rfl
theorem k_6 : am_kd 6 = 20 := rfl
theorem k_69 : am_kd 69 = 6 := rfl
theorem k_7 : am_kd 7 = 20 := rfl
theorem k_70 : am_kd 70 = 25 := rfl
theorem k_8 : am_kd 8 = 20 := rfl
theorem k_9 : am_kd 9 = 24 := rfl
theorem kk_0_0 : am_kk 0 0 = true := rfl
theorem kk_10_10 : am_kk 10 10 = true := rfl
theorem kk_1_1 : am_kk 1 1 = true := rfl
theorem kk_2_2 : am_kk 2 2 = true := rfl
theorem kk_3_3 : am_kk 3 3 = true := rfl
theorem kk_4_4 : am_kk 4 4 = true := rfl
theorem kk_5_5 : am_kk 5 5 = true := rfl
theorem kk_6_6 : am_kk 6 6 = true := rfl
theorem kk_7_7 : am_kk 7 7 = true := rfl
theorem kk_8_8 : am_kk 8 8 = true := rfl
theorem kk_9_9 : am_kk 9 9 = true := rfl
theorem n_10 : am_ln 10 = 8 := rfl
theorem n_12 : am_ln 12 = 8 := rfl
theorem n_13 : am_ln 13 = 8 := rfl
theorem n_14 : am_ln 14 = 8 := rfl
theorem n_15 : am_ln 15 = 8 := rfl
theorem n_17 : am_ln 17 = 8 := rfl
theorem n_18 : am_ln 18 = 8 := rfl
theorem n_19 : am_ln 19 = 5 := rfl
theorem n_2 : am_ln 2 = 400 := rfl
theorem n_26 : am_ln 26 = 4 := rfl
theorem n_31 : am_ln 31 = 9 := rfl
theorem n_336 : am_ln 336 = 12 := rfl
theorem n_337 : am_ln 337 = 12 := rfl
theorem n_338 : am_ln 338 = 12 := rfl
theorem n_339 : am_ln 339 = 400 := rfl
theorem n_34 : am_ln 34 = 8 := rfl
theorem n_340 : am_ln 340 = 11 := rfl
theorem n_341 : am_ln 341 = 32 := rfl
theorem n_343 : am_ln 343 = 12 := rfl
theorem n_344 : am_ln 344 = 12 := rfl
theorem n_345 : am_ln 345 = 12 := rfl
theorem n_346 : am_ln 346 = 400 := rfl
theorem n_36 : am_ln 36 = 8 := rfl
theorem n_363 : am_ln 363 = 1024 := rfl
theorem n_364 : am_ln 364 = 1024 := rfl
theorem n_366 : am_ln 366 = 8 := rfl
theorem n_367 : am_ln 367 = 8 := rfl
theorem n_368 : am_ln 368 = 8 := rfl
theorem n_369 : am_ln 369 = 8 := rfl
theorem n_371 : am_ln 371 = 1000 := rfl
theorem n_372 : am_ln 372 = 1000 := rfl
theorem n_374 : am_ln 374 = 2113 := rfl
theorem n_375 : am_ln 375 = 1264 := rfl
theorem n_376 : am_ln 376 = 1264 := rfl
theorem n_377 : am_ln 377 = 415 := rfl
theorem n_378 : am_ln 378 = 4980 := rfl
theorem n_379 : am_ln 379 = 400 := rfl
theorem n_380 : am_ln 380 = 5 := rfl
theorem n_381 : am_ln 381 = 400 := rfl
theorem n_382 : am_ln 382 = 1024 := rfl
theorem n_383 : am_ln 383 = 1024 := rfl
theorem n_384 : am_ln 384 = 1024 := rfl
theorem n_385 : am_ln 385 = 2304 := rfl
theorem n_386 : am_ln 386 = 8 := rfl
theorem n_387 : am_ln 387 = 8 := rfl
theorem n_388 : am_ln 388 = 1000 := rfl
theorem n_389 : am_ln 389 = 1 := rfl
theorem n_39 : am_ln 39 = 8 := rfl
theorem n_4 : am_ln 4 = 4 := rfl
theorem n_40 : am_ln 40 = 8 := rfl
theorem n_5 : am_ln 5 = 9 := rfl
theorem n_6 : am_ln 6 = 9 := rfl
theorem n_7 : am_ln 7 = 9 := rfl
theorem n_70 : am_ln 70 = 12 := rfl
theorem n_8 : am_ln 8 = 9 := rfl
theorem n_9 : am_ln 9 = 9 := rfl
theorem s_26_0k : am_kd (26 + 1 + 0) = 20 := rfl
theorem s_26_0n : am_ln (26 + 1 + 0) = 9 := rfl
theorem s_26_1k : am_kd (26 + 1 + 1) = 20 := rfl
theorem s_26_1n : am_ln (26 + 1 + 1) = 9 := rfl
theorem s_26_2k : am_kd (26 + 1 + 2) = 20 := rfl
theorem s_26_2n : am_ln (26 + 1 + 2) = 9 := rfl
theorem s_26_3k : am_kd (26 + 1 + 3) = 20 := rfl
theorem s_26_3n : am_ln (26 + 1 + 3) = 9 := rfl
theorem s_31_0k : am_kd (31 + 1 + 0) = 20 := rfl
theorem s_31_0n : am_ln (31 + 1 + 0) = 8 := rfl
theorem s_31_2k : am_kd (31 + 1 + 2) = 20 := rfl
theorem s_31_2n : am_ln (31 + 1 + 2) = 8 := rfl
theorem s_31_3k : am_kd (31 + 1 + 3) = 20 := rfl
theorem s_31_3n : am_ln (31 + 1 + 3) = 8 := rfl
theorem s_31_4k : am_kd (31 + 1 + 4) = 20 := rfl
theorem s_31_4n : am_ln (31 + 1 + 4) = 8 := rfl
theorem s_31_7k : am_kd (31 + 1 + 7) = 20 := rfl
theorem s_31_7n : am_ln (31 + 1 + 7) = 8 := rfl
theorem s_31_8k : am_kd (31 + 1 + 8) = 20 := rfl
theorem s_31_8n : am_ln (31 + 1 + 8) = 8 := rfl
theorem s_4_0k : am_kd (4 + 1 + 0) = 20 := rfl
theorem s_4_0n : am_ln (4 + 1 + 0) = 9 := rfl
theorem s_4_1k : am_kd (4 + 1 + 1) = 20 := rfl
theorem s_4_1n : am_ln (4 + 1 + 1) = 9 := rfl
theorem s_4_2k : am_kd (4 + 1 + 2) = 20 := rfl
theorem s_4_2n : am_ln (4 + 1 + 2) = 9 := rfl
theorem s_4_3k : am_kd (4 + 1 + 3) = 20 := rfl
theorem s_4_3n : am_ln (4 + 1 + 3) = 9 := rfl
theorem s_9_0k : am_kd (9 + 1 + 0) = 20 := rfl
theorem s_9_0n : am_ln (9 + 1 + 0) = 8 := rfl
theorem s_9_2k : am_kd (9 + 1 + 2) = 20 := rfl
theorem s_9_2n : am_ln (9 + 1 + 2) = 8 := rfl
theorem s_9_3k : am_kd (9 + 1 + 3) = 20 := rfl
theorem s_9_3n : am_ln (9 + 1 + 3) = 8 := rfl
theorem s_9_4k : am_kd (9 + 1 + 4) = 20 := rfl
theorem s_9_4n : am_ln (9 + 1 + 4) = 8 := rfl
theorem s_9_5k : am_kd (9 + 1 + 5) = 20 := rfl
theorem s_9_5n : am_ln (9 + 1 + 5) = 8 := rfl
theorem s_9_7k : am_kd (9 + 1 + 7) = 20 := rfl
theorem s_9_7n : am_ln (9 + 1 + 7) = 8 := rfl
theorem s_9_8k : am_kd (9 + 1 + 8) = 20 := rfl
theorem s_9_8n : am_ln (9 + 1 + 8) = 8 := rfl
theorem tn_0 : (0 : Int32).toNatClampNeg = 0 := by decide
theorem tn_1 : (1 : Int32).toNatClampNeg = 1 := by decide
theorem tn_115 : (115 : Int32).toNatClampNeg = 115 := by decide
theorem tn_116 : (116 : Int32).toNatClampNeg = 116 := by decide
theorem tn_117 : (117 : Int32).toNatClampNeg = 117 := by decide
theorem tn_118 : (118 : Int32).toNatClampNeg = 118 := by decide
theorem tn_119 : (119 : Int32).toNatClampNeg = 119 := by decide
theorem tn_1264 : (1264 : Int32).toNatClampNeg = 1264 := by decide
theorem tn_2 : (2 : Int32).toNatClampNeg = 2 := by decide
theorem tn_3 : (3 : Int32).toNatClampNeg = 3 := by decide
theorem tn_4 : (4 : Int32).toNatClampNeg = 4 := by decide
theorem tn_415 : (415 : Int32).toNatClampNeg = 415 := by decide
theorem tn_5 : (5 : Int32).toNatClampNeg = 5 := by decide
theorem tn_6 : (6 : Int32).toNatClampNeg = 6 := by decide
theorem tn_7 : (7 : Int32).toNatClampNeg = 7 := by decide
theorem tn_8 : (8 : Int32).toNatClampNeg = 8 := by decide
theorem z_10 : ((10 : Int32) = 0) = False := by simp
theorem z_100 : ((100 : Int32) = 0) = False := by simp
theorem z_12 : ((12 : Int32) = 0) = False := by simp
theorem z_2 : ((2 : Int32) = 0) = False := by simp
theorem z_4 : ((4 : Int32) = 0) = False := by simp
theorem z_8 : ((8 : Int32) = 0) = False := by simp
theorem am_sf_d : ∀ (l : List (Int32 × Nat)) (d : Nat) (x : Int32), (∀ e ∈ l, x ≠ e.1) → am_sf l d x = d := by
  intro l
  induction l with
  | nil => intro d x _; rfl
  | cons e l ih =>
    intro d x hx
    obtain ⟨v, t⟩ := e
    show (if x = v then t else am_sf l d x) = d
    rw [if_neg (hx (v, t) List.mem_cons_self), ih d x (fun e he => hx e (List.mem_cons_of_mem _ he))]
theorem or20 : ((20 : Nat) = 20 ∨ (20 : Nat) = 24) = True := by simp
theorem or24 : ((24 : Nat) = 20 ∨ (24 : Nat) = 24) = True := by simp
theorem iSk_0 {o : Nat} (H : am_isS o) : am_kd (o) = 7 := by obtain ⟨h0, h1, h2, h3, h4, h5, h6, h7, h8, h9, h10, h11, h12⟩ := H; exact h0
theorem iSk_1 {o : Nat} (H : am_isS o) : am_kd (o + 1) = 24 := by obtain ⟨h0, h1, h2, h3, h4, h5, h6, h7, h8, h9, h10, h11, h12⟩ := H; exact h4
theorem iSk_6 {o : Nat} (H : am_isS o) : am_kd (o + 6) = 24 := by obtain ⟨h0, h1, h2, h3, h4, h5, h6, h7, h8, h9, h10, h11, h12⟩ := H; exact h6
theorem iSk_16 {o : Nat} (H : am_isS o) : am_kd (o + 16) = 24 := by obtain ⟨h0, h1, h2, h3, h4, h5, h6, h7, h8, h9, h10, h11, h12⟩ := H; exact h8
theorem iSn_1 {o : Nat} (H : am_isS o) : am_ln (o + 1) = 4 := by obtain ⟨h0, h1, h2, h3, h4, h5, h6, h7, h8, h9, h10, h11, h12⟩ := H; exact h5
theorem iSn_6 {o : Nat} (H : am_isS o) : am_ln (o + 6) = 9 := by obtain ⟨h0, h1, h2, h3, h4, h5, h6, h7, h8, h9, h10, h11, h12⟩ := H; exact h7
theorem iSn_16 {o : Nat} (H : am_isS o) : am_ln (o + 16) = 5 := by obtain ⟨h0, h1, h2, h3, h4, h5, h6, h7, h8, h9, h10, h11, h12⟩ := H; exact h9
theorem iSt_0 {o : Nat} (H : am_isS o) : am_tg o 0 = o + 1 := by obtain ⟨h0, h1, h2, h3, h4, h5, h6, h7, h8, h9, h10, h11, h12⟩ := H; exact h1
theorem iSt_1 {o : Nat} (H : am_isS o) : am_tg o 1 = o + 6 := by obtain ⟨h0, h1, h2, h3, h4, h5, h6, h7, h8, h9, h10, h11, h12⟩ := H; exact h2
theorem iSt_2 {o : Nat} (H : am_isS o) : am_tg o 2 = o + 16 := by obtain ⟨h0, h1, h2, h3, h4, h5, h6, h7, h8, h9, h10, h11, h12⟩ := H; exact h3
theorem iSk_2 {o : Nat} (H : am_isS o) : am_kd (o + 1 + 1 + 0) = 20 := by obtain ⟨h0, h1, h2, h3, h4, h5, h6, h7, h8, h9, h10, h11, h12⟩ := H; exact (h10 0 (by omega)).1
theorem iSn_2 {o : Nat} (H : am_isS o) : am_ln (o + 1 + 1 + 0) = 9 := by obtain ⟨h0, h1, h2, h3, h4, h5, h6, h7, h8, h9, h10, h11, h12⟩ := H; exact (h10 0 (by omega)).2
theorem iSk_3 {o : Nat} (H : am_isS o) : am_kd (o + 1 + 1 + 1) = 20 := by obtain ⟨h0, h1, h2, h3, h4, h5, h6, h7, h8, h9, h10, h11, h12⟩ := H; exact (h10 1 (by omega)).1
theorem iSn_3 {o : Nat} (H : am_isS o) : am_ln (o + 1 + 1 + 1) = 9 := by obtain ⟨h0, h1, h2, h3, h4, h5, h6, h7, h8, h9, h10, h11, h12⟩ := H; exact (h10 1 (by omega)).2
theorem iSk_4 {o : Nat} (H : am_isS o) : am_kd (o + 1 + 1 + 2) = 20 := by obtain ⟨h0, h1, h2, h3, h4, h5, h6, h7, h8, h9, h10, h11, h12⟩ := H; exact (h10 2 (by omega)).1
theorem iSn_4 {o : Nat} (H : am_isS o) : am_ln (o + 1 + 1 + 2) = 9 := by obtain ⟨h0, h1, h2, h3, h4, h5, h6, h7, h8, h9, h10, h11, h12⟩ := H; exact (h10 2 (by omega)).2
theorem iSk_5 {o : Nat} (H : am_isS o) : am_kd (o + 1 + 1 + 3) = 20 := by obtain ⟨h0, h1, h2, h3, h4, h5, h6, h7, h8, h9, h10, h11, h12⟩ := H; exact (h10 3 (by omega)).1
theorem iSn_5 {o : Nat} (H : am_isS o) : am_ln (o + 1 + 1 + 3) = 9 := by obtain ⟨h0, h1, h2, h3, h4, h5, h6, h7, h8, h9, h10, h11, h12⟩ := H; exact (h10 3 (by omega)).2
theorem iSk_7 {o : Nat} (H : am_isS o) : am_kd (o + 6 + 1 + 0) = 20 := by obtain ⟨h0, h1, h2, h3, h4, h5, h6, h7, h8, h9, h10, h11, h12⟩ := H; exact (h11 0 (by omega)).1
theorem iSn_7 {o : Nat} (H : am_isS o) : am_ln (o + 6 + 1 + 0) = 8 := by obtain ⟨h0, h1, h2, h3, h4, h5, h6, h7, h8, h9, h10, h11, h12⟩ := H; exact (h11 0 (by omega)).2
theorem iSk_8 {o : Nat} (H : am_isS o) : am_kd (o + 6 + 1 + 1) = 20 := by obtain ⟨h0, h1, h2, h3, h4, h5, h6, h7, h8, h9, h10, h11, h12⟩ := H; exact (h11 1 (by omega)).1
theorem iSn_8 {o : Nat} (H : am_isS o) : am_ln (o + 6 + 1 + 1) = 8 := by obtain ⟨h0, h1, h2, h3, h4, h5, h6, h7, h8, h9, h10, h11, h12⟩ := H; exact (h11 1 (by omega)).2
theorem iSk_9 {o : Nat} (H : am_isS o) : am_kd (o + 6 + 1 + 2) = 20 := by obtain ⟨h0, h1, h2, h3, h4, h5, h6, h7, h8, h9, h10, h11, h12⟩ := H; exact (h11 2 (by omega)).1
theorem iSn_9 {o : Nat} (H : am_isS o) : am_ln (o + 6 + 1 + 2) = 8 := by obtain ⟨h0, h1, h2, h3, h4, h5, h6, h7, h8, h9, h10, h11, h12⟩ := H; exact (h11 2 (by omega)).2
theorem iSk_10 {o : Nat} (H : am_isS o) : am_kd (o + 6 + 1 + 3) = 20 := by obtain ⟨h0, h1, h2, h3, h4, h5, h6, h7, h8, h9, h10, h11, h12⟩ := H; exact (h11 3 (by omega)).1
theorem iSn_10 {o : Nat} (H : am_isS o) : am_ln (o + 6 + 1 + 3) = 8 := by obtain ⟨h0, h1, h2, h3, h4, h5, h6, h7, h8, h9, h10, h11, h12⟩ := H; exact (h11 3 (by omega)).2
theorem iSk_11 {o : Nat} (H : am_isS o) : am_kd (o + 6 + 1 + 4) = 20 := by obtain ⟨h0, h1, h2, h3, h4, h5, h6, h7, h8, h9, h10, h11, h12⟩ := H; exact (h11 4 (by omega)).1
theorem iSn_11 {o : Nat} (H : am_isS o) : am_ln (o + 6 + 1 + 4) = 8 := by obtain ⟨h0, h1, h2, h3, h4, h5, h6, h7, h8, h9, h10, h11, h12⟩ := H; exact (h11 4 (by omega)).2
theorem iSk_12 {o : Nat} (H : am_isS o) : am_kd (o + 6 + 1 + 5) = 20 := by obtain ⟨h0, h1, h2, h3, h4, h5, h6, h7, h8, h9, h10, h11, h12⟩ := H; exact (h11 5 (by omega)).1
theorem iSn_12 {o : Nat} (H : am_isS o) : am_ln (o + 6 + 1 + 5) = 8 := by obtain ⟨h0, h1, h2, h3, h4, h5, h6, h7, h8, h9, h10, h11, h12⟩ := H; exact (h11 5 (by omega)).2
theorem iSk_13 {o : Nat} (H : am_isS o) : am_kd (o + 6 + 1 + 6) = 20 := by obtain ⟨h0, h1, h2, h3, h4, h5, h6, h7, h8, h9, h10, h11, h12⟩ := H; exact (h11 6 (by omega)).1
theorem iSn_13 {o : Nat} (H : am_isS o) : am_ln (o + 6 + 1 + 6) = 8 := by obtain ⟨h0, h1, h2, h3, h4, h5, h6, h7, h8, h9, h10, h11, h12⟩ := H; exact (h11 6 (by omega)).2
theorem iSk_14 {o : Nat} (H : am_isS o) : am_kd (o + 6 + 1 + 7) = 20 := by obtain ⟨h0, h1, h2, h3, h4, h5, h6, h7, h8, h9, h10, h11, h12⟩ := H; exact (h11 7 (by omega)).1
theorem iSn_14 {o : Nat} (H : am_isS o) : am_ln (o + 6 + 1 + 7) = 8 := by obtain ⟨h0, h1, h2, h3, h4, h5, h6, h7, h8, h9, h10, h11, h12⟩ := H; exact (h11 7 (by omega)).2
theorem iSk_15 {o : Nat} (H : am_isS o) : am_kd (o + 6 + 1 + 8) = 20 := by obtain ⟨h0, h1, h2, h3, h4, h5, h6, h7, h8, h9, h10, h11, h12⟩ := H; exact (h11 8 (by omega)).1
theorem iSn_15 {o : Nat} (H : am_isS o) : am_ln (o + 6 + 1 + 8) = 8 := by obtain ⟨h0, h1, h2, h3, h4, h5, h6, h7, h8, h9, h10, h11, h12⟩ := H; exact (h11 8 (by omega)).2
theorem iSk_17 {o : Nat} (H : am_isS o) : am_kd (o + 16 + 1 + 0) = 20 := by obtain ⟨h0, h1, h2, h3, h4, h5, h6, h7, h8, h9, h10, h11, h12⟩ := H; exact (h12 0 (by omega)).1
theorem iSn_17 {o : Nat} (H : am_isS o) : am_ln (o + 16 + 1 + 0) = 8 := by obtain ⟨h0, h1, h2, h3, h4, h5, h6, h7, h8, h9, h10, h11, h12⟩ := H; exact (h12 0 (by omega)).2
theorem iSk_18 {o : Nat} (H : am_isS o) : am_kd (o + 16 + 1 + 1) = 20 := by obtain ⟨h0, h1, h2, h3, h4, h5, h6, h7, h8, h9, h10, h11, h12⟩ := H; exact (h12 1 (by omega)).1
theorem iSn_18 {o : Nat} (H : am_isS o) : am_ln (o + 16 + 1 + 1) = 8 := by obtain ⟨h0, h1, h2, h3, h4, h5, h6, h7, h8, h9, h10, h11, h12⟩ := H; exact (h12 1 (by omega)).2
theorem iSk_19 {o : Nat} (H : am_isS o) : am_kd (o + 16 + 1 + 2) = 20 := by obtain ⟨h0, h1, h2, h3, h4, h5, h6, h7, h8, h9, h10, h11, h12⟩ := H; exact (h12 2 (by omega)).1
theorem iSn_19 {o : Nat} (H : am_isS o) : am_ln (o + 16 + 1 + 2) = 8 := by obtain ⟨h0, h1, h2, h3, h4, h5, h6, h7, h8, h9, h10, h11, h12⟩ := H; exact (h12 2 (by omega)).2
theorem iSk_20 {o : Nat} (H : am_isS o) : am_kd (o + 16 + 1 + 3) = 20 := by obtain ⟨h0, h1, h2, h3, h4, h5, h6, h7, h8, h9, h10, h11, h12⟩ := H; exact (h12 3 (by omega)).1
theorem iSn_20 {o : Nat} (H : am_isS o) : am_ln (o + 16 + 1 + 3) = 8 := by obtain ⟨h0, h1, h2, h3, h4, h5, h6, h7, h8, h9, h10, h11, h12⟩ := H; exact (h12 3 (by omega)).2
theorem iSk_21 {o : Nat} (H : am_isS o) : am_kd (o + 16 + 1 + 4) = 20 := by obtain ⟨h0, h1, h2, h3, h4, h5, h6, h7, h8, h9, h10, h11, h12⟩ := H; exact (h12 4 (by omega)).1
theorem iSn_21 {o : Nat} (H : am_isS o) : am_ln (o + 16 + 1 + 4) = 8 := by obtain ⟨h0, h1, h2, h3, h4, h5, h6, h7, h8, h9, h10, h11, h12⟩ := H; exact (h12 4 (by omega)).2
def am_isX (p : Nat) : Prop := am_kk (am_kd p) 35 = true ∧ am_tg p 0 = p + 1 ∧ am_tg p 1 = p + 2 ∧ am_kd (p + 1) = 20 ∧ am_ln (p + 1) = 401 ∧ am_kd (p + 2) = 20 ∧ am_ln (p + 2) = 401
theorem am_isX_356 : am_isX 356 := ⟨rfl, rfl, rfl, rfl, rfl, rfl, rfl⟩
theorem am_isX_359 : am_isX 359 := ⟨rfl, rfl, rfl, rfl, rfl, rfl, rfl⟩
theorem iX_kk {o : Nat} (H : am_isX o) : am_kk (am_kd o) 35 = true := H.1
theorem iXt_0 {o : Nat} (H : am_isX o) : am_tg o 0 = o + 1 := H.2.1
theorem iXt_1 {o : Nat} (H : am_isX o) : am_tg o 1 = o + 2 := H.2.2.1
theorem iXk_1 {o : Nat} (H : am_isX o) : am_kd (o + 1) = 20 := H.2.2.2.1
theorem iXn_1 {o : Nat} (H : am_isX o) : am_ln (o + 1) = 401 := H.2.2.2.2.1
theorem iXk_2 {o : Nat} (H : am_isX o) : am_kd (o + 2) = 20 := H.2.2.2.2.2.1
theorem iXn_2 {o : Nat} (H : am_isX o) : am_ln (o + 2) = 401 := H.2.2.2.2.2.2
theorem w0_0 : am_sf (am_swt 0) 7 (Int32.ofNat 0) = 7 := by decide +kernel
theorem w0_1 : am_sf (am_swt 0) 7 (Int32.ofNat 1) = 7 := by decide +kernel
theorem w0_2 : am_sf (am_swt 0) 7 (Int32.ofNat 2) = 7 := by decide +kernel
theorem w0_3 : am_sf (am_swt 0) 7 (Int32.ofNat 3) = 7 := by decide +kernel
theorem w0_4 : am_sf (am_swt 0) 7 (Int32.ofNat 4) = 7 := by decide +kernel
theorem w0_5 : am_sf (am_swt 0) 7 (Int32.ofNat 5) = 7 := by decide +kernel
theorem w0_6 : am_sf (am_swt 0) 7 (Int32.ofNat 6) = 7 := by decide +kernel
theorem w0_7 : am_sf (am_swt 0) 7 (Int32.ofNat 7) = 7 := by decide +kernel
theorem w0_8 : am_sf (am_swt 0) 7 (Int32.ofNat 8) = 7 := by decide +kernel
theorem w0_9 : am_sf (am_swt 0) 7 (Int32.ofNat 9) = 4 := by decide +kernel
theorem w0_10 : am_sf (am_swt 0) 7 (Int32.ofNat 10) = 5 := by decide +kernel
theorem w0_11 : am_sf (am_swt 0) 7 (Int32.ofNat 11) = 6 := by decide +kernel
theorem w0_12 : am_sf (am_swt 0) 7 (Int32.ofNat 12) = 7 := by decide +kernel
theorem w0_13 : am_sf (am_swt 0) 7 (Int32.ofNat 13) = 7 := by decide +kernel
theorem w0_d {x : Int32} (hx : ∀ e ∈ am_swt 0, x ≠ e.1) : am_sf (am_swt 0) 7 x = 7 := am_sf_d _ _ _ hx
theorem w1_0 : am_sf (am_swt 1) 6 (Int32.ofNat 0) = 4 := by decide +kernel
theorem w1_1 : am_sf (am_swt 1) 6 (Int32.ofNat 1) = 5 := by decide +kernel
theorem w1_2 : am_sf (am_swt 1) 6 (Int32.ofNat 2) = 6 := by decide +kernel
theorem w1_3 : am_sf (am_swt 1) 6 (Int32.ofNat 3) = 6 := by decide +kernel
theorem w1_d {x : Int32} (hx : ∀ e ∈ am_swt 1, x ≠ e.1) : am_sf (am_swt 1) 6 x = 6 := am_sf_d _ _ _ hx
theorem w2_0 : am_sf (am_swt 2) 11 (Int32.ofNat 0) = 1 := by decide +kernel
theorem w2_1 : am_sf (am_swt 2) 11 (Int32.ofNat 1) = 2 := by decide +kernel
theorem w2_2 : am_sf (am_swt 2) 11 (Int32.ofNat 2) = 3 := by decide +kernel
theorem w2_3 : am_sf (am_swt 2) 11 (Int32.ofNat 3) = 4 := by decide +kernel
theorem w2_4 : am_sf (am_swt 2) 11 (Int32.ofNat 4) = 5 := by decide +kernel
theorem w2_5 : am_sf (am_swt 2) 11 (Int32.ofNat 5) = 6 := by decide +kernel
theorem w2_6 : am_sf (am_swt 2) 11 (Int32.ofNat 6) = 7 := by decide +kernel
theorem w2_7 : am_sf (am_swt 2) 11 (Int32.ofNat 7) = 8 := by decide +kernel
theorem w2_8 : am_sf (am_swt 2) 11 (Int32.ofNat 8) = 9 := by decide +kernel
theorem w2_9 : am_sf (am_swt 2) 11 (Int32.ofNat 9) = 10 := by decide +kernel
theorem w2_10 : am_sf (am_swt 2) 11 (Int32.ofNat 10) = 11 := by decide +kernel
theorem w2_11 : am_sf (am_swt 2) 11 (Int32.ofNat 11) = 11 := by decide +kernel
theorem w2_d {x : Int32} (hx : ∀ e ∈ am_swt 2, x ≠ e.1) : am_sf (am_swt 2) 11 x = 11 := am_sf_d _ _ _ hx
theorem w3_0 : am_sf (am_swt 3) 4 (Int32.ofNat 0) = 1 := by decide +kernel
theorem w3_1 : am_sf (am_swt 3) 4 (Int32.ofNat 1) = 2 := by decide +kernel
theorem w3_2 : am_sf (am_swt 3) 4 (Int32.ofNat 2) = 3 := by decide +kernel
theorem w3_3 : am_sf (am_swt 3) 4 (Int32.ofNat 3) = 4 := by decide +kernel
theorem w3_4 : am_sf (am_swt 3) 4 (Int32.ofNat 4) = 4 := by decide +kernel
theorem w3_d {x : Int32} (hx : ∀ e ∈ am_swt 3, x ≠ e.1) : am_sf (am_swt 3) 4 x = 4 := am_sf_d _ _ _ hx
theorem w4_0 : am_sf (am_swt 4) 4 (Int32.ofNat 0) = 1 := by decide +kernel
theorem w4_1 : am_sf (am_swt 4) 4 (Int32.ofNat 1) = 2 := by decide +kernel
theorem w4_2 : am_sf (am_swt 4) 4 (Int32.ofNat 2) = 3 := by decide +kernel
theorem w4_3 : am_sf (am_swt 4) 4 (Int32.ofNat 3) = 4 := by decide +kernel
theorem w4_4 : am_sf (am_swt 4) 4 (Int32.ofNat 4) = 4 := by decide +kernel
theorem w4_d {x : Int32} (hx : ∀ e ∈ am_swt 4, x ≠ e.1) : am_sf (am_swt 4) 4 x = 4 := am_sf_d _ _ _ hx
theorem w5_0 : am_sf (am_swt 5) 21 (Int32.ofNat 0) = 1 := by decide +kernel
theorem w5_1 : am_sf (am_swt 5) 21 (Int32.ofNat 1) = 2 := by decide +kernel
theorem w5_2 : am_sf (am_swt 5) 21 (Int32.ofNat 2) = 3 := by decide +kernel
theorem w5_3 : am_sf (am_swt 5) 21 (Int32.ofNat 3) = 4 := by decide +kernel
theorem w5_4 : am_sf (am_swt 5) 21 (Int32.ofNat 4) = 5 := by decide +kernel
theorem w5_5 : am_sf (am_swt 5) 21 (Int32.ofNat 5) = 6 := by decide +kernel
theorem w5_6 : am_sf (am_swt 5) 21 (Int32.ofNat 6) = 7 := by decide +kernel
theorem w5_7 : am_sf (am_swt 5) 21 (Int32.ofNat 7) = 8 := by decide +kernel
theorem w5_8 : am_sf (am_swt 5) 21 (Int32.ofNat 8) = 9 := by decide +kernel
theorem w5_9 : am_sf (am_swt 5) 21 (Int32.ofNat 9) = 13 := by decide +kernel
theorem w5_10 : am_sf (am_swt 5) 21 (Int32.ofNat 10) = 17 := by decide +kernel
theorem w5_11 : am_sf (am_swt 5) 21 (Int32.ofNat 11) = 21 := by decide +kernel
theorem w5_12 : am_sf (am_swt 5) 21 (Int32.ofNat 12) = 21 := by decide +kernel
theorem w5_d {x : Int32} (hx : ∀ e ∈ am_swt 5, x ≠ e.1) : am_sf (am_swt 5) 21 x = 21 := am_sf_d _ _ _ hx
theorem w6_0 : am_sf (am_swt 6) 10 (Int32.ofNat 0) = 10 := by decide +kernel
theorem w6_1 : am_sf (am_swt 6) 10 (Int32.ofNat 1) = 10 := by decide +kernel
theorem w6_2 : am_sf (am_swt 6) 10 (Int32.ofNat 2) = 10 := by decide +kernel
theorem w6_3 : am_sf (am_swt 6) 10 (Int32.ofNat 3) = 10 := by decide +kernel
theorem w6_4 : am_sf (am_swt 6) 10 (Int32.ofNat 4) = 10 := by decide +kernel
theorem w6_5 : am_sf (am_swt 6) 10 (Int32.ofNat 5) = 10 := by decide +kernel
theorem w6_6 : am_sf (am_swt 6) 10 (Int32.ofNat 6) = 10 := by decide +kernel
theorem w6_7 : am_sf (am_swt 6) 10 (Int32.ofNat 7) = 10 := by decide +kernel
theorem w6_8 : am_sf (am_swt 6) 10 (Int32.ofNat 8) = 10 := by decide +kernel
theorem w6_9 : am_sf (am_swt 6) 10 (Int32.ofNat 9) = 7 := by decide +kernel
theorem w6_10 : am_sf (am_swt 6) 10 (Int32.ofNat 10) = 8 := by decide +kernel
theorem w6_11 : am_sf (am_swt 6) 10 (Int32.ofNat 11) = 9 := by decide +kernel
theorem w6_12 : am_sf (am_swt 6) 10 (Int32.ofNat 12) = 10 := by decide +kernel
theorem w6_13 : am_sf (am_swt 6) 10 (Int32.ofNat 13) = 10 := by decide +kernel
theorem w6_d {x : Int32} (hx : ∀ e ∈ am_swt 6, x ≠ e.1) : am_sf (am_swt 6) 10 x = 10 := am_sf_d _ _ _ hx
theorem w7_0 : am_sf (am_swt 7) 16 (Int32.ofNat 0) = 16 := by decide +kernel
theorem w7_1 : am_sf (am_swt 7) 16 (Int32.ofNat 1) = 16 := by decide +kernel
theorem w7_2 : am_sf (am_swt 7) 16 (Int32.ofNat 2) = 7 := by decide +kernel
theorem w7_3 : am_sf (am_swt 7) 16 (Int32.ofNat 3) = 16 := by decide +kernel
theorem w7_4 : am_sf (am_swt 7) 16 (Int32.ofNat 4) = 16 := by decide +kernel
theorem w7_5 : am_sf (am_swt 7) 16 (Int32.ofNat 5) = 11 := by decide +kernel
theorem w7_6 : am_sf (am_swt 7) 16 (Int32.ofNat 6) = 12 := by decide +kernel
theorem w7_7 : am_sf (am_swt 7) 16 (Int32.ofNat 7) = 13 := by decide +kernel
theorem w7_8 : am_sf (am_swt 7) 16 (Int32.ofNat 8) = 14 := by decide +kernel
theorem w7_9 : am_sf (am_swt 7) 16 (Int32.ofNat 9) = 15 := by decide +kernel
theorem w7_10 : am_sf (am_swt 7) 16 (Int32.ofNat 10) = 16 := by decide +kernel
theorem w7_11 : am_sf (am_swt 7) 16 (Int32.ofNat 11) = 16 := by decide +kernel
theorem w7_d {x : Int32} (hx : ∀ e ∈ am_swt 7, x ≠ e.1) : am_sf (am_swt 7) 16 x = 16 := am_sf_d _ _ _ hx
theorem w8_0 : am_sf (am_swt 8) 3 (Int32.ofNat 0) = 1 := by decide +kernel
theorem w8_1 : am_sf (am_swt 8) 3 (Int32.ofNat 1) = 2 := by decide +kernel
theorem w8_2 : am_sf (am_swt 8) 3 (Int32.ofNat 2) = 3 := by decide +kernel
theorem w8_3 : am_sf (am_swt 8) 3 (Int32.ofNat 3) = 3 := by decide +kernel
theorem w8_d {x : Int32} (hx : ∀ e ∈ am_swt 8, x ≠ e.1) : am_sf (am_swt 8) 3 x = 3 := am_sf_d _ _ _ hx
theorem w9_0 : am_sf (am_swt 9) 11 (Int32.ofNat 0) = 11 := by decide +kernel
theorem w9_1 : am_sf (am_swt 9) 11 (Int32.ofNat 1) = 11 := by decide +kernel
theorem w9_2 : am_sf (am_swt 9) 11 (Int32.ofNat 2) = 11 := by decide +kernel
theorem w9_3 : am_sf (am_swt 9) 11 (Int32.ofNat 3) = 11 := by decide +kernel
theorem w9_4 : am_sf (am_swt 9) 11 (Int32.ofNat 4) = 11 := by decide +kernel
theorem w9_5 : am_sf (am_swt 9) 11 (Int32.ofNat 5) = 11 := by decide +kernel
theorem w9_6 : am_sf (am_swt 9) 11 (Int32.ofNat 6) = 11 := by decide +kernel
theorem w9_7 : am_sf (am_swt 9) 11 (Int32.ofNat 7) = 11 := by decide +kernel
theorem w9_8 : am_sf (am_swt 9) 11 (Int32.ofNat 8) = 11 := by decide +kernel
theorem w9_9 : am_sf (am_swt 9) 11 (Int32.ofNat 9) = 11 := by decide +kernel
theorem w9_10 : am_sf (am_swt 9) 11 (Int32.ofNat 10) = 11 := by decide +kernel
theorem w9_11 : am_sf (am_swt 9) 11 (Int32.ofNat 11) = 11 := by decide +kernel
theorem w9_12 : am_sf (am_swt 9) 11 (Int32.ofNat 12) = 11 := by decide +kernel
theorem w9_13 : am_sf (am_swt 9) 11 (Int32.ofNat 13) = 11 := by decide +kernel
theorem w9_14 : am_sf (am_swt 9) 11 (Int32.ofNat 14) = 11 := by decide +kernel
theorem w9_15 : am_sf (am_swt 9) 11 (Int32.ofNat 15) = 11 := by decide +kernel
theorem w9_16 : am_sf (am_swt 9) 11 (Int32.ofNat 16) = 11 := by decide +kernel
theorem w9_17 : am_sf (am_swt 9) 11 (Int32.ofNat 17) = 11 := by decide +kernel
theorem w9_18 : am_sf (am_swt 9) 11 (Int32.ofNat 18) = 11 := by decide +kernel
theorem w9_19 : am_sf (am_swt 9) 11 (Int32.ofNat 19) = 11 := by decide +kernel
theorem w9_20 : am_sf (am_swt 9) 11 (Int32.ofNat 20) = 11 := by decide +kernel
theorem w9_21 : am_sf (am_swt 9) 11 (Int32.ofNat 21) = 11 := by decide +kernel
theorem w9_22 : am_sf (am_swt 9) 11 (Int32.ofNat 22) = 11 := by decide +kernel
theorem w9_23 : am_sf (am_swt 9) 11 (Int32.ofNat 23) = 11 := by decide +kernel
theorem w9_24 : am_sf (am_swt 9) 11 (Int32.ofNat 24) = 11 := by decide +kernel
theorem w9_25 : am_sf (am_swt 9) 11 (Int32.ofNat 25) = 11 := by decide +kernel
theorem w9_26 : am_sf (am_swt 9) 11 (Int32.ofNat 26) = 11 := by decide +kernel
theorem w9_27 : am_sf (am_swt 9) 11 (Int32.ofNat 27) = 11 := by decide +kernel
theorem w9_28 : am_sf (am_swt 9) 11 (Int32.ofNat 28) = 11 := by decide +kernel
theorem w9_29 : am_sf (am_swt 9) 11 (Int32.ofNat 29) = 11 := by decide +kernel
theorem w9_30 : am_sf (am_swt 9) 11 (Int32.ofNat 30) = 11 := by decide +kernel
theorem w9_31 : am_sf (am_swt 9) 11 (Int32.ofNat 31) = 11 := by decide +kernel
theorem w9_32 : am_sf (am_swt 9) 11 (Int32.ofNat 32) = 11 := by decide +kernel
theorem w9_33 : am_sf (am_swt 9) 11 (Int32.ofNat 33) = 11 := by decide +kernel
theorem w9_34 : am_sf (am_swt 9) 11 (Int32.ofNat 34) = 11 := by decide +kernel
theorem w9_35 : am_sf (am_swt 9) 11 (Int32.ofNat 35) = 11 := by decide +kernel
theorem w9_36 : am_sf (am_swt 9) 11 (Int32.ofNat 36) = 11 := by decide +kernel
theorem w9_37 : am_sf (am_swt 9) 11 (Int32.ofNat 37) = 11 := by decide +kernel
theorem w9_38 : am_sf (am_swt 9) 11 (Int32.ofNat 38) = 11 := by decide +kernel
theorem w9_39 : am_sf (am_swt 9) 11 (Int32.ofNat 39) = 11 := by decide +kernel
theorem w9_40 : am_sf (am_swt 9) 11 (Int32.ofNat 40) = 11 := by decide +kernel
theorem w9_41 : am_sf (am_swt 9) 11 (Int32.ofNat 41) = 11 := by decide +kernel
theorem w9_42 : am_sf (am_swt 9) 11 (Int32.ofNat 42) = 11 := by decide +kernel
theorem w9_43 : am_sf (am_swt 9) 11 (Int32.ofNat 43) = 11 := by decide +kernel
theorem w9_44 : am_sf (am_swt 9) 11 (Int32.ofNat 44) = 11 := by decide +kernel
theorem w9_45 : am_sf (am_swt 9) 11 (Int32.ofNat 45) = 11 := by decide +kernel
theorem w9_46 : am_sf (am_swt 9) 11 (Int32.ofNat 46) = 11 := by decide +kernel
theorem w9_47 : am_sf (am_swt 9) 11 (Int32.ofNat 47) = 11 := by decide +kernel
theorem w9_48 : am_sf (am_swt 9) 11 (Int32.ofNat 48) = 11 := by decide +kernel
theorem w9_49 : am_sf (am_swt 9) 11 (Int32.ofNat 49) = 11 := by decide +kernel
theorem w9_50 : am_sf (am_swt 9) 11 (Int32.ofNat 50) = 11 := by decide +kernel
theorem w9_51 : am_sf (am_swt 9) 11 (Int32.ofNat 51) = 11 := by decide +kernel
theorem w9_52 : am_sf (am_swt 9) 11 (Int32.ofNat 52) = 11 := by decide +kernel
theorem w9_53 : am_sf (am_swt 9) 11 (Int32.ofNat 53) = 11 := by decide +kernel
theorem w9_54 : am_sf (am_swt 9) 11 (Int32.ofNat 54) = 11 := by decide +kernel
theorem w9_55 : am_sf (am_swt 9) 11 (Int32.ofNat 55) = 11 := by decide +kernel
theorem w9_56 : am_sf (am_swt 9) 11 (Int32.ofNat 56) = 11 := by decide +kernel
theorem w9_57 : am_sf (am_swt 9) 11 (Int32.ofNat 57) = 11 := by decide +kernel
theorem w9_58 : am_sf (am_swt 9) 11 (Int32.ofNat 58) = 11 := by decide +kernel
theorem w9_59 : am_sf (am_swt 9) 11 (Int32.ofNat 59) = 11 := by decide +kernel
theorem w9_60 : am_sf (am_swt 9) 11 (Int32.ofNat 60) = 11 := by decide +kernel
theorem w9_61 : am_sf (am_swt 9) 11 (Int32.ofNat 61) = 11 := by decide +kernel
theorem w9_62 : am_sf (am_swt 9) 11 (Int32.ofNat 62) = 11 := by decide +kernel
theorem w9_63 : am_sf (am_swt 9) 11 (Int32.ofNat 63) = 11 := by decide +kernel
theorem w9_64 : am_sf (am_swt 9) 11 (Int32.ofNat 64) = 11 := by decide +kernel
theorem w9_65 : am_sf (am_swt 9) 11 (Int32.ofNat 65) = 11 := by decide +kernel
theorem w9_66 : am_sf (am_swt 9) 11 (Int32.ofNat 66) = 11 := by decide +kernel
theorem w9_67 : am_sf (am_swt 9) 11 (Int32.ofNat 67) = 11 := by decide +kernel
theorem w9_68 : am_sf (am_swt 9) 11 (Int32.ofNat 68) = 11 := by decide +kernel
theorem w9_69 : am_sf (am_swt 9) 11 (Int32.ofNat 69) = 11 := by decide +kernel
theorem w9_70 : am_sf (am_swt 9) 11 (Int32.ofNat 70) = 11 := by decide +kernel
theorem w9_71 : am_sf (am_swt 9) 11 (Int32.ofNat 71) = 11 := by decide +kernel
theorem w9_72 : am_sf (am_swt 9) 11 (Int32.ofNat 72) = 11 := by decide +kernel
theorem w9_73 : am_sf (am_swt 9) 11 (Int32.ofNat 73) = 11 := by decide +kernel
theorem w9_74 : am_sf (am_swt 9) 11 (Int32.ofNat 74) = 11 := by decide +kernel
theorem w9_75 : am_sf (am_swt 9) 11 (Int32.ofNat 75) = 11 := by decide +kernel
theorem w9_76 : am_sf (am_swt 9) 11 (Int32.ofNat 76) = 11 := by decide +kernel
theorem w9_77 : am_sf (am_swt 9) 11 (Int32.ofNat 77) = 11 := by decide +kernel
theorem w9_78 : am_sf (am_swt 9) 11 (Int32.ofNat 78) = 11 := by decide +kernel
theorem w9_79 : am_sf (am_swt 9) 11 (Int32.ofNat 79) = 11 := by decide +kernel
theorem w9_80 : am_sf (am_swt 9) 11 (Int32.ofNat 80) = 11 := by decide +kernel
theorem w9_81 : am_sf (am_swt 9) 11 (Int32.ofNat 81) = 11 := by decide +kernel
theorem w9_82 : am_sf (am_swt 9) 11 (Int32.ofNat 82) = 11 := by decide +kernel
theorem w9_83 : am_sf (am_swt 9) 11 (Int32.ofNat 83) = 11 := by decide +kernel
theorem w9_84 : am_sf (am_swt 9) 11 (Int32.ofNat 84) = 11 := by decide +kernel
theorem w9_85 : am_sf (am_swt 9) 11 (Int32.ofNat 85) = 11 := by decide +kernel
theorem w9_86 : am_sf (am_swt 9) 11 (Int32.ofNat 86) = 11 := by decide +kernel
theorem w9_87 : am_sf (am_swt 9) 11 (Int32.ofNat 87) = 11 := by decide +kernel
theorem w9_88 : am_sf (am_swt 9) 11 (Int32.ofNat 88) = 11 := by decide +kernel
theorem w9_89 : am_sf (am_swt 9) 11 (Int32.ofNat 89) = 11 := by decide +kernel
theorem w9_90 : am_sf (am_swt 9) 11 (Int32.ofNat 90) = 11 := by decide +kernel
theorem w9_91 : am_sf (am_swt 9) 11 (Int32.ofNat 91) = 11 := by decide +kernel
theorem w9_92 : am_sf (am_swt 9) 11 (Int32.ofNat 92) = 11 := by decide +kernel
theorem w9_93 : am_sf (am_swt 9) 11 (Int32.ofNat 93) = 11 := by decide +kernel
theorem w9_94 : am_sf (am_swt 9) 11 (Int32.ofNat 94) = 11 := by decide +kernel
theorem w9_95 : am_sf (am_swt 9) 11 (Int32.ofNat 95) = 11 := by decide +kernel
theorem w9_96 : am_sf (am_swt 9) 11 (Int32.ofNat 96) = 11 := by decide +kernel
theorem w9_97 : am_sf (am_swt 9) 11 (Int32.ofNat 97) = 11 := by decide +kernel
theorem w9_98 : am_sf (am_swt 9) 11 (Int32.ofNat 98) = 11 := by decide +kernel
theorem w9_99 : am_sf (am_swt 9) 11 (Int32.ofNat 99) = 11 := by decide +kernel
theorem w9_100 : am_sf (am_swt 9) 11 (Int32.ofNat 100) = 11 := by decide +kernel
theorem w9_101 : am_sf (am_swt 9) 11 (Int32.ofNat 101) = 11 := by decide +kernel
theorem w9_102 : am_sf (am_swt 9) 11 (Int32.ofNat 102) = 11 := by decide +kernel
theorem w9_103 : am_sf (am_swt 9) 11 (Int32.ofNat 103) = 11 := by decide +kernel
theorem w9_104 : am_sf (am_swt 9) 11 (Int32.ofNat 104) = 11 := by decide +kernel
theorem w9_105 : am_sf (am_swt 9) 11 (Int32.ofNat 105) = 11 := by decide +kernel
theorem w9_106 : am_sf (am_swt 9) 11 (Int32.ofNat 106) = 11 := by decide +kernel
theorem w9_107 : am_sf (am_swt 9) 11 (Int32.ofNat 107) = 11 := by decide +kernel
theorem w9_108 : am_sf (am_swt 9) 11 (Int32.ofNat 108) = 11 := by decide +kernel
theorem w9_109 : am_sf (am_swt 9) 11 (Int32.ofNat 109) = 11 := by decide +kernel
theorem w9_110 : am_sf (am_swt 9) 11 (Int32.ofNat 110) = 11 := by decide +kernel
theorem w9_111 : am_sf (am_swt 9) 11 (Int32.ofNat 111) = 11 := by decide +kernel
theorem w9_112 : am_sf (am_swt 9) 11 (Int32.ofNat 112) = 11 := by decide +kernel
theorem w9_113 : am_sf (am_swt 9) 11 (Int32.ofNat 113) = 11 := by decide +kernel
theorem w9_114 : am_sf (am_swt 9) 11 (Int32.ofNat 114) = 11 := by decide +kernel
theorem w9_115 : am_sf (am_swt 9) 11 (Int32.ofNat 115) = 11 := by decide +kernel
theorem w9_116 : am_sf (am_swt 9) 11 (Int32.ofNat 116) = 11 := by decide +kernel
theorem w9_117 : am_sf (am_swt 9) 11 (Int32.ofNat 117) = 11 := by decide +kernel
theorem w9_118 : am_sf (am_swt 9) 11 (Int32.ofNat 118) = 11 := by decide +kernel
theorem w9_119 : am_sf (am_swt 9) 11 (Int32.ofNat 119) = 11 := by decide +kernel
theorem w9_120 : am_sf (am_swt 9) 11 (Int32.ofNat 120) = 11 := by decide +kernel
theorem w9_121 : am_sf (am_swt 9) 11 (Int32.ofNat 121) = 11 := by decide +kernel
theorem w9_122 : am_sf (am_swt 9) 11 (Int32.ofNat 122) = 11 := by decide +kernel
theorem w9_123 : am_sf (am_swt 9) 11 (Int32.ofNat 123) = 11 := by decide +kernel
theorem w9_124 : am_sf (am_swt 9) 11 (Int32.ofNat 124) = 11 := by decide +kernel
theorem w9_125 : am_sf (am_swt 9) 11 (Int32.ofNat 125) = 11 := by decide +kernel
theorem w9_126 : am_sf (am_swt 9) 11 (Int32.ofNat 126) = 11 := by decide +kernel
theorem w9_127 : am_sf (am_swt 9) 11 (Int32.ofNat 127) = 11 := by decide +kernel
theorem w9_128 : am_sf (am_swt 9) 11 (Int32.ofNat 128) = 11 := by decide +kernel
theorem w9_129 : am_sf (am_swt 9) 11 (Int32.ofNat 129) = 11 := by decide +kernel
theorem w9_130 : am_sf (am_swt 9) 11 (Int32.ofNat 130) = 11 := by decide +kernel
theorem w9_131 : am_sf (am_swt 9) 11 (Int32.ofNat 131) = 11 := by decide +kernel
theorem w9_132 : am_sf (am_swt 9) 11 (Int32.ofNat 132) = 11 := by decide +kernel
theorem w9_133 : am_sf (am_swt 9) 11 (Int32.ofNat 133) = 11 := by decide +kernel
theorem w9_134 : am_sf (am_swt 9) 11 (Int32.ofNat 134) = 11 := by decide +kernel
theorem w9_135 : am_sf (am_swt 9) 11 (Int32.ofNat 135) = 11 := by decide +kernel
theorem w9_136 : am_sf (am_swt 9) 11 (Int32.ofNat 136) = 11 := by decide +kernel
theorem w9_137 : am_sf (am_swt 9) 11 (Int32.ofNat 137) = 11 := by decide +kernel
theorem w9_138 : am_sf (am_swt 9) 11 (Int32.ofNat 138) = 11 := by decide +kernel
theorem w9_139 : am_sf (am_swt 9) 11 (Int32.ofNat 139) = 11 := by decide +kernel
theorem w9_140 : am_sf (am_swt 9) 11 (Int32.ofNat 140) = 11 := by decide +kernel
theorem w9_141 : am_sf (am_swt 9) 11 (Int32.ofNat 141) = 11 := by decide +kernel
theorem w9_142 : am_sf (am_swt 9) 11 (Int32.ofNat 142) = 11 := by decide +kernel
theorem w9_143 : am_sf (am_swt 9) 11 (Int32.ofNat 143) = 11 := by decide +kernel
theorem w9_144 : am_sf (am_swt 9) 11 (Int32.ofNat 144) = 11 := by decide +kernel
theorem w9_145 : am_sf (am_swt 9) 11 (Int32.ofNat 145) = 11 := by decide +kernel
theorem w9_146 : am_sf (am_swt 9) 11 (Int32.ofNat 146) = 11 := by decide +kernel
theorem w9_147 : am_sf (am_swt 9) 11 (Int32.ofNat 147) = 11 := by decide +kernel
theorem w9_148 : am_sf (am_swt 9) 11 (Int32.ofNat 148) = 11 := by decide +kernel
theorem w9_149 : am_sf (am_swt 9) 11 (Int32.ofNat 149) = 11 := by decide +kernel
theorem w9_150 : am_sf (am_swt 9) 11 (Int32.ofNat 150) = 11 := by decide +kernel
theorem w9_151 : am_sf (am_swt 9) 11 (Int32.ofNat 151) = 11 := by decide +kernel
theorem w9_152 : am_sf (am_swt 9) 11 (Int32.ofNat 152) = 11 := by decide +kernel
theorem w9_153 : am_sf (am_swt 9) 11 (Int32.ofNat 153) = 11 := by decide +kernel
theorem w9_154 : am_sf (am_swt 9) 11 (Int32.ofNat 154) = 11 := by decide +kernel
theorem w9_155 : am_sf (am_swt 9) 11 (Int32.ofNat 155) = 11 := by decide +kernel
theorem w9_156 : am_sf (am_swt 9) 11 (Int32.ofNat 156) = 11 := by decide +kernel
theorem w9_157 : am_sf (am_swt 9) 11 (Int32.ofNat 157) = 11 := by decide +kernel
theorem w9_158 : am_sf (am_swt 9) 11 (Int32.ofNat 158) = 11 := by decide +kernel
theorem w9_159 : am_sf (am_swt 9) 11 (Int32.ofNat 159) = 11 := by decide +kernel
theorem w9_160 : am_sf (am_swt 9) 11 (Int32.ofNat 160) = 11 := by decide +kernel
theorem w9_161 : am_sf (am_swt 9) 11 (Int32.ofNat 161) = 11 := by decide +kernel
theorem w9_162 : am_sf (am_swt 9) 11 (Int32.ofNat 162) = 11 := by decide +kernel
theorem w9_163 : am_sf (am_swt 9) 11 (Int32.ofNat 163) = 11 := by decide +kernel
theorem w9_164 : am_sf (am_swt 9) 11 (Int32.ofNat 164) = 11 := by decide +kernel
theorem w9_165 : am_sf (am_swt 9) 11 (Int32.ofNat 165) = 11 := by decide +kernel
theorem w9_166 : am_sf (am_swt 9) 11 (Int32.ofNat 166) = 11 := by decide +kernel
theorem w9_167 : am_sf (am_swt 9) 11 (Int32.ofNat 167) = 11 := by decide +kernel
theorem w9_168 : am_sf (am_swt 9) 11 (Int32.ofNat 168) = 11 := by decide +kernel
theorem w9_169 : am_sf (am_swt 9) 11 (Int32.ofNat 169) = 11 := by decide +kernel
theorem w9_170 : am_sf (am_swt 9) 11 (Int32.ofNat 170) = 11 := by decide +kernel
theorem w9_171 : am_sf (am_swt 9) 11 (Int32.ofNat 171) = 11 := by decide +kernel
theorem w9_172 : am_sf (am_swt 9) 11 (Int32.ofNat 172) = 11 := by decide +kernel
theorem w9_173 : am_sf (am_swt 9) 11 (Int32.ofNat 173) = 11 := by decide +kernel
theorem w9_174 : am_sf (am_swt 9) 11 (Int32.ofNat 174) = 11 := by decide +kernel
theorem w9_175 : am_sf (am_swt 9) 11 (Int32.ofNat 175) = 11 := by decide +kernel
theorem w9_176 : am_sf (am_swt 9) 11 (Int32.ofNat 176) = 11 := by decide +kernel
theorem w9_177 : am_sf (am_swt 9) 11 (Int32.ofNat 177) = 11 := by decide +kernel
theorem w9_178 : am_sf (am_swt 9) 11 (Int32.ofNat 178) = 11 := by decide +kernel
theorem w9_179 : am_sf (am_swt 9) 11 (Int32.ofNat 179) = 11 := by decide +kernel
theorem w9_180 : am_sf (am_swt 9) 11 (Int32.ofNat 180) = 11 := by decide +kernel
theorem w9_181 : am_sf (am_swt 9) 11 (Int32.ofNat 181) = 11 := by decide +kernel
theorem w9_182 : am_sf (am_swt 9) 11 (Int32.ofNat 182) = 11 := by decide +kernel
theorem w9_183 : am_sf (am_swt 9) 11 (Int32.ofNat 183) = 11 := by decide +kernel
theorem w9_184 : am_sf (am_swt 9) 11 (Int32.ofNat 184) = 11 := by decide +kernel
theorem w9_185 : am_sf (am_swt 9) 11 (Int32.ofNat 185) = 11 := by decide +kernel
theorem w9_186 : am_sf (am_swt 9) 11 (Int32.ofNat 186) = 11 := by decide +kernel
theorem w9_187 : am_sf (am_swt 9) 11 (Int32.ofNat 187) = 11 := by decide +kernel
theorem w9_188 : am_sf (am_swt 9) 11 (Int32.ofNat 188) = 11 := by decide +kernel
theorem w9_189 : am_sf (am_swt 9) 11 (Int32.ofNat 189) = 11 := by decide +kernel
theorem w9_190 : am_sf (am_swt 9) 11 (Int32.ofNat 190) = 11 := by decide +kernel
theorem w9_191 : am_sf (am_swt 9) 11 (Int32.ofNat 191) = 11 := by decide +kernel
theorem w9_192 : am_sf (am_swt 9) 11 (Int32.ofNat 192) = 11 := by decide +kernel
theorem w9_193 : am_sf (am_swt 9) 11 (Int32.ofNat 193) = 11 := by decide +kernel
theorem w9_194 : am_sf (am_swt 9) 11 (Int32.ofNat 194) = 11 := by decide +kernel
theorem w9_195 : am_sf (am_swt 9) 11 (Int32.ofNat 195) = 11 := by decide +kernel
theorem w9_196 : am_sf (am_swt 9) 11 (Int32.ofNat 196) = 11 := by decide +kernel
theorem w9_197 : am_sf (am_swt 9) 11 (Int32.ofNat 197) = 11 := by decide +kernel
theorem w9_198 : am_sf (am_swt 9) 11 (Int32.ofNat 198) = 11 := by decide +kernel
theorem w9_199 : am_sf (am_swt 9) 11 (Int32.ofNat 199) = 11 := by decide +kernel
theorem w9_200 : am_sf (am_swt 9) 11 (Int32.ofNat 200) = 11 := by decide +kernel
theorem w9_201 : am_sf (am_swt 9) 11 (Int32.ofNat 201) = 11 := by decide +kernel
theorem w9_202 : am_sf (am_swt 9) 11 (Int32.ofNat 202) = 11 := by decide +kernel
theorem w9_203 : am_sf (am_swt 9) 11 (Int32.ofNat 203) = 11 := by decide +kernel
theorem w9_204 : am_sf (am_swt 9) 11 (Int32.ofNat 204) = 11 := by decide +kernel
theorem w9_205 : am_sf (am_swt 9) 11 (Int32.ofNat 205) = 11 := by decide +kernel
theorem w9_206 : am_sf (am_swt 9) 11 (Int32.ofNat 206) = 11 := by decide +kernel
theorem w9_207 : am_sf (am_swt 9) 11 (Int32.ofNat 207) = 11 := by decide +kernel
theorem w9_208 : am_sf (am_swt 9) 11 (Int32.ofNat 208) = 11 := by decide +kernel
theorem w9_209 : am_sf (am_swt 9) 11 (Int32.ofNat 209) = 11 := by decide +kernel
theorem w9_210 : am_sf (am_swt 9) 11 (Int32.ofNat 210) = 11 := by decide +kernel
theorem w9_211 : am_sf (am_swt 9) 11 (Int32.ofNat 211) = 11 := by decide +kernel
theorem w9_212 : am_sf (am_swt 9) 11 (Int32.ofNat 212) = 11 := by decide +kernel
theorem w9_213 : am_sf (am_swt 9) 11 (Int32.ofNat 213) = 11 := by decide +kernel
theorem w9_214 : am_sf (am_swt 9) 11 (Int32.ofNat 214) = 11 := by decide +kernel
theorem w9_215 : am_sf (am_swt 9) 11 (Int32.ofNat 215) = 11 := by decide +kernel
theorem w9_216 : am_sf (am_swt 9) 11 (Int32.ofNat 216) = 11 := by decide +kernel
theorem w9_217 : am_sf (am_swt 9) 11 (Int32.ofNat 217) = 11 := by decide +kernel
theorem w9_218 : am_sf (am_swt 9) 11 (Int32.ofNat 218) = 11 := by decide +kernel
theorem w9_219 : am_sf (am_swt 9) 11 (Int32.ofNat 219) = 11 := by decide +kernel
theorem w9_220 : am_sf (am_swt 9) 11 (Int32.ofNat 220) = 11 := by decide +kernel
theorem w9_221 : am_sf (am_swt 9) 11 (Int32.ofNat 221) = 11 := by decide +kernel
theorem w9_222 : am_sf (am_swt 9) 11 (Int32.ofNat 222) = 11 := by decide +kernel
theorem w9_223 : am_sf (am_swt 9) 11 (Int32.ofNat 223) = 11 := by decide +kernel
theorem w9_224 : am_sf (am_swt 9) 11 (Int32.ofNat 224) = 11 := by decide +kernel
theorem w9_225 : am_sf (am_swt 9) 11 (Int32.ofNat 225) = 11 := by decide +kernel
theorem w9_226 : am_sf (am_swt 9) 11 (Int32.ofNat 226) = 11 := by decide +kernel
theorem w9_227 : am_sf (am_swt 9) 11 (Int32.ofNat 227) = 11 := by decide +kernel
theorem w9_228 : am_sf (am_swt 9) 11 (Int32.ofNat 228) = 11 := by decide +kernel
theorem w9_229 : am_sf (am_swt 9) 11 (Int32.ofNat 229) = 11 := by decide +kernel
theorem w9_230 : am_sf (am_swt 9) 11 (Int32.ofNat 230) = 11 := by decide +kernel
theorem w9_231 : am_sf (am_swt 9) 11 (Int32.ofNat 231) = 11 := by decide +kernel
theorem w9_232 : am_sf (am_swt 9) 11 (Int32.ofNat 232) = 11 := by decide +kernel
theorem w9_233 : am_sf (am_swt 9) 11 (Int32.ofNat 233) = 11 := by decide +kernel
theorem w9_234 : am_sf (am_swt 9) 11 (Int32.ofNat 234) = 11 := by decide +kernel
theorem w9_235 : am_sf (am_swt 9) 11 (Int32.ofNat 235) = 11 := by decide +kernel
theorem w9_236 : am_sf (am_swt 9) 11 (Int32.ofNat 236) = 11 := by decide +kernel
theorem w9_237 : am_sf (am_swt 9) 11 (Int32.ofNat 237) = 11 := by decide +kernel
theorem w9_238 : am_sf (am_swt 9) 11 (Int32.ofNat 238) = 11 := by decide +kernel
theorem w9_239 : am_sf (am_swt 9) 11 (Int32.ofNat 239) = 11 := by decide +kernel
theorem w9_240 : am_sf (am_swt 9) 11 (Int32.ofNat 240) = 11 := by decide +kernel
theorem w9_241 : am_sf (am_swt 9) 11 (Int32.ofNat 241) = 11 := by decide +kernel
theorem w9_242 : am_sf (am_swt 9) 11 (Int32.ofNat 242) = 11 := by decide +kernel
theorem w9_243 : am_sf (am_swt 9) 11 (Int32.ofNat 243) = 11 := by decide +kernel
theorem w9_244 : am_sf (am_swt 9) 11 (Int32.ofNat 244) = 11 := by decide +kernel
theorem w9_245 : am_sf (am_swt 9) 11 (Int32.ofNat 245) = 11 := by decide +kernel
theorem w9_246 : am_sf (am_swt 9) 11 (Int32.ofNat 246) = 11 := by decide +kernel
theorem w9_247 : am_sf (am_swt 9) 11 (Int32.ofNat 247) = 11 := by decide +kernel
theorem w9_248 : am_sf (am_swt 9) 11 (Int32.ofNat 248) = 11 := by decide +kernel
theorem w9_249 : am_sf (am_swt 9) 11 (Int32.ofNat 249) = 11 := by decide +kernel
theorem w9_250 : am_sf (am_swt 9) 11 (Int32.ofNat 250) = 11 := by decide +kernel
theorem w9_251 : am_sf (am_swt 9) 11 (Int32.ofNat 251) = 11 := by decide +kernel
theorem w9_252 : am_sf (am_swt 9) 11 (Int32.ofNat 252) = 11 := by decide +kernel
theorem w9_253 : am_sf (am_swt 9) 11 (Int32.ofNat 253) = 11 := by decide +kernel
theorem w9_254 : am_sf (am_swt 9) 11 (Int32.ofNat 254) = 11 := by decide +kernel
theorem w9_255 : am_sf (am_swt 9) 11 (Int32.ofNat 255) = 11 := by decide +kernel
theorem w9_256 : am_sf (am_swt 9) 11 (Int32.ofNat 256) = 11 := by decide +kernel
theorem w9_257 : am_sf (am_swt 9) 11 (Int32.ofNat 257) = 11 := by decide +kernel
theorem w9_258 : am_sf (am_swt 9) 11 (Int32.ofNat 258) = 11 := by decide +kernel
theorem w9_259 : am_sf (am_swt 9) 11 (Int32.ofNat 259) = 11 := by decide +kernel
theorem w9_260 : am_sf (am_swt 9) 11 (Int32.ofNat 260) = 11 := by decide +kernel
theorem w9_261 : am_sf (am_swt 9) 11 (Int32.ofNat 261) = 11 := by decide +kernel
theorem w9_262 : am_sf (am_swt 9) 11 (Int32.ofNat 262) = 11 := by decide +kernel
theorem w9_263 : am_sf (am_swt 9) 11 (Int32.ofNat 263) = 11 := by decide +kernel
theorem w9_264 : am_sf (am_swt 9) 11 (Int32.ofNat 264) = 11 := by decide +kernel
theorem w9_265 : am_sf (am_swt 9) 11 (Int32.ofNat 265) = 11 := by decide +kernel
theorem w9_266 : am_sf (am_swt 9) 11 (Int32.ofNat 266) = 11 := by decide +kernel
theorem w9_267 : am_sf (am_swt 9) 11 (Int32.ofNat 267) = 11 := by decide +kernel
theorem w9_268 : am_sf (am_swt 9) 11 (Int32.ofNat 268) = 11 := by decide +kernel
theorem w9_269 : am_sf (am_swt 9) 11 (Int32.ofNat 269) = 11 := by decide +kernel
theorem w9_270 : am_sf (am_swt 9) 11 (Int32.ofNat 270) = 11 := by decide +kernel
theorem w9_271 : am_sf (am_swt 9) 11 (Int32.ofNat 271) = 11 := by decide +kernel
theorem w9_272 : am_sf (am_swt 9) 11 (Int32.ofNat 272) = 11 := by decide +kernel
theorem w9_273 : am_sf (am_swt 9) 11 (Int32.ofNat 273) = 11 := by decide +kernel
theorem w9_274 : am_sf (am_swt 9) 11 (Int32.ofNat 274) = 11 := by decide +kernel
theorem w9_275 : am_sf (am_swt 9) 11 (Int32.ofNat 275) = 11 := by decide +kernel
theorem w9_276 : am_sf (am_swt 9) 11 (Int32.ofNat 276) = 11 := by decide +kernel
theorem w9_277 : am_sf (am_swt 9) 11 (Int32.ofNat 277) = 11 := by decide +kernel
theorem w9_278 : am_sf (am_swt 9) 11 (Int32.ofNat 278) = 11 := by decide +kernel
theorem w9_279 : am_sf (am_swt 9) 11 (Int32.ofNat 279) = 11 := by decide +kernel
theorem w9_280 : am_sf (am_swt 9) 11 (Int32.ofNat 280) = 11 := by decide +kernel
theorem w9_281 : am_sf (am_swt 9) 11 (Int32.ofNat 281) = 11 := by decide +kernel
theorem w9_282 : am_sf (am_swt 9) 11 (Int32.ofNat 282) = 11 := by decide +kernel
theorem w9_283 : am_sf (am_swt 9) 11 (Int32.ofNat 283) = 11 := by decide +kernel
theorem w9_284 : am_sf (am_swt 9) 11 (Int32.ofNat 284) = 11 := by decide +kernel
theorem w9_285 : am_sf (am_swt 9) 11 (Int32.ofNat 285) = 11 := by decide +kernel
theorem w9_286 : am_sf (am_swt 9) 11 (Int32.ofNat 286) = 11 := by decide +kernel
theorem w9_287 : am_sf (am_swt 9) 11 (Int32.ofNat 287) = 11 := by decide +kernel
theorem w9_288 : am_sf (am_swt 9) 11 (Int32.ofNat 288) = 11 := by decide +kernel
theorem w9_289 : am_sf (am_swt 9) 11 (Int32.ofNat 289) = 11 := by decide +kernel
theorem w9_290 : am_sf (am_swt 9) 11 (Int32.ofNat 290) = 11 := by decide +kernel
theorem w9_291 : am_sf (am_swt 9) 11 (Int32.ofNat 291) = 11 := by decide +kernel
theorem w9_292 : am_sf (am_swt 9) 11 (Int32.ofNat 292) = 11 := by decide +kernel
theorem w9_293 : am_sf (am_swt 9) 11 (Int32.ofNat 293) = 11 := by decide +kernel
theorem w9_294 : am_sf (am_swt 9) 11 (Int32.ofNat 294) = 11 := by decide +kernel
theorem w9_295 : am_sf (am_swt 9) 11 (Int32.ofNat 295) = 11 := by decide +kernel
theorem w9_296 : am_sf (am_swt 9) 11 (Int32.ofNat 296) = 11 := by decide +kernel
theorem w9_297 : am_sf (am_swt 9) 11 (Int32.ofNat 297) = 11 := by decide +kernel
theorem w9_298 : am_sf (am_swt 9) 11 (Int32.ofNat 298) = 11 := by decide +kernel
theorem w9_299 : am_sf (am_swt 9) 11 (Int32.ofNat 299) = 11 := by decide +kernel
theorem w9_300 : am_sf (am_swt 9) 11 (Int32.ofNat 300) = 11 := by decide +kernel
theorem w9_301 : am_sf (am_swt 9) 11 (Int32.ofNat 301) = 11 := by decide +kernel
theorem w9_302 : am_sf (am_swt 9) 11 (Int32.ofNat 302) = 11 := by decide +kernel
theorem w9_303 : am_sf (am_swt 9) 11 (Int32.ofNat 303) = 11 := by decide +kernel
theorem w9_304 : am_sf (am_swt 9) 11 (Int32.ofNat 304) = 11 := by decide +kernel
theorem w9_305 : am_sf (am_swt 9) 11 (Int32.ofNat 305) = 11 := by decide +kernel
theorem w9_306 : am_sf (am_swt 9) 11 (Int32.ofNat 306) = 11 := by decide +kernel
theorem w9_307 : am_sf (am_swt 9) 11 (Int32.ofNat 307) = 11 := by decide +kernel
theorem w9_308 : am_sf (am_swt 9) 11 (Int32.ofNat 308) = 11 := by decide +kernel
theorem w9_309 : am_sf (am_swt 9) 11 (Int32.ofNat 309) = 11 := by decide +kernel
theorem w9_310 : am_sf (am_swt 9) 11 (Int32.ofNat 310) = 11 := by decide +kernel
theorem w9_311 : am_sf (am_swt 9) 11 (Int32.ofNat 311) = 11 := by decide +kernel
theorem w9_312 : am_sf (am_swt 9) 11 (Int32.ofNat 312) = 11 := by decide +kernel
theorem w9_313 : am_sf (am_swt 9) 11 (Int32.ofNat 313) = 11 := by decide +kernel
theorem w9_314 : am_sf (am_swt 9) 11 (Int32.ofNat 314) = 11 := by decide +kernel
theorem w9_315 : am_sf (am_swt 9) 11 (Int32.ofNat 315) = 11 := by decide +kernel
theorem w9_316 : am_sf (am_swt 9) 11 (Int32.ofNat 316) = 11 := by decide +kernel
theorem w9_317 : am_sf (am_swt 9) 11 (Int32.ofNat 317) = 11 := by decide +kernel
theorem w9_318 : am_sf (am_swt 9) 11 (Int32.ofNat 318) = 11 := by decide +kernel
theorem w9_319 : am_sf (am_swt 9) 11 (Int32.ofNat 319) = 11 := by decide +kernel
theorem w9_320 : am_sf (am_swt 9) 11 (Int32.ofNat 320) = 11 := by decide +kernel
theorem w9_321 : am_sf (am_swt 9) 11 (Int32.ofNat 321) = 11 := by decide +kernel
theorem w9_322 : am_sf (am_swt 9) 11 (Int32.ofNat 322) = 11 := by decide +kernel
theorem w9_323 : am_sf (am_swt 9) 11 (Int32.ofNat 323) = 11 := by decide +kernel
theorem w9_324 : am_sf (am_swt 9) 11 (Int32.ofNat 324) = 11 := by decide +kernel
theorem w9_325 : am_sf (am_swt 9) 11 (Int32.ofNat 325) = 11 := by decide +kernel
theorem w9_326 : am_sf (am_swt 9) 11 (Int32.ofNat 326) = 11 := by decide +kernel
theorem w9_327 : am_sf (am_swt 9) 11 (Int32.ofNat 327) = 11 := by decide +kernel
theorem w9_328 : am_sf (am_swt 9) 11 (Int32.ofNat 328) = 11 := by decide +kernel
theorem w9_329 : am_sf (am_swt 9) 11 (Int32.ofNat 329) = 11 := by decide +kernel
theorem w9_330 : am_sf (am_swt 9) 11 (Int32.ofNat 330) = 11 := by decide +kernel
theorem w9_331 : am_sf (am_swt 9) 11 (Int32.ofNat 331) = 11 := by decide +kernel
theorem w9_332 : am_sf (am_swt 9) 11 (Int32.ofNat 332) = 11 := by decide +kernel
theorem w9_333 : am_sf (am_swt 9) 11 (Int32.ofNat 333) = 11 := by decide +kernel
theorem w9_334 : am_sf (am_swt 9) 11 (Int32.ofNat 334) = 11 := by decide +kernel
theorem w9_335 : am_sf (am_swt 9) 11 (Int32.ofNat 335) = 11 := by decide +kernel
theorem w9_336 : am_sf (am_swt 9) 11 (Int32.ofNat 336) = 11 := by decide +kernel
theorem w9_337 : am_sf (am_swt 9) 11 (Int32.ofNat 337) = 11 := by decide +kernel
theorem w9_338 : am_sf (am_swt 9) 11 (Int32.ofNat 338) = 11 := by decide +kernel
theorem w9_339 : am_sf (am_swt 9) 11 (Int32.ofNat 339) = 11 := by decide +kernel
theorem w9_340 : am_sf (am_swt 9) 11 (Int32.ofNat 340) = 11 := by decide +kernel
theorem w9_341 : am_sf (am_swt 9) 11 (Int32.ofNat 341) = 11 := by decide +kernel
theorem w9_342 : am_sf (am_swt 9) 11 (Int32.ofNat 342) = 11 := by decide +kernel
theorem w9_343 : am_sf (am_swt 9) 11 (Int32.ofNat 343) = 11 := by decide +kernel
theorem w9_344 : am_sf (am_swt 9) 11 (Int32.ofNat 344) = 11 := by decide +kernel
theorem w9_345 : am_sf (am_swt 9) 11 (Int32.ofNat 345) = 11 := by decide +kernel
theorem w9_346 : am_sf (am_swt 9) 11 (Int32.ofNat 346) = 11 := by decide +kernel
theorem w9_347 : am_sf (am_swt 9) 11 (Int32.ofNat 347) = 11 := by decide +kernel
theorem w9_348 : am_sf (am_swt 9) 11 (Int32.ofNat 348) = 11 := by decide +kernel
theorem w9_349 : am_sf (am_swt 9) 11 (Int32.ofNat 349) = 11 := by decide +kernel
theorem w9_350 : am_sf (am_swt 9) 11 (Int32.ofNat 350) = 11 := by decide +kernel
theorem w9_351 : am_sf (am_swt 9) 11 (Int32.ofNat 351) = 11 := by decide +kernel
theorem w9_352 : am_sf (am_swt 9) 11 (Int32.ofNat 352) = 11 := by decide +kernel
theorem w9_353 : am_sf (am_swt 9) 11 (Int32.ofNat 353) = 11 := by decide +kernel
theorem w9_354 : am_sf (am_swt 9) 11 (Int32.ofNat 354) = 11 := by decide +kernel
theorem w9_355 : am_sf (am_swt 9) 11 (Int32.ofNat 355) = 11 := by decide +kernel
theorem w9_356 : am_sf (am_swt 9) 11 (Int32.ofNat 356) = 11 := by decide +kernel
theorem w9_357 : am_sf (am_swt 9) 11 (Int32.ofNat 357) = 11 := by decide +kernel
theorem w9_358 : am_sf (am_swt 9) 11 (Int32.ofNat 358) = 11 := by decide +kernel
theorem w9_359 : am_sf (am_swt 9) 11 (Int32.ofNat 359) = 11 := by decide +kernel
theorem w9_360 : am_sf (am_swt 9) 11 (Int32.ofNat 360) = 11 := by decide +kernel
theorem w9_361 : am_sf (am_swt 9) 11 (Int32.ofNat 361) = 11 := by decide +kernel
theorem w9_362 : am_sf (am_swt 9) 11 (Int32.ofNat 362) = 11 := by decide +kernel
theorem w9_363 : am_sf (am_swt 9) 11 (Int32.ofNat 363) = 11 := by decide +kernel
theorem w9_364 : am_sf (am_swt 9) 11 (Int32.ofNat 364) = 11 := by decide +kernel
theorem w9_365 : am_sf (am_swt 9) 11 (Int32.ofNat 365) = 11 := by decide +kernel
theorem w9_366 : am_sf (am_swt 9) 11 (Int32.ofNat 366) = 11 := by decide +kernel
theorem w9_367 : am_sf (am_swt 9) 11 (Int32.ofNat 367) = 11 := by decide +kernel
theorem w9_368 : am_sf (am_swt 9) 11 (Int32.ofNat 368) = 11 := by decide +kernel
theorem w9_369 : am_sf (am_swt 9) 11 (Int32.ofNat 369) = 11 := by decide +kernel
theorem w9_370 : am_sf (am_swt 9) 11 (Int32.ofNat 370) = 11 := by decide +kernel
theorem w9_371 : am_sf (am_swt 9) 11 (Int32.ofNat 371) = 11 := by decide +kernel
theorem w9_372 : am_sf (am_swt 9) 11 (Int32.ofNat 372) = 11 := by decide +kernel
theorem w9_373 : am_sf (am_swt 9) 11 (Int32.ofNat 373) = 11 := by decide +kernel
theorem w9_374 : am_sf (am_swt 9) 11 (Int32.ofNat 374) = 11 := by decide +kernel
theorem w9_375 : am_sf (am_swt 9) 11 (Int32.ofNat 375) = 11 := by decide +kernel
theorem w9_376 : am_sf (am_swt 9) 11 (Int32.ofNat 376) = 11 := by decide +kernel
theorem w9_377 : am_sf (am_swt 9) 11 (Int32.ofNat 377) = 11 := by decide +kernel
theorem w9_378 : am_sf (am_swt 9) 11 (Int32.ofNat 378) = 11 := by decide +kernel
theorem w9_379 : am_sf (am_swt 9) 11 (Int32.ofNat 379) = 11 := by decide +kernel
theorem w9_380 : am_sf (am_swt 9) 11 (Int32.ofNat 380) = 11 := by decide +kernel
theorem w9_381 : am_sf (am_swt 9) 11 (Int32.ofNat 381) = 11 := by decide +kernel
theorem w9_382 : am_sf (am_swt 9) 11 (Int32.ofNat 382) = 11 := by decide +kernel
theorem w9_383 : am_sf (am_swt 9) 11 (Int32.ofNat 383) = 11 := by decide +kernel
theorem w9_384 : am_sf (am_swt 9) 11 (Int32.ofNat 384) = 11 := by decide +kernel
theorem w9_385 : am_sf (am_swt 9) 11 (Int32.ofNat 385) = 11 := by decide +kernel
theorem w9_386 : am_sf (am_swt 9) 11 (Int32.ofNat 386) = 11 := by decide +kernel
theorem w9_387 : am_sf (am_swt 9) 11 (Int32.ofNat 387) = 11 := by decide +kernel
theorem w9_388 : am_sf (am_swt 9) 11 (Int32.ofNat 388) = 11 := by decide +kernel
theorem w9_389 : am_sf (am_swt 9) 11 (Int32.ofNat 389) = 11 := by decide +kernel
theorem w9_390 : am_sf (am_swt 9) 11 (Int32.ofNat 390) = 11 := by decide +kernel
theorem w9_391 : am_sf (am_swt 9) 11 (Int32.ofNat 391) = 11 := by decide +kernel
theorem w9_392 : am_sf (am_swt 9) 11 (Int32.ofNat 392) = 11 := by decide +kernel
theorem w9_393 : am_sf (am_swt 9) 11 (Int32.ofNat 393) = 11 := by decide +kernel
theorem w9_394 : am_sf (am_swt 9) 11 (Int32.ofNat 394) = 11 := by decide +kernel
theorem w9_395 : am_sf (am_swt 9) 11 (Int32.ofNat 395) = 11 := by decide +kernel
theorem w9_396 : am_sf (am_swt 9) 11 (Int32.ofNat 396) = 11 := by decide +kernel
theorem w9_397 : am_sf (am_swt 9) 11 (Int32.ofNat 397) = 11 := by decide +kernel
theorem w9_398 : am_sf (am_swt 9) 11 (Int32.ofNat 398) = 11 := by decide +kernel
theorem w9_399 : am_sf (am_swt 9) 11 (Int32.ofNat 399) = 11 := by decide +kernel
theorem w9_400 : am_sf (am_swt 9) 11 (Int32.ofNat 400) = 11 := by decide +kernel
theorem w9_401 : am_sf (am_swt 9) 11 (Int32.ofNat 401) = 11 := by decide +kernel
theorem w9_402 : am_sf (am_swt 9) 11 (Int32.ofNat 402) = 11 := by decide +kernel
theorem w9_403 : am_sf (am_swt 9) 11 (Int32.ofNat 403) = 11 := by decide +kernel
theorem w9_404 : am_sf (am_swt 9) 11 (Int32.ofNat 404) = 11 := by decide +kernel
theorem w9_405 : am_sf (am_swt 9) 11 (Int32.ofNat 405) = 11 := by decide +kernel
theorem w9_406 : am_sf (am_swt 9) 11 (Int32.ofNat 406) = 11 := by decide +kernel
theorem w9_407 : am_sf (am_swt 9) 11 (Int32.ofNat 407) = 11 := by decide +kernel
theorem w9_408 : am_sf (am_swt 9) 11 (Int32.ofNat 408) = 11 := by decide +kernel
theorem w9_409 : am_sf (am_swt 9) 11 (Int32.ofNat 409) = 11 := by decide +kernel
theorem w9_410 : am_sf (am_swt 9) 11 (Int32.ofNat 410) = 11 := by decide +kernel
theorem w9_411 : am_sf (am_swt 9) 11 (Int32.ofNat 411) = 11 := by decide +kernel
theorem w9_412 : am_sf (am_swt 9) 11 (Int32.ofNat 412) = 11 := by decide +kernel
theorem w9_413 : am_sf (am_swt 9) 11 (Int32.ofNat 413) = 11 := by decide +kernel
theorem w9_414 : am_sf (am_swt 9) 11 (Int32.ofNat 414) = 11 := by decide +kernel
theorem w9_415 : am_sf (am_swt 9) 11 (Int32.ofNat 415) = 11 := by decide +kernel
theorem w9_416 : am_sf (am_swt 9) 11 (Int32.ofNat 416) = 11 := by decide +kernel
theorem w9_417 : am_sf (am_swt 9) 11 (Int32.ofNat 417) = 11 := by decide +kernel
theorem w9_418 : am_sf (am_swt 9) 11 (Int32.ofNat 418) = 11 := by decide +kernel
theorem w9_419 : am_sf (am_swt 9) 11 (Int32.ofNat 419) = 11 := by decide +kernel
theorem w9_420 : am_sf (am_swt 9) 11 (Int32.ofNat 420) = 11 := by decide +kernel
theorem w9_421 : am_sf (am_swt 9) 11 (Int32.ofNat 421) = 11 := by decide +kernel
theorem w9_422 : am_sf (am_swt 9) 11 (Int32.ofNat 422) = 11 := by decide +kernel
theorem w9_423 : am_sf (am_swt 9) 11 (Int32.ofNat 423) = 11 := by decide +kernel
theorem w9_424 : am_sf (am_swt 9) 11 (Int32.ofNat 424) = 11 := by decide +kernel
theorem w9_425 : am_sf (am_swt 9) 11 (Int32.ofNat 425) = 11 := by decide +kernel
theorem w9_426 : am_sf (am_swt 9) 11 (Int32.ofNat 426) = 11 := by decide +kernel
theorem w9_427 : am_sf (am_swt 9) 11 (Int32.ofNat 427) = 11 := by decide +kernel
theorem w9_428 : am_sf (am_swt 9) 11 (Int32.ofNat 428) = 11 := by decide +kernel
theorem w9_429 : am_sf (am_swt 9) 11 (Int32.ofNat 429) = 11 := by decide +kernel
theorem w9_430 : am_sf (am_swt 9) 11 (Int32.ofNat 430) = 11 := by decide +kernel
theorem w9_431 : am_sf (am_swt 9) 11 (Int32.ofNat 431) = 11 := by decide +kernel
theorem w9_432 : am_sf (am_swt 9) 11 (Int32.ofNat 432) = 11 := by decide +kernel
theorem w9_433 : am_sf (am_swt 9) 11 (Int32.ofNat 433) = 11 := by decide +kernel
theorem w9_434 : am_sf (am_swt 9) 11 (Int32.ofNat 434) = 11 := by decide +kernel
theorem w9_435 : am_sf (am_swt 9) 11 (Int32.ofNat 435) = 11 := by decide +kernel
theorem w9_436 : am_sf (am_swt 9) 11 (Int32.ofNat 436) = 11 := by decide +kernel
theorem w9_437 : am_sf (am_swt 9) 11 (Int32.ofNat 437) = 11 := by decide +kernel
theorem w9_438 : am_sf (am_swt 9) 11 (Int32.ofNat 438) = 11 := by decide +kernel
theorem w9_439 : am_sf (am_swt 9) 11 (Int32.ofNat 439) = 11 := by decide +kernel
theorem w9_440 : am_sf (am_swt 9) 11 (Int32.ofNat 440) = 11 := by decide +kernel
theorem w9_441 : am_sf (am_swt 9) 11 (Int32.ofNat 441) = 11 := by decide +kernel
theorem w9_442 : am_sf (am_swt 9) 11 (Int32.ofNat 442) = 11 := by decide +kernel
theorem w9_443 : am_sf (am_swt 9) 11 (Int32.ofNat 443) = 11 := by decide +kernel
theorem w9_444 : am_sf (am_swt 9) 11 (Int32.ofNat 444) = 11 := by decide +kernel
theorem w9_445 : am_sf (am_swt 9) 11 (Int32.ofNat 445) = 11 := by decide +kernel
theorem w9_446 : am_sf (am_swt 9) 11 (Int32.ofNat 446) = 11 := by decide +kernel
theorem w9_447 : am_sf (am_swt 9) 11 (Int32.ofNat 447) = 11 := by decide +kernel
theorem w9_448 : am_sf (am_swt 9) 11 (Int32.ofNat 448) = 11 := by decide +kernel
theorem w9_449 : am_sf (am_swt 9) 11 (Int32.ofNat 449) = 11 := by decide +kernel
theorem w9_450 : am_sf (am_swt 9) 11 (Int32.ofNat 450) = 11 := by decide +kernel
theorem w9_451 : am_sf (am_swt 9) 11 (Int32.ofNat 451) = 11 := by decide +kernel
theorem w9_452 : am_sf (am_swt 9) 11 (Int32.ofNat 452) = 11 := by decide +kernel
theorem w9_453 : am_sf (am_swt 9) 11 (Int32.ofNat 453) = 11 := by decide +kernel
theorem w9_454 : am_sf (am_swt 9) 11 (Int32.ofNat 454) = 11 := by decide +kernel
theorem w9_455 : am_sf (am_swt 9) 11 (Int32.ofNat 455) = 11 := by decide +kernel
theorem w9_456 : am_sf (am_swt 9) 11 (Int32.ofNat 456) = 11 := by decide +kernel
theorem w9_457 : am_sf (am_swt 9) 11 (Int32.ofNat 457) = 11 := by decide +kernel
theorem w9_458 : am_sf (am_swt 9) 11 (Int32.ofNat 458) = 11 := by decide +kernel
theorem w9_459 : am_sf (am_swt 9) 11 (Int32.ofNat 459) = 11 := by decide +kernel
theorem w9_460 : am_sf (am_swt 9) 11 (Int32.ofNat 460) = 11 := by decide +kernel
theorem w9_461 : am_sf (am_swt 9) 11 (Int32.ofNat 461) = 11 := by decide +kernel
theorem w9_462 : am_sf (am_swt 9) 11 (Int32.ofNat 462) = 11 := by decide +kernel
theorem w9_463 : am_sf (am_swt 9) 11 (Int32.ofNat 463) = 11 := by decide +kernel
theorem w9_464 : am_sf (am_swt 9) 11 (Int32.ofNat 464) = 11 := by decide +kernel
theorem w9_465 : am_sf (am_swt 9) 11 (Int32.ofNat 465) = 11 := by decide +kernel
theorem w9_466 : am_sf (am_swt 9) 11 (Int32.ofNat 466) = 11 := by decide +kernel
theorem w9_467 : am_sf (am_swt 9) 11 (Int32.ofNat 467) = 11 := by decide +kernel
theorem w9_468 : am_sf (am_swt 9) 11 (Int32.ofNat 468) = 11 := by decide +kernel
theorem w9_469 : am_sf (am_swt 9) 11 (Int32.ofNat 469) = 11 := by decide +kernel
theorem w9_470 : am_sf (am_swt 9) 11 (Int32.ofNat 470) = 11 := by decide +kernel
theorem w9_471 : am_sf (am_swt 9) 11 (Int32.ofNat 471) = 11 := by decide +kernel
theorem w9_472 : am_sf (am_swt 9) 11 (Int32.ofNat 472) = 11 := by decide +kernel
theorem w9_473 : am_sf (am_swt 9) 11 (Int32.ofNat 473) = 11 := by decide +kernel
theorem w9_474 : am_sf (am_swt 9) 11 (Int32.ofNat 474) = 11 := by decide +kernel
theorem w9_475 : am_sf (am_swt 9) 11 (Int32.ofNat 475) = 11 := by decide +kernel
theorem w9_476 : am_sf (am_swt 9) 11 (Int32.ofNat 476) = 11 := by decide +kernel
theorem w9_477 : am_sf (am_swt 9) 11 (Int32.ofNat 477) = 11 := by decide +kernel
theorem w9_478 : am_sf (am_swt 9) 11 (Int32.ofNat 478) = 11 := by decide +kernel
theorem w9_479 : am_sf (am_swt 9) 11 (Int32.ofNat 479) = 11 := by decide +kernel
theorem w9_480 : am_sf (am_swt 9) 11 (Int32.ofNat 480) = 11 := by decide +kernel
theorem w9_481 : am_sf (am_swt 9) 11 (Int32.ofNat 481) = 11 := by decide +kernel
theorem w9_482 : am_sf (am_swt 9) 11 (Int32.ofNat 482) = 11 := by decide +kernel
theorem w9_483 : am_sf (am_swt 9) 11 (Int32.ofNat 483) = 11 := by decide +kernel
theorem w9_484 : am_sf (am_swt 9) 11 (Int32.ofNat 484) = 11 := by decide +kernel
theorem w9_485 : am_sf (am_swt 9) 11 (Int32.ofNat 485) = 11 := by decide +kernel
theorem w9_486 : am_sf (am_swt 9) 11 (Int32.ofNat 486) = 11 := by decide +kernel
theorem w9_487 : am_sf (am_swt 9) 11 (Int32.ofNat 487) = 11 := by decide +kernel
theorem w9_488 : am_sf (am_swt 9) 11 (Int32.ofNat 488) = 11 := by decide +kernel
theorem w9_489 : am_sf (am_swt 9) 11 (Int32.ofNat 489) = 11 := by decide +kernel
theorem w9_490 : am_sf (am_swt 9) 11 (Int32.ofNat 490) = 11 := by decide +kernel
theorem w9_491 : am_sf (am_swt 9) 11 (Int32.ofNat 491) = 11 := by decide +kernel
theorem w9_492 : am_sf (am_swt 9) 11 (Int32.ofNat 492) = 11 := by decide +kernel
theorem w9_493 : am_sf (am_swt 9) 11 (Int32.ofNat 493) = 11 := by decide +kernel
theorem w9_494 : am_sf (am_swt 9) 11 (Int32.ofNat 494) = 11 := by decide +kernel
theorem w9_495 : am_sf (am_swt 9) 11 (Int32.ofNat 495) = 11 := by decide +kernel
theorem w9_496 : am_sf (am_swt 9) 11 (Int32.ofNat 496) = 11 := by decide +kernel
theorem w9_497 : am_sf (am_swt 9) 11 (Int32.ofNat 497) = 11 := by decide +kernel
theorem w9_498 : am_sf (am_swt 9) 11 (Int32.ofNat 498) = 11 := by decide +kernel
theorem w9_499 : am_sf (am_swt 9) 11 (Int32.ofNat 499) = 11 := by decide +kernel
theorem w9_500 : am_sf (am_swt 9) 11 (Int32.ofNat 500) = 11 := by decide +kernel
theorem w9_501 : am_sf (am_swt 9) 11 (Int32.ofNat 501) = 11 := by decide +kernel
theorem w9_502 : am_sf (am_swt 9) 11 (Int32.ofNat 502) = 11 := by decide +kernel
theorem w9_503 : am_sf (am_swt 9) 11 (Int32.ofNat 503) = 11 := by decide +kernel
theorem w9_504 : am_sf (am_swt 9) 11 (Int32.ofNat 504) = 11 := by decide +kernel
theorem w9_505 : am_sf (am_swt 9) 11 (Int32.ofNat 505) = 11 := by decide +kernel
theorem w9_506 : am_sf (am_swt 9) 11 (Int32.ofNat 506) = 11 := by decide +kernel
theorem w9_507 : am_sf (am_swt 9) 11 (Int32.ofNat 507) = 11 := by decide +kernel
theorem w9_508 : am_sf (am_swt 9) 11 (Int32.ofNat 508) = 11 := by decide +kernel
theorem w9_509 : am_sf (am_swt 9) 11 (Int32.ofNat 509) = 11 := by decide +kernel
theorem w9_510 : am_sf (am_swt 9) 11 (Int32.ofNat 510) = 11 := by decide +kernel
theorem w9_511 : am_sf (am_swt 9) 11 (Int32.ofNat 511) = 11 := by decide +kernel
theorem w9_512 : am_sf (am_swt 9) 11 (Int32.ofNat 512) = 11 := by decide +kernel
theorem w9_513 : am_sf (am_swt 9) 11 (Int32.ofNat 513) = 11 := by decide +kernel
theorem w9_514 : am_sf (am_swt 9) 11 (Int32.ofNat 514) = 11 := by decide +kernel
theorem w9_515 : am_sf (am_swt 9) 11 (Int32.ofNat 515) = 11 := by decide +kernel
theorem w9_516 : am_sf (am_swt 9) 11 (Int32.ofNat 516) = 11 := by decide +kernel
theorem w9_517 : am_sf (am_swt 9) 11 (Int32.ofNat 517) = 11 := by decide +kernel
theorem w9_518 : am_sf (am_swt 9) 11 (Int32.ofNat 518) = 11 := by decide +kernel
theorem w9_519 : am_sf (am_swt 9) 11 (Int32.ofNat 519) = 11 := by decide +kernel
theorem w9_520 : am_sf (am_swt 9) 11 (Int32.ofNat 520) = 11 := by decide +kernel
theorem w9_521 : am_sf (am_swt 9) 11 (Int32.ofNat 521) = 11 := by decide +kernel
theorem w9_522 : am_sf (am_swt 9) 11 (Int32.ofNat 522) = 11 := by decide +kernel
theorem w9_523 : am_sf (am_swt 9) 11 (Int32.ofNat 523) = 11 := by decide +kernel
theorem w9_524 : am_sf (am_swt 9) 11 (Int32.ofNat 524) = 11 := by decide +kernel
theorem w9_525 : am_sf (am_swt 9) 11 (Int32.ofNat 525) = 11 := by decide +kernel
theorem w9_526 : am_sf (am_swt 9) 11 (Int32.ofNat 526) = 11 := by decide +kernel
theorem w9_527 : am_sf (am_swt 9) 11 (Int32.ofNat 527) = 11 := by decide +kernel
theorem w9_528 : am_sf (am_swt 9) 11 (Int32.ofNat 528) = 11 := by decide +kernel
theorem w9_529 : am_sf (am_swt 9) 11 (Int32.ofNat 529) = 11 := by decide +kernel
theorem w9_530 : am_sf (am_swt 9) 11 (Int32.ofNat 530) = 11 := by decide +kernel
theorem w9_531 : am_sf (am_swt 9) 11 (Int32.ofNat 531) = 11 := by decide +kernel
theorem w9_532 : am_sf (am_swt 9) 11 (Int32.ofNat 532) = 11 := by decide +kernel
theorem w9_533 : am_sf (am_swt 9) 11 (Int32.ofNat 533) = 11 := by decide +kernel
theorem w9_534 : am_sf (am_swt 9) 11 (Int32.ofNat 534) = 11 := by decide +kernel
theorem w9_535 : am_sf (am_swt 9) 11 (Int32.ofNat 535) = 11 := by decide +kernel
theorem w9_536 : am_sf (am_swt 9) 11 (Int32.ofNat 536) = 11 := by decide +kernel
theorem w9_537 : am_sf (am_swt 9) 11 (Int32.ofNat 537) = 11 := by decide +kernel
theorem w9_538 : am_sf (am_swt 9) 11 (Int32.ofNat 538) = 11 := by decide +kernel
theorem w9_539 : am_sf (am_swt 9) 11 (Int32.ofNat 539) = 11 := by decide +kernel
theorem w9_540 : am_sf (am_swt 9) 11 (Int32.ofNat 540) = 11 := by decide +kernel
theorem w9_541 : am_sf (am_swt 9) 11 (Int32.ofNat 541) = 11 := by decide +kernel
theorem w9_542 : am_sf (am_swt 9) 11 (Int32.ofNat 542) = 11 := by decide +kernel
theorem w9_543 : am_sf (am_swt 9) 11 (Int32.ofNat 543) = 11 := by decide +kernel
theorem w9_544 : am_sf (am_swt 9) 11 (Int32.ofNat 544) = 11 := by decide +kernel
theorem w9_545 : am_sf (am_swt 9) 11 (Int32.ofNat 545) = 11 := by decide +kernel
theorem w9_546 : am_sf (am_swt 9) 11 (Int32.ofNat 546) = 11 := by decide +kernel
theorem w9_547 : am_sf (am_swt 9) 11 (Int32.ofNat 547) = 11 := by decide +kernel
theorem w9_548 : am_sf (am_swt 9) 11 (Int32.ofNat 548) = 11 := by decide +kernel
theorem w9_549 : am_sf (am_swt 9) 11 (Int32.ofNat 549) = 11 := by decide +kernel
theorem w9_550 : am_sf (am_swt 9) 11 (Int32.ofNat 550) = 11 := by decide +kernel
theorem w9_551 : am_sf (am_swt 9) 11 (Int32.ofNat 551) = 11 := by decide +kernel
theorem w9_552 : am_sf (am_swt 9) 11 (Int32.ofNat 552) = 11 := by decide +kernel
theorem w9_553 : am_sf (am_swt 9) 11 (Int32.ofNat 553) = 11 := by decide +kernel
theorem w9_554 : am_sf (am_swt 9) 11 (Int32.ofNat 554) = 11 := by decide +kernel
theorem w9_555 : am_sf (am_swt 9) 11 (Int32.ofNat 555) = 11 := by decide +kernel
theorem w9_556 : am_sf (am_swt 9) 11 (Int32.ofNat 556) = 11 := by decide +kernel
theorem w9_557 : am_sf (am_swt 9) 11 (Int32.ofNat 557) = 11 := by decide +kernel
theorem w9_558 : am_sf (am_swt 9) 11 (Int32.ofNat 558) = 11 := by decide +kernel
theorem w9_559 : am_sf (am_swt 9) 11 (Int32.ofNat 559) = 11 := by decide +kernel
theorem w9_560 : am_sf (am_swt 9) 11 (Int32.ofNat 560) = 11 := by decide +kernel
theorem w9_561 : am_sf (am_swt 9) 11 (Int32.ofNat 561) = 11 := by decide +kernel
theorem w9_562 : am_sf (am_swt 9) 11 (Int32.ofNat 562) = 11 := by decide +kernel
theorem w9_563 : am_sf (am_swt 9) 11 (Int32.ofNat 563) = 11 := by decide +kernel
theorem w9_564 : am_sf (am_swt 9) 11 (Int32.ofNat 564) = 11 := by decide +kernel
theorem w9_565 : am_sf (am_swt 9) 11 (Int32.ofNat 565) = 11 := by decide +kernel
theorem w9_566 : am_sf (am_swt 9) 11 (Int32.ofNat 566) = 11 := by decide +kernel
theorem w9_567 : am_sf (am_swt 9) 11 (Int32.ofNat 567) = 11 := by decide +kernel
theorem w9_568 : am_sf (am_swt 9) 11 (Int32.ofNat 568) = 11 := by decide +kernel
theorem w9_569 : am_sf (am_swt 9) 11 (Int32.ofNat 569) = 11 := by decide +kernel
theorem w9_570 : am_sf (am_swt 9) 11 (Int32.ofNat 570) = 11 := by decide +kernel
theorem w9_571 : am_sf (am_swt 9) 11 (Int32.ofNat 571) = 11 := by decide +kernel
theorem w9_572 : am_sf (am_swt 9) 11 (Int32.ofNat 572) = 11 := by decide +kernel
theorem w9_573 : am_sf (am_swt 9) 11 (Int32.ofNat 573) = 11 := by decide +kernel
theorem w9_574 : am_sf (am_swt 9) 11 (Int32.ofNat 574) = 11 := by decide +kernel
theorem w9_575 : am_sf (am_swt 9) 11 (Int32.ofNat 575) = 11 := by decide +kernel
theorem w9_576 : am_sf (am_swt 9) 11 (Int32.ofNat 576) = 11 := by decide +kernel
theorem w9_577 : am_sf (am_swt 9) 11 (Int32.ofNat 577) = 11 := by decide +kernel
theorem w9_578 : am_sf (am_swt 9) 11 (Int32.ofNat 578) = 11 := by decide +kernel
theorem w9_579 : am_sf (am_swt 9) 11 (Int32.ofNat 579) = 11 := by decide +kernel
theorem w9_580 : am_sf (am_swt 9) 11 (Int32.ofNat 580) = 11 := by decide +kernel
theorem w9_581 : am_sf (am_swt 9) 11 (Int32.ofNat 581) = 11 := by decide +kernel
theorem w9_582 : am_sf (am_swt 9) 11 (Int32.ofNat 582) = 11 := by decide +kernel
theorem w9_583 : am_sf (am_swt 9) 11 (Int32.ofNat 583) = 11 := by decide +kernel
theorem w9_584 : am_sf (am_swt 9) 11 (Int32.ofNat 584) = 11 := by decide +kernel
theorem w9_585 : am_sf (am_swt 9) 11 (Int32.ofNat 585) = 11 := by decide +kernel
theorem w9_586 : am_sf (am_swt 9) 11 (Int32.ofNat 586) = 11 := by decide +kernel
theorem w9_587 : am_sf (am_swt 9) 11 (Int32.ofNat 587) = 11 := by decide +kernel
theorem w9_588 : am_sf (am_swt 9) 11 (Int32.ofNat 588) = 11 := by decide +kernel
theorem w9_589 : am_sf (am_swt 9) 11 (Int32.ofNat 589) = 11 := by decide +kernel
theorem w9_590 : am_sf (am_swt 9) 11 (Int32.ofNat 590) = 11 := by decide +kernel
theorem w9_591 : am_sf (am_swt 9) 11 (Int32.ofNat 591) = 11 := by decide +kernel
theorem w9_592 : am_sf (am_swt 9) 11 (Int32.ofNat 592) = 11 := by decide +kernel
theorem w9_593 : am_sf (am_swt 9) 11 (Int32.ofNat 593) = 11 := by decide +kernel
theorem w9_594 : am_sf (am_swt 9) 11 (Int32.ofNat 594) = 11 := by decide +kernel
theorem w9_595 : am_sf (am_swt 9) 11 (Int32.ofNat 595) = 11 := by decide +kernel
theorem w9_596 : am_sf (am_swt 9) 11 (Int32.ofNat 596) = 11 := by decide +kernel
theorem w9_597 : am_sf (am_swt 9) 11 (Int32.ofNat 597) = 11 := by decide +kernel
theorem w9_598 : am_sf (am_swt 9) 11 (Int32.ofNat 598) = 11 := by decide +kernel
theorem w9_599 : am_sf (am_swt 9) 11 (Int32.ofNat 599) = 11 := by decide +kernel
theorem w9_600 : am_sf (am_swt 9) 11 (Int32.ofNat 600) = 11 := by decide +kernel
theorem w9_601 : am_sf (am_swt 9) 11 (Int32.ofNat 601) = 11 := by decide +kernel
theorem w9_602 : am_sf (am_swt 9) 11 (Int32.ofNat 602) = 11 := by decide +kernel
theorem w9_603 : am_sf (am_swt 9) 11 (Int32.ofNat 603) = 11 := by decide +kernel
theorem w9_604 : am_sf (am_swt 9) 11 (Int32.ofNat 604) = 11 := by decide +kernel
theorem w9_605 : am_sf (am_swt 9) 11 (Int32.ofNat 605) = 11 := by decide +kernel
theorem w9_606 : am_sf (am_swt 9) 11 (Int32.ofNat 606) = 11 := by decide +kernel
theorem w9_607 : am_sf (am_swt 9) 11 (Int32.ofNat 607) = 11 := by decide +kernel
theorem w9_608 : am_sf (am_swt 9) 11 (Int32.ofNat 608) = 11 := by decide +kernel
theorem w9_609 : am_sf (am_swt 9) 11 (Int32.ofNat 609) = 11 := by decide +kernel
theorem w9_610 : am_sf (am_swt 9) 11 (Int32.ofNat 610) = 11 := by decide +kernel
theorem w9_611 : am_sf (am_swt 9) 11 (Int32.ofNat 611) = 11 := by decide +kernel
theorem w9_612 : am_sf (am_swt 9) 11 (Int32.ofNat 612) = 11 := by decide +kernel
theorem w9_613 : am_sf (am_swt 9) 11 (Int32.ofNat 613) = 11 := by decide +kernel
theorem w9_614 : am_sf (am_swt 9) 11 (Int32.ofNat 614) = 11 := by decide +kernel
theorem w9_615 : am_sf (am_swt 9) 11 (Int32.ofNat 615) = 11 := by decide +kernel
theorem w9_616 : am_sf (am_swt 9) 11 (Int32.ofNat 616) = 11 := by decide +kernel
theorem w9_617 : am_sf (am_swt 9) 11 (Int32.ofNat 617) = 11 := by decide +kernel
theorem w9_618 : am_sf (am_swt 9) 11 (Int32.ofNat 618) = 11 := by decide +kernel
theorem w9_619 : am_sf (am_swt 9) 11 (Int32.ofNat 619) = 11 := by decide +kernel
theorem w9_620 : am_sf (am_swt 9) 11 (Int32.ofNat 620) = 11 := by decide +kernel
theorem w9_621 : am_sf (am_swt 9) 11 (Int32.ofNat 621) = 11 := by decide +kernel
theorem w9_622 : am_sf (am_swt 9) 11 (Int32.ofNat 622) = 11 := by decide +kernel
theorem w9_623 : am_sf (am_swt 9) 11 (Int32.ofNat 623) = 11 := by decide +kernel
theorem w9_624 : am_sf (am_swt 9) 11 (Int32.ofNat 624) = 11 := by decide +kernel
theorem w9_625 : am_sf (am_swt 9) 11 (Int32.ofNat 625) = 11 := by decide +kernel
theorem w9_626 : am_sf (am_swt 9) 11 (Int32.ofNat 626) = 11 := by decide +kernel
theorem w9_627 : am_sf (am_swt 9) 11 (Int32.ofNat 627) = 11 := by decide +kernel
theorem w9_628 : am_sf (am_swt 9) 11 (Int32.ofNat 628) = 11 := by decide +kernel
theorem w9_629 : am_sf (am_swt 9) 11 (Int32.ofNat 629) = 11 := by decide +kernel
theorem w9_630 : am_sf (am_swt 9) 11 (Int32.ofNat 630) = 11 := by decide +kernel
theorem w9_631 : am_sf (am_swt 9) 11 (Int32.ofNat 631) = 11 := by decide +kernel
theorem w9_632 : am_sf (am_swt 9) 11 (Int32.ofNat 632) = 11 := by decide +kernel
theorem w9_633 : am_sf (am_swt 9) 11 (Int32.ofNat 633) = 11 := by decide +kernel
theorem w9_634 : am_sf (am_swt 9) 11 (Int32.ofNat 634) = 11 := by decide +kernel
theorem w9_635 : am_sf (am_swt 9) 11 (Int32.ofNat 635) = 11 := by decide +kernel
theorem w9_636 : am_sf (am_swt 9) 11 (Int32.ofNat 636) = 11 := by decide +kernel
theorem w9_637 : am_sf (am_swt 9) 11 (Int32.ofNat 637) = 11 := by decide +kernel
theorem w9_638 : am_sf (am_swt 9) 11 (Int32.ofNat 638) = 11 := by decide +kernel
theorem w9_639 : am_sf (am_swt 9) 11 (Int32.ofNat 639) = 11 := by decide +kernel
theorem w9_640 : am_sf (am_swt 9) 11 (Int32.ofNat 640) = 11 := by decide +kernel
theorem w9_641 : am_sf (am_swt 9) 11 (Int32.ofNat 641) = 11 := by decide +kernel
theorem w9_642 : am_sf (am_swt 9) 11 (Int32.ofNat 642) = 11 := by decide +kernel
theorem w9_643 : am_sf (am_swt 9) 11 (Int32.ofNat 643) = 11 := by decide +kernel
theorem w9_644 : am_sf (am_swt 9) 11 (Int32.ofNat 644) = 11 := by decide +kernel
theorem w9_645 : am_sf (am_swt 9) 11 (Int32.ofNat 645) = 11 := by decide +kernel
theorem w9_646 : am_sf (am_swt 9) 11 (Int32.ofNat 646) = 11 := by decide +kernel
theorem w9_647 : am_sf (am_swt 9) 11 (Int32.ofNat 647) = 11 := by decide +kernel
theorem w9_648 : am_sf (am_swt 9) 11 (Int32.ofNat 648) = 11 := by decide +kernel
theorem w9_649 : am_sf (am_swt 9) 11 (Int32.ofNat 649) = 11 := by decide +kernel
theorem w9_650 : am_sf (am_swt 9) 11 (Int32.ofNat 650) = 11 := by decide +kernel
theorem w9_651 : am_sf (am_swt 9) 11 (Int32.ofNat 651) = 11 := by decide +kernel
theorem w9_652 : am_sf (am_swt 9) 11 (Int32.ofNat 652) = 11 := by decide +kernel
theorem w9_653 : am_sf (am_swt 9) 11 (Int32.ofNat 653) = 11 := by decide +kernel
theorem w9_654 : am_sf (am_swt 9) 11 (Int32.ofNat 654) = 11 := by decide +kernel
theorem w9_655 : am_sf (am_swt 9) 11 (Int32.ofNat 655) = 11 := by decide +kernel
theorem w9_656 : am_sf (am_swt 9) 11 (Int32.ofNat 656) = 11 := by decide +kernel
theorem w9_657 : am_sf (am_swt 9) 11 (Int32.ofNat 657) = 11 := by decide +kernel
theorem w9_658 : am_sf (am_swt 9) 11 (Int32.ofNat 658) = 11 := by decide +kernel
theorem w9_659 : am_sf (am_swt 9) 11 (Int32.ofNat 659) = 11 := by decide +kernel
theorem w9_660 : am_sf (am_swt 9) 11 (Int32.ofNat 660) = 11 := by decide +kernel
theorem w9_661 : am_sf (am_swt 9) 11 (Int32.ofNat 661) = 11 := by decide +kernel
theorem w9_662 : am_sf (am_swt 9) 11 (Int32.ofNat 662) = 11 := by decide +kernel
theorem w9_663 : am_sf (am_swt 9) 11 (Int32.ofNat 663) = 11 := by decide +kernel
theorem w9_664 : am_sf (am_swt 9) 11 (Int32.ofNat 664) = 11 := by decide +kernel
theorem w9_665 : am_sf (am_swt 9) 11 (Int32.ofNat 665) = 11 := by decide +kernel
theorem w9_666 : am_sf (am_swt 9) 11 (Int32.ofNat 666) = 11 := by decide +kernel
theorem w9_667 : am_sf (am_swt 9) 11 (Int32.ofNat 667) = 11 := by decide +kernel
theorem w9_668 : am_sf (am_swt 9) 11 (Int32.ofNat 668) = 11 := by decide +kernel
theorem w9_669 : am_sf (am_swt 9) 11 (Int32.ofNat 669) = 11 := by decide +kernel
theorem w9_670 : am_sf (am_swt 9) 11 (Int32.ofNat 670) = 11 := by decide +kernel
theorem w9_671 : am_sf (am_swt 9) 11 (Int32.ofNat 671) = 11 := by decide +kernel
theorem w9_672 : am_sf (am_swt 9) 11 (Int32.ofNat 672) = 11 := by decide +kernel
theorem w9_673 : am_sf (am_swt 9) 11 (Int32.ofNat 673) = 11 := by decide +kernel
theorem w9_674 : am_sf (am_swt 9) 11 (Int32.ofNat 674) = 11 := by decide +kernel
theorem w9_675 : am_sf (am_swt 9) 11 (Int32.ofNat 675) = 11 := by decide +kernel
theorem w9_676 : am_sf (am_swt 9) 11 (Int32.ofNat 676) = 11 := by decide +kernel
theorem w9_677 : am_sf (am_swt 9) 11 (Int32.ofNat 677) = 11 := by decide +kernel
theorem w9_678 : am_sf (am_swt 9) 11 (Int32.ofNat 678) = 11 := by decide +kernel
theorem w9_679 : am_sf (am_swt 9) 11 (Int32.ofNat 679) = 11 := by decide +kernel
theorem w9_680 : am_sf (am_swt 9) 11 (Int32.ofNat 680) = 11 := by decide +kernel
theorem w9_681 : am_sf (am_swt 9) 11 (Int32.ofNat 681) = 11 := by decide +kernel
theorem w9_682 : am_sf (am_swt 9) 11 (Int32.ofNat 682) = 11 := by decide +kernel
theorem w9_683 : am_sf (am_swt 9) 11 (Int32.ofNat 683) = 11 := by decide +kernel
theorem w9_684 : am_sf (am_swt 9) 11 (Int32.ofNat 684) = 11 := by decide +kernel
theorem w9_685 : am_sf (am_swt 9) 11 (Int32.ofNat 685) = 11 := by decide +kernel
theorem w9_686 : am_sf (am_swt 9) 11 (Int32.ofNat 686) = 11 := by decide +kernel
theorem w9_687 : am_sf (am_swt 9) 11 (Int32.ofNat 687) = 11 := by decide +kernel
theorem w9_688 : am_sf (am_swt 9) 11 (Int32.ofNat 688) = 11 := by decide +kernel
theorem w9_689 : am_sf (am_swt 9) 11 (Int32.ofNat 689) = 11 := by decide +kernel
theorem w9_690 : am_sf (am_swt 9) 11 (Int32.ofNat 690) = 11 := by decide +kernel
theorem w9_691 : am_sf (am_swt 9) 11 (Int32.ofNat 691) = 11 := by decide +kernel
theorem w9_692 : am_sf (am_swt 9) 11 (Int32.ofNat 692) = 11 := by decide +kernel
theorem w9_693 : am_sf (am_swt 9) 11 (Int32.ofNat 693) = 11 := by decide +kernel
theorem w9_694 : am_sf (am_swt 9) 11 (Int32.ofNat 694) = 11 := by decide +kernel
theorem w9_695 : am_sf (am_swt 9) 11 (Int32.ofNat 695) = 11 := by decide +kernel
theorem w9_696 : am_sf (am_swt 9) 11 (Int32.ofNat 696) = 11 := by decide +kernel
theorem w9_697 : am_sf (am_swt 9) 11 (Int32.ofNat 697) = 11 := by decide +kernel
theorem w9_698 : am_sf (am_swt 9) 11 (Int32.ofNat 698) = 11 := by decide +kernel
theorem w9_699 : am_sf (am_swt 9) 11 (Int32.ofNat 699) = 11 := by decide +kernel
theorem w9_700 : am_sf (am_swt 9) 11 (Int32.ofNat 700) = 11 := by decide +kernel
theorem w9_701 : am_sf (am_swt 9) 11 (Int32.ofNat 701) = 11 := by decide +kernel
theorem w9_702 : am_sf (am_swt 9) 11 (Int32.ofNat 702) = 11 := by decide +kernel
theorem w9_703 : am_sf (am_swt 9) 11 (Int32.ofNat 703) = 11 := by decide +kernel
theorem w9_704 : am_sf (am_swt 9) 11 (Int32.ofNat 704) = 11 := by decide +kernel
theorem w9_705 : am_sf (am_swt 9) 11 (Int32.ofNat 705) = 11 := by decide +kernel
theorem w9_706 : am_sf (am_swt 9) 11 (Int32.ofNat 706) = 11 := by decide +kernel
theorem w9_707 : am_sf (am_swt 9) 11 (Int32.ofNat 707) = 11 := by decide +kernel
theorem w9_708 : am_sf (am_swt 9) 11 (Int32.ofNat 708) = 11 := by decide +kernel
theorem w9_709 : am_sf (am_swt 9) 11 (Int32.ofNat 709) = 11 := by decide +kernel
theorem w9_710 : am_sf (am_swt 9) 11 (Int32.ofNat 710) = 11 := by decide +kernel
theorem w9_711 : am_sf (am_swt 9) 11 (Int32.ofNat 711) = 11 := by decide +kernel
theorem w9_712 : am_sf (am_swt 9) 11 (Int32.ofNat 712) = 11 := by decide +kernel
theorem w9_713 : am_sf (am_swt 9) 11 (Int32.ofNat 713) = 11 := by decide +kernel
theorem w9_714 : am_sf (am_swt 9) 11 (Int32.ofNat 714) = 11 := by decide +kernel
theorem w9_715 : am_sf (am_swt 9) 11 (Int32.ofNat 715) = 11 := by decide +kernel
theorem w9_716 : am_sf (am_swt 9) 11 (Int32.ofNat 716) = 11 := by decide +kernel
theorem w9_717 : am_sf (am_swt 9) 11 (Int32.ofNat 717) = 11 := by decide +kernel
theorem w9_718 : am_sf (am_swt 9) 11 (Int32.ofNat 718) = 11 := by decide +kernel
theorem w9_719 : am_sf (am_swt 9) 11 (Int32.ofNat 719) = 11 := by decide +kernel
theorem w9_720 : am_sf (am_swt 9) 11 (Int32.ofNat 720) = 11 := by decide +kernel
theorem w9_721 : am_sf (am_swt 9) 11 (Int32.ofNat 721) = 11 := by decide +kernel
theorem w9_722 : am_sf (am_swt 9) 11 (Int32.ofNat 722) = 11 := by decide +kernel
theorem w9_723 : am_sf (am_swt 9) 11 (Int32.ofNat 723) = 11 := by decide +kernel
theorem w9_724 : am_sf (am_swt 9) 11 (Int32.ofNat 724) = 11 := by decide +kernel
theorem w9_725 : am_sf (am_swt 9) 11 (Int32.ofNat 725) = 11 := by decide +kernel
theorem w9_726 : am_sf (am_swt 9) 11 (Int32.ofNat 726) = 11 := by decide +kernel
theorem w9_727 : am_sf (am_swt 9) 11 (Int32.ofNat 727) = 11 := by decide +kernel
theorem w9_728 : am_sf (am_swt 9) 11 (Int32.ofNat 728) = 11 := by decide +kernel
theorem w9_729 : am_sf (am_swt 9) 11 (Int32.ofNat 729) = 11 := by decide +kernel
theorem w9_730 : am_sf (am_swt 9) 11 (Int32.ofNat 730) = 11 := by decide +kernel
theorem w9_731 : am_sf (am_swt 9) 11 (Int32.ofNat 731) = 11 := by decide +kernel
theorem w9_732 : am_sf (am_swt 9) 11 (Int32.ofNat 732) = 11 := by decide +kernel
theorem w9_733 : am_sf (am_swt 9) 11 (Int32.ofNat 733) = 11 := by decide +kernel
theorem w9_734 : am_sf (am_swt 9) 11 (Int32.ofNat 734) = 11 := by decide +kernel
theorem w9_735 : am_sf (am_swt 9) 11 (Int32.ofNat 735) = 11 := by decide +kernel
theorem w9_736 : am_sf (am_swt 9) 11 (Int32.ofNat 736) = 11 := by decide +kernel
theorem w9_737 : am_sf (am_swt 9) 11 (Int32.ofNat 737) = 11 := by decide +kernel
theorem w9_738 : am_sf (am_swt 9) 11 (Int32.ofNat 738) = 11 := by decide +kernel
theorem w9_739 : am_sf (am_swt 9) 11 (Int32.ofNat 739) = 11 := by decide +kernel
theorem w9_740 : am_sf (am_swt 9) 11 (Int32.ofNat 740) = 11 := by decide +kernel
theorem w9_741 : am_sf (am_swt 9) 11 (Int32.ofNat 741) = 11 := by decide +kernel
theorem w9_742 : am_sf (am_swt 9) 11 (Int32.ofNat 742) = 11 := by decide +kernel
theorem w9_743 : am_sf (am_swt 9) 11 (Int32.ofNat 743) = 11 := by decide +kernel
theorem w9_744 : am_sf (am_swt 9) 11 (Int32.ofNat 744) = 11 := by decide +kernel
theorem w9_745 : am_sf (am_swt 9) 11 (Int32.ofNat 745) = 11 := by decide +kernel
theorem w9_746 : am_sf (am_swt 9) 11 (Int32.ofNat 746) = 11 := by decide +kernel
theorem w9_747 : am_sf (am_swt 9) 11 (Int32.ofNat 747) = 11 := by decide +kernel
theorem w9_748 : am_sf (am_swt 9) 11 (Int32.ofNat 748) = 11 := by decide +kernel
theorem w9_749 : am_sf (am_swt 9) 11 (Int32.ofNat 749) = 11 := by decide +kernel
theorem w9_750 : am_sf (am_swt 9) 11 (Int32.ofNat 750) = 11 := by decide +kernel
theorem w9_751 : am_sf (am_swt 9) 11 (Int32.ofNat 751) = 11 := by decide +kernel
theorem w9_752 : am_sf (am_swt 9) 11 (Int32.ofNat 752) = 11 := by decide +kernel
theorem w9_753 : am_sf (am_swt 9) 11 (Int32.ofNat 753) = 11 := by decide +kernel
theorem w9_754 : am_sf (am_swt 9) 11 (Int32.ofNat 754) = 11 := by decide +kernel
theorem w9_755 : am_sf (am_swt 9) 11 (Int32.ofNat 755) = 11 := by decide +kernel
theorem w9_756 : am_sf (am_swt 9) 11 (Int32.ofNat 756) = 11 := by decide +kernel
theorem w9_757 : am_sf (am_swt 9) 11 (Int32.ofNat 757) = 11 := by decide +kernel
theorem w9_758 : am_sf (am_swt 9) 11 (Int32.ofNat 758) = 11 := by decide +kernel
theorem w9_759 : am_sf (am_swt 9) 11 (Int32.ofNat 759) = 11 := by decide +kernel
theorem w9_760 : am_sf (am_swt 9) 11 (Int32.ofNat 760) = 11 := by decide +kernel
theorem w9_761 : am_sf (am_swt 9) 11 (Int32.ofNat 761) = 11 := by decide +kernel
theorem w9_762 : am_sf (am_swt 9) 11 (Int32.ofNat 762) = 11 := by decide +kernel
theorem w9_763 : am_sf (am_swt 9) 11 (Int32.ofNat 763) = 11 := by decide +kernel
theorem w9_764 : am_sf (am_swt 9) 11 (Int32.ofNat 764) = 11 := by decide +kernel
theorem w9_765 : am_sf (am_swt 9) 11 (Int32.ofNat 765) = 11 := by decide +kernel
theorem w9_766 : am_sf (am_swt 9) 11 (Int32.ofNat 766) = 11 := by decide +kernel
theorem w9_767 : am_sf (am_swt 9) 11 (Int32.ofNat 767) = 11 := by decide +kernel
theorem w9_768 : am_sf (am_swt 9) 11 (Int32.ofNat 768) = 11 := by decide +kernel
theorem w9_769 : am_sf (am_swt 9) 11 (Int32.ofNat 769) = 11 := by decide +kernel
theorem w9_770 : am_sf (am_swt 9) 11 (Int32.ofNat 770) = 11 := by decide +kernel
theorem w9_771 : am_sf (am_swt 9) 11 (Int32.ofNat 771) = 11 := by decide +kernel
theorem w9_772 : am_sf (am_swt 9) 11 (Int32.ofNat 772) = 11 := by decide +kernel
theorem w9_773 : am_sf (am_swt 9) 11 (Int32.ofNat 773) = 11 := by decide +kernel
theorem w9_774 : am_sf (am_swt 9) 11 (Int32.ofNat 774) = 11 := by decide +kernel
theorem w9_775 : am_sf (am_swt 9) 11 (Int32.ofNat 775) = 11 := by decide +kernel
theorem w9_776 : am_sf (am_swt 9) 11 (Int32.ofNat 776) = 11 := by decide +kernel
theorem w9_777 : am_sf (am_swt 9) 11 (Int32.ofNat 777) = 11 := by decide +kernel
theorem w9_778 : am_sf (am_swt 9) 11 (Int32.ofNat 778) = 11 := by decide +kernel
theorem w9_779 : am_sf (am_swt 9) 11 (Int32.ofNat 779) = 11 := by decide +kernel
theorem w9_780 : am_sf (am_swt 9) 11 (Int32.ofNat 780) = 11 := by decide +kernel
theorem w9_781 : am_sf (am_swt 9) 11 (Int32.ofNat 781) = 11 := by decide +kernel
theorem w9_782 : am_sf (am_swt 9) 11 (Int32.ofNat 782) = 11 := by decide +kernel
theorem w9_783 : am_sf (am_swt 9) 11 (Int32.ofNat 783) = 11 := by decide +kernel
theorem w9_784 : am_sf (am_swt 9) 11 (Int32.ofNat 784) = 11 := by decide +kernel
theorem w9_785 : am_sf (am_swt 9) 11 (Int32.ofNat 785) = 11 := by decide +kernel
theorem w9_786 : am_sf (am_swt 9) 11 (Int32.ofNat 786) = 11 := by decide +kernel
theorem w9_787 : am_sf (am_swt 9) 11 (Int32.ofNat 787) = 11 := by decide +kernel
theorem w9_788 : am_sf (am_swt 9) 11 (Int32.ofNat 788) = 11 := by decide +kernel
theorem w9_789 : am_sf (am_swt 9) 11 (Int32.ofNat 789) = 11 := by decide +kernel
theorem w9_790 : am_sf (am_swt 9) 11 (Int32.ofNat 790) = 11 := by decide +kernel
theorem w9_791 : am_sf (am_swt 9) 11 (Int32.ofNat 791) = 11 := by decide +kernel
theorem w9_792 : am_sf (am_swt 9) 11 (Int32.ofNat 792) = 11 := by decide +kernel
theorem w9_793 : am_sf (am_swt 9) 11 (Int32.ofNat 793) = 11 := by decide +kernel
theorem w9_794 : am_sf (am_swt 9) 11 (Int32.ofNat 794) = 11 := by decide +kernel
theorem w9_795 : am_sf (am_swt 9) 11 (Int32.ofNat 795) = 11 := by decide +kernel
theorem w9_796 : am_sf (am_swt 9) 11 (Int32.ofNat 796) = 11 := by decide +kernel
theorem w9_797 : am_sf (am_swt 9) 11 (Int32.ofNat 797) = 11 := by decide +kernel
theorem w9_798 : am_sf (am_swt 9) 11 (Int32.ofNat 798) = 11 := by decide +kernel
theorem w9_799 : am_sf (am_swt 9) 11 (Int32.ofNat 799) = 11 := by decide +kernel
theorem w9_800 : am_sf (am_swt 9) 11 (Int32.ofNat 800) = 11 := by decide +kernel
theorem w9_801 : am_sf (am_swt 9) 11 (Int32.ofNat 801) = 11 := by decide +kernel
theorem w9_802 : am_sf (am_swt 9) 11 (Int32.ofNat 802) = 11 := by decide +kernel
theorem w9_803 : am_sf (am_swt 9) 11 (Int32.ofNat 803) = 11 := by decide +kernel
theorem w9_804 : am_sf (am_swt 9) 11 (Int32.ofNat 804) = 11 := by decide +kernel
theorem w9_805 : am_sf (am_swt 9) 11 (Int32.ofNat 805) = 11 := by decide +kernel
theorem w9_806 : am_sf (am_swt 9) 11 (Int32.ofNat 806) = 11 := by decide +kernel
theorem w9_807 : am_sf (am_swt 9) 11 (Int32.ofNat 807) = 11 := by decide +kernel
theorem w9_808 : am_sf (am_swt 9) 11 (Int32.ofNat 808) = 11 := by decide +kernel
theorem w9_809 : am_sf (am_swt 9) 11 (Int32.ofNat 809) = 11 := by decide +kernel
theorem w9_810 : am_sf (am_swt 9) 11 (Int32.ofNat 810) = 11 := by decide +kernel
theorem w9_811 : am_sf (am_swt 9) 11 (Int32.ofNat 811) = 11 := by decide +kernel
theorem w9_812 : am_sf (am_swt 9) 11 (Int32.ofNat 812) = 11 := by decide +kernel
theorem w9_813 : am_sf (am_swt 9) 11 (Int32.ofNat 813) = 11 := by decide +kernel
theorem w9_814 : am_sf (am_swt 9) 11 (Int32.ofNat 814) = 11 := by decide +kernel
theorem w9_815 : am_sf (am_swt 9) 11 (Int32.ofNat 815) = 11 := by decide +kernel
theorem w9_816 : am_sf (am_swt 9) 11 (Int32.ofNat 816) = 11 := by decide +kernel
theorem w9_817 : am_sf (am_swt 9) 11 (Int32.ofNat 817) = 11 := by decide +kernel
theorem w9_818 : am_sf (am_swt 9) 11 (Int32.ofNat 818) = 11 := by decide +kernel
theorem w9_819 : am_sf (am_swt 9) 11 (Int32.ofNat 819) = 11 := by decide +kernel
theorem w9_820 : am_sf (am_swt 9) 11 (Int32.ofNat 820) = 11 := by decide +kernel
theorem w9_821 : am_sf (am_swt 9) 11 (Int32.ofNat 821) = 11 := by decide +kernel
theorem w9_822 : am_sf (am_swt 9) 11 (Int32.ofNat 822) = 11 := by decide +kernel
theorem w9_823 : am_sf (am_swt 9) 11 (Int32.ofNat 823) = 11 := by decide +kernel
theorem w9_824 : am_sf (am_swt 9) 11 (Int32.ofNat 824) = 11 := by decide +kernel
theorem w9_825 : am_sf (am_swt 9) 11 (Int32.ofNat 825) = 11 := by decide +kernel
theorem w9_826 : am_sf (am_swt 9) 11 (Int32.ofNat 826) = 11 := by decide +kernel
theorem w9_827 : am_sf (am_swt 9) 11 (Int32.ofNat 827) = 11 := by decide +kernel
theorem w9_828 : am_sf (am_swt 9) 11 (Int32.ofNat 828) = 11 := by decide +kernel
theorem w9_829 : am_sf (am_swt 9) 11 (Int32.ofNat 829) = 11 := by decide +kernel
theorem w9_830 : am_sf (am_swt 9) 11 (Int32.ofNat 830) = 11 := by decide +kernel
theorem w9_831 : am_sf (am_swt 9) 11 (Int32.ofNat 831) = 11 := by decide +kernel
theorem w9_832 : am_sf (am_swt 9) 11 (Int32.ofNat 832) = 11 := by decide +kernel
theorem w9_833 : am_sf (am_swt 9) 11 (Int32.ofNat 833) = 11 := by decide +kernel
theorem w9_834 : am_sf (am_swt 9) 11 (Int32.ofNat 834) = 11 := by decide +kernel
theorem w9_835 : am_sf (am_swt 9) 11 (Int32.ofNat 835) = 11 := by decide +kernel
theorem w9_836 : am_sf (am_swt 9) 11 (Int32.ofNat 836) = 11 := by decide +kernel
theorem w9_837 : am_sf (am_swt 9) 11 (Int32.ofNat 837) = 11 := by decide +kernel
theorem w9_838 : am_sf (am_swt 9) 11 (Int32.ofNat 838) = 11 := by decide +kernel
theorem w9_839 : am_sf (am_swt 9) 11 (Int32.ofNat 839) = 11 := by decide +kernel
theorem w9_840 : am_sf (am_swt 9) 11 (Int32.ofNat 840) = 11 := by decide +kernel
theorem w9_841 : am_sf (am_swt 9) 11 (Int32.ofNat 841) = 11 := by decide +kernel
theorem w9_842 : am_sf (am_swt 9) 11 (Int32.ofNat 842) = 11 := by decide +kernel
theorem w9_843 : am_sf (am_swt 9) 11 (Int32.ofNat 843) = 11 := by decide +kernel
theorem w9_844 : am_sf (am_swt 9) 11 (Int32.ofNat 844) = 11 := by decide +kernel
theorem w9_845 : am_sf (am_swt 9) 11 (Int32.ofNat 845) = 11 := by decide +kernel
theorem w9_846 : am_sf (am_swt 9) 11 (Int32.ofNat 846) = 11 := by decide +kernel
theorem w9_847 : am_sf (am_swt 9) 11 (Int32.ofNat 847) = 11 := by decide +kernel
theorem w9_848 : am_sf (am_swt 9) 11 (Int32.ofNat 848) = 11 := by decide +kernel
theorem w9_849 : am_sf (am_swt 9) 11 (Int32.ofNat 849) = 11 := by decide +kernel
theorem w9_850 : am_sf (am_swt 9) 11 (Int32.ofNat 850) = 11 := by decide +kernel
theorem w9_851 : am_sf (am_swt 9) 11 (Int32.ofNat 851) = 11 := by decide +kernel
theorem w9_852 : am_sf (am_swt 9) 11 (Int32.ofNat 852) = 11 := by decide +kernel
theorem w9_853 : am_sf (am_swt 9) 11 (Int32.ofNat 853) = 11 := by decide +kernel
theorem w9_854 : am_sf (am_swt 9) 11 (Int32.ofNat 854) = 11 := by decide +kernel
theorem w9_855 : am_sf (am_swt 9) 11 (Int32.ofNat 855) = 11 := by decide +kernel
theorem w9_856 : am_sf (am_swt 9) 11 (Int32.ofNat 856) = 11 := by decide +kernel
theorem w9_857 : am_sf (am_swt 9) 11 (Int32.ofNat 857) = 11 := by decide +kernel
theorem w9_858 : am_sf (am_swt 9) 11 (Int32.ofNat 858) = 11 := by decide +kernel
theorem w9_859 : am_sf (am_swt 9) 11 (Int32.ofNat 859) = 11 := by decide +kernel
theorem w9_860 : am_sf (am_swt 9) 11 (Int32.ofNat 860) = 11 := by decide +kernel
theorem w9_861 : am_sf (am_swt 9) 11 (Int32.ofNat 861) = 11 := by decide +kernel
theorem w9_862 : am_sf (am_swt 9) 11 (Int32.ofNat 862) = 11 := by decide +kernel
theorem w9_863 : am_sf (am_swt 9) 11 (Int32.ofNat 863) = 11 := by decide +kernel
theorem w9_864 : am_sf (am_swt 9) 11 (Int32.ofNat 864) = 11 := by decide +kernel
theorem w9_865 : am_sf (am_swt 9) 11 (Int32.ofNat 865) = 11 := by decide +kernel
theorem w9_866 : am_sf (am_swt 9) 11 (Int32.ofNat 866) = 11 := by decide +kernel
theorem w9_867 : am_sf (am_swt 9) 11 (Int32.ofNat 867) = 11 := by decide +kernel
theorem w9_868 : am_sf (am_swt 9) 11 (Int32.ofNat 868) = 11 := by decide +kernel
theorem w9_869 : am_sf (am_swt 9) 11 (Int32.ofNat 869) = 11 := by decide +kernel
theorem w9_870 : am_sf (am_swt 9) 11 (Int32.ofNat 870) = 11 := by decide +kernel
theorem w9_871 : am_sf (am_swt 9) 11 (Int32.ofNat 871) = 11 := by decide +kernel
theorem w9_872 : am_sf (am_swt 9) 11 (Int32.ofNat 872) = 11 := by decide +kernel
theorem w9_873 : am_sf (am_swt 9) 11 (Int32.ofNat 873) = 11 := by decide +kernel
theorem w9_874 : am_sf (am_swt 9) 11 (Int32.ofNat 874) = 11 := by decide +kernel
theorem w9_875 : am_sf (am_swt 9) 11 (Int32.ofNat 875) = 11 := by decide +kernel
theorem w9_876 : am_sf (am_swt 9) 11 (Int32.ofNat 876) = 11 := by decide +kernel
theorem w9_877 : am_sf (am_swt 9) 11 (Int32.ofNat 877) = 11 := by decide +kernel
theorem w9_878 : am_sf (am_swt 9) 11 (Int32.ofNat 878) = 11 := by decide +kernel
theorem w9_879 : am_sf (am_swt 9) 11 (Int32.ofNat 879) = 11 := by decide +kernel
theorem w9_880 : am_sf (am_swt 9) 11 (Int32.ofNat 880) = 11 := by decide +kernel
theorem w9_881 : am_sf (am_swt 9) 11 (Int32.ofNat 881) = 11 := by decide +kernel
theorem w9_882 : am_sf (am_swt 9) 11 (Int32.ofNat 882) = 11 := by decide +kernel
theorem w9_883 : am_sf (am_swt 9) 11 (Int32.ofNat 883) = 11 := by decide +kernel
theorem w9_884 : am_sf (am_swt 9) 11 (Int32.ofNat 884) = 11 := by decide +kernel
theorem w9_885 : am_sf (am_swt 9) 11 (Int32.ofNat 885) = 11 := by decide +kernel
theorem w9_886 : am_sf (am_swt 9) 11 (Int32.ofNat 886) = 11 := by decide +kernel
theorem w9_887 : am_sf (am_swt 9) 11 (Int32.ofNat 887) = 11 := by decide +kernel
theorem w9_888 : am_sf (am_swt 9) 11 (Int32.ofNat 888) = 11 := by decide +kernel
theorem w9_889 : am_sf (am_swt 9) 11 (Int32.ofNat 889) = 11 := by decide +kernel
theorem w9_890 : am_sf (am_swt 9) 11 (Int32.ofNat 890) = 11 := by decide +kernel
theorem w9_891 : am_sf (am_swt 9) 11 (Int32.ofNat 891) = 11 := by decide +kernel
theorem w9_892 : am_sf (am_swt 9) 11 (Int32.ofNat 892) = 11 := by decide +kernel
theorem w9_893 : am_sf (am_swt 9) 11 (Int32.ofNat 893) = 11 := by decide +kernel
theorem w9_894 : am_sf (am_swt 9) 11 (Int32.ofNat 894) = 11 := by decide +kernel
theorem w9_895 : am_sf (am_swt 9) 11 (Int32.ofNat 895) = 11 := by decide +kernel
theorem w9_896 : am_sf (am_swt 9) 11 (Int32.ofNat 896) = 11 := by decide +kernel
theorem w9_897 : am_sf (am_swt 9) 11 (Int32.ofNat 897) = 11 := by decide +kernel
theorem w9_898 : am_sf (am_swt 9) 11 (Int32.ofNat 898) = 11 := by decide +kernel
theorem w9_899 : am_sf (am_swt 9) 11 (Int32.ofNat 899) = 11 := by decide +kernel
theorem w9_900 : am_sf (am_swt 9) 11 (Int32.ofNat 900) = 11 := by decide +kernel
theorem w9_901 : am_sf (am_swt 9) 11 (Int32.ofNat 901) = 11 := by decide +kernel
theorem w9_902 : am_sf (am_swt 9) 11 (Int32.ofNat 902) = 11 := by decide +kernel
theorem w9_903 : am_sf (am_swt 9) 11 (Int32.ofNat 903) = 11 := by decide +kernel
theorem w9_904 : am_sf (am_swt 9) 11 (Int32.ofNat 904) = 11 := by decide +kernel
theorem w9_905 : am_sf (am_swt 9) 11 (Int32.ofNat 905) = 11 := by decide +kernel
theorem w9_906 : am_sf (am_swt 9) 11 (Int32.ofNat 906) = 11 := by decide +kernel
theorem w9_907 : am_sf (am_swt 9) 11 (Int32.ofNat 907) = 11 := by decide +kernel
theorem w9_908 : am_sf (am_swt 9) 11 (Int32.ofNat 908) = 11 := by decide +kernel
theorem w9_909 : am_sf (am_swt 9) 11 (Int32.ofNat 909) = 11 := by decide +kernel
theorem w9_910 : am_sf (am_swt 9) 11 (Int32.ofNat 910) = 11 := by decide +kernel
theorem w9_911 : am_sf (am_swt 9) 11 (Int32.ofNat 911) = 11 := by decide +kernel
theorem w9_912 : am_sf (am_swt 9) 11 (Int32.ofNat 912) = 11 := by decide +kernel
theorem w9_913 : am_sf (am_swt 9) 11 (Int32.ofNat 913) = 11 := by decide +kernel
theorem w9_914 : am_sf (am_swt 9) 11 (Int32.ofNat 914) = 11 := by decide +kernel
theorem w9_915 : am_sf (am_swt 9) 11 (Int32.ofNat 915) = 11 := by decide +kernel
theorem w9_916 : am_sf (am_swt 9) 11 (Int32.ofNat 916) = 11 := by decide +kernel
theorem w9_917 : am_sf (am_swt 9) 11 (Int32.ofNat 917) = 11 := by decide +kernel
theorem w9_918 : am_sf (am_swt 9) 11 (Int32.ofNat 918) = 11 := by decide +kernel
theorem w9_919 : am_sf (am_swt 9) 11 (Int32.ofNat 919) = 11 := by decide +kernel
theorem w9_920 : am_sf (am_swt 9) 11 (Int32.ofNat 920) = 11 := by decide +kernel
theorem w9_921 : am_sf (am_swt 9) 11 (Int32.ofNat 921) = 11 := by decide +kernel
theorem w9_922 : am_sf (am_swt 9) 11 (Int32.ofNat 922) = 11 := by decide +kernel
theorem w9_923 : am_sf (am_swt 9) 11 (Int32.ofNat 923) = 11 := by decide +kernel
theorem w9_924 : am_sf (am_swt 9) 11 (Int32.ofNat 924) = 11 := by decide +kernel
theorem w9_925 : am_sf (am_swt 9) 11 (Int32.ofNat 925) = 11 := by decide +kernel
theorem w9_926 : am_sf (am_swt 9) 11 (Int32.ofNat 926) = 11 := by decide +kernel
theorem w9_927 : am_sf (am_swt 9) 11 (Int32.ofNat 927) = 11 := by decide +kernel
theorem w9_928 : am_sf (am_swt 9) 11 (Int32.ofNat 928) = 11 := by decide +kernel
theorem w9_929 : am_sf (am_swt 9) 11 (Int32.ofNat 929) = 11 := by decide +kernel
theorem w9_930 : am_sf (am_swt 9) 11 (Int32.ofNat 930) = 11 := by decide +kernel
theorem w9_931 : am_sf (am_swt 9) 11 (Int32.ofNat 931) = 11 := by decide +kernel
theorem w9_932 : am_sf (am_swt 9) 11 (Int32.ofNat 932) = 11 := by decide +kernel
theorem w9_933 : am_sf (am_swt 9) 11 (Int32.ofNat 933) = 11 := by decide +kernel
theorem w9_934 : am_sf (am_swt 9) 11 (Int32.ofNat 934) = 11 := by decide +kernel
theorem w9_935 : am_sf (am_swt 9) 11 (Int32.ofNat 935) = 11 := by decide +kernel
theorem w9_936 : am_sf (am_swt 9) 11 (Int32.ofNat 936) = 11 := by decide +kernel
theorem w9_937 : am_sf (am_swt 9) 11 (Int32.ofNat 937) = 11 := by decide +kernel
theorem w9_938 : am_sf (am_swt 9) 11 (Int32.ofNat 938) = 11 := by decide +kernel
theorem w9_939 : am_sf (am_swt 9) 11 (Int32.ofNat 939) = 11 := by decide +kernel
theorem w9_940 : am_sf (am_swt 9) 11 (Int32.ofNat 940) = 11 := by decide +kernel
theorem w9_941 : am_sf (am_swt 9) 11 (Int32.ofNat 941) = 11 := by decide +kernel
theorem w9_942 : am_sf (am_swt 9) 11 (Int32.ofNat 942) = 11 := by decide +kernel
theorem w9_943 : am_sf (am_swt 9) 11 (Int32.ofNat 943) = 11 := by decide +kernel
theorem w9_944 : am_sf (am_swt 9) 11 (Int32.ofNat 944) = 11 := by decide +kernel
theorem w9_945 : am_sf (am_swt 9) 11 (Int32.ofNat 945) = 11 := by decide +kernel
theorem w9_946 : am_sf (am_swt 9) 11 (Int32.ofNat 946) = 11 := by decide +kernel
theorem w9_947 : am_sf (am_swt 9) 11 (Int32.ofNat 947) = 11 := by decide +kernel
theorem w9_948 : am_sf (am_swt 9) 11 (Int32.ofNat 948) = 11 := by decide +kernel
theorem w9_949 : am_sf (am_swt 9) 11 (Int32.ofNat 949) = 11 := by decide +kernel
theorem w9_950 : am_sf (am_swt 9) 11 (Int32.ofNat 950) = 11 := by decide +kernel
theorem w9_951 : am_sf (am_swt 9) 11 (Int32.ofNat 951) = 11 := by decide +kernel
theorem w9_952 : am_sf (am_swt 9) 11 (Int32.ofNat 952) = 11 := by decide +kernel
theorem w9_953 : am_sf (am_swt 9) 11 (Int32.ofNat 953) = 11 := by decide +kernel
theorem w9_954 : am_sf (am_swt 9) 11 (Int32.ofNat 954) = 11 := by decide +kernel
theorem w9_955 : am_sf (am_swt 9) 11 (Int32.ofNat 955) = 11 := by decide +kernel
theorem w9_956 : am_sf (am_swt 9) 11 (Int32.ofNat 956) = 11 := by decide +kernel
theorem w9_957 : am_sf (am_swt 9) 11 (Int32.ofNat 957) = 11 := by decide +kernel
theorem w9_958 : am_sf (am_swt 9) 11 (Int32.ofNat 958) = 11 := by decide +kernel
theorem w9_959 : am_sf (am_swt 9) 11 (Int32.ofNat 959) = 11 := by decide +kernel
theorem w9_960 : am_sf (am_swt 9) 11 (Int32.ofNat 960) = 11 := by decide +kernel
theorem w9_961 : am_sf (am_swt 9) 11 (Int32.ofNat 961) = 11 := by decide +kernel
theorem w9_962 : am_sf (am_swt 9) 11 (Int32.ofNat 962) = 11 := by decide +kernel
theorem w9_963 : am_sf (am_swt 9) 11 (Int32.ofNat 963) = 11 := by decide +kernel
theorem w9_964 : am_sf (am_swt 9) 11 (Int32.ofNat 964) = 11 := by decide +kernel
theorem w9_965 : am_sf (am_swt 9) 11 (Int32.ofNat 965) = 11 := by decide +kernel
theorem w9_966 : am_sf (am_swt 9) 11 (Int32.ofNat 966) = 11 := by decide +kernel
theorem w9_967 : am_sf (am_swt 9) 11 (Int32.ofNat 967) = 11 := by decide +kernel
theorem w9_968 : am_sf (am_swt 9) 11 (Int32.ofNat 968) = 11 := by decide +kernel
theorem w9_969 : am_sf (am_swt 9) 11 (Int32.ofNat 969) = 11 := by decide +kernel
theorem w9_970 : am_sf (am_swt 9) 11 (Int32.ofNat 970) = 11 := by decide +kernel
theorem w9_971 : am_sf (am_swt 9) 11 (Int32.ofNat 971) = 11 := by decide +kernel
theorem w9_972 : am_sf (am_swt 9) 11 (Int32.ofNat 972) = 11 := by decide +kernel
theorem w9_973 : am_sf (am_swt 9) 11 (Int32.ofNat 973) = 11 := by decide +kernel
theorem w9_974 : am_sf (am_swt 9) 11 (Int32.ofNat 974) = 11 := by decide +kernel
theorem w9_975 : am_sf (am_swt 9) 11 (Int32.ofNat 975) = 11 := by decide +kernel
theorem w9_976 : am_sf (am_swt 9) 11 (Int32.ofNat 976) = 11 := by decide +kernel
theorem w9_977 : am_sf (am_swt 9) 11 (Int32.ofNat 977) = 11 := by decide +kernel
theorem w9_978 : am_sf (am_swt 9) 11 (Int32.ofNat 978) = 11 := by decide +kernel
theorem w9_979 : am_sf (am_swt 9) 11 (Int32.ofNat 979) = 11 := by decide +kernel
theorem w9_980 : am_sf (am_swt 9) 11 (Int32.ofNat 980) = 11 := by decide +kernel
theorem w9_981 : am_sf (am_swt 9) 11 (Int32.ofNat 981) = 11 := by decide +kernel
theorem w9_982 : am_sf (am_swt 9) 11 (Int32.ofNat 982) = 11 := by decide +kernel
theorem w9_983 : am_sf (am_swt 9) 11 (Int32.ofNat 983) = 11 := by decide +kernel
theorem w9_984 : am_sf (am_swt 9) 11 (Int32.ofNat 984) = 11 := by decide +kernel
theorem w9_985 : am_sf (am_swt 9) 11 (Int32.ofNat 985) = 11 := by decide +kernel
theorem w9_986 : am_sf (am_swt 9) 11 (Int32.ofNat 986) = 11 := by decide +kernel
theorem w9_987 : am_sf (am_swt 9) 11 (Int32.ofNat 987) = 11 := by decide +kernel
theorem w9_988 : am_sf (am_swt 9) 11 (Int32.ofNat 988) = 11 := by decide +kernel
theorem w9_989 : am_sf (am_swt 9) 11 (Int32.ofNat 989) = 11 := by decide +kernel
theorem w9_990 : am_sf (am_swt 9) 11 (Int32.ofNat 990) = 11 := by decide +kernel
theorem w9_991 : am_sf (am_swt 9) 11 (Int32.ofNat 991) = 11 := by decide +kernel
theorem w9_992 : am_sf (am_swt 9) 11 (Int32.ofNat 992) = 11 := by decide +kernel
theorem w9_993 : am_sf (am_swt 9) 11 (Int32.ofNat 993) = 11 := by decide +kernel
theorem w9_994 : am_sf (am_swt 9) 11 (Int32.ofNat 994) = 11 := by decide +kernel
theorem w9_995 : am_sf (am_swt 9) 11 (Int32.ofNat 995) = 11 := by decide +kernel
theorem w9_996 : am_sf (am_swt 9) 11 (Int32.ofNat 996) = 11 := by decide +kernel
theorem w9_997 : am_sf (am_swt 9) 11 (Int32.ofNat 997) = 11 := by decide +kernel
theorem w9_998 : am_sf (am_swt 9) 11 (Int32.ofNat 998) = 11 := by decide +kernel
theorem w9_999 : am_sf (am_swt 9) 11 (Int32.ofNat 999) = 11 := by decide +kernel
theorem w9_1000 : am_sf (am_swt 9) 11 (Int32.ofNat 1000) = 11 := by decide +kernel
theorem w9_1001 : am_sf (am_swt 9) 11 (Int32.ofNat 1001) = 11 := by decide +kernel
theorem w9_1002 : am_sf (am_swt 9) 11 (Int32.ofNat 1002) = 11 := by decide +kernel
theorem w9_1003 : am_sf (am_swt 9) 11 (Int32.ofNat 1003) = 11 := by decide +kernel
theorem w9_1004 : am_sf (am_swt 9) 11 (Int32.ofNat 1004) = 11 := by decide +kernel
theorem w9_1005 : am_sf (am_swt 9) 11 (Int32.ofNat 1005) = 11 := by decide +kernel
theorem w9_1006 : am_sf (am_swt 9) 11 (Int32.ofNat 1006) = 11 := by decide +kernel
theorem w9_1007 : am_sf (am_swt 9) 11 (Int32.ofNat 1007) = 11 := by decide +kernel
theorem w9_1008 : am_sf (am_swt 9) 11 (Int32.ofNat 1008) = 11 := by decide +kernel
theorem w9_1009 : am_sf (am_swt 9) 11 (Int32.ofNat 1009) = 11 := by decide +kernel
theorem w9_1010 : am_sf (am_swt 9) 11 (Int32.ofNat 1010) = 11 := by decide +kernel
theorem w9_1011 : am_sf (am_swt 9) 11 (Int32.ofNat 1011) = 10 := by decide +kernel
theorem w9_1012 : am_sf (am_swt 9) 11 (Int32.ofNat 1012) = 11 := by decide +kernel
theorem w9_1013 : am_sf (am_swt 9) 11 (Int32.ofNat 1013) = 11 := by decide +kernel
theorem w9_1014 : am_sf (am_swt 9) 11 (Int32.ofNat 1014) = 11 := by decide +kernel
theorem w9_1015 : am_sf (am_swt 9) 11 (Int32.ofNat 1015) = 11 := by decide +kernel
theorem w9_1016 : am_sf (am_swt 9) 11 (Int32.ofNat 1016) = 11 := by decide +kernel
theorem w9_1017 : am_sf (am_swt 9) 11 (Int32.ofNat 1017) = 11 := by decide +kernel
theorem w9_1018 : am_sf (am_swt 9) 11 (Int32.ofNat 1018) = 11 := by decide +kernel
theorem w9_1019 : am_sf (am_swt 9) 11 (Int32.ofNat 1019) = 11 := by decide +kernel
theorem w9_1020 : am_sf (am_swt 9) 11 (Int32.ofNat 1020) = 11 := by decide +kernel
theorem w9_1021 : am_sf (am_swt 9) 11 (Int32.ofNat 1021) = 11 := by decide +kernel
theorem w9_1022 : am_sf (am_swt 9) 11 (Int32.ofNat 1022) = 11 := by decide +kernel
theorem w9_1023 : am_sf (am_swt 9) 11 (Int32.ofNat 1023) = 11 := by decide +kernel
theorem w9_1024 : am_sf (am_swt 9) 11 (Int32.ofNat 1024) = 11 := by decide +kernel
theorem w9_1025 : am_sf (am_swt 9) 11 (Int32.ofNat 1025) = 11 := by decide +kernel
theorem w9_1026 : am_sf (am_swt 9) 11 (Int32.ofNat 1026) = 11 := by decide +kernel
theorem w9_1027 : am_sf (am_swt 9) 11 (Int32.ofNat 1027) = 11 := by decide +kernel
theorem w9_1028 : am_sf (am_swt 9) 11 (Int32.ofNat 1028) = 11 := by decide +kernel
theorem w9_1029 : am_sf (am_swt 9) 11 (Int32.ofNat 1029) = 11 := by decide +kernel
theorem w9_1030 : am_sf (am_swt 9) 11 (Int32.ofNat 1030) = 11 := by decide +kernel
theorem w9_1031 : am_sf (am_swt 9) 11 (Int32.ofNat 1031) = 11 := by decide +kernel
theorem w9_1032 : am_sf (am_swt 9) 11 (Int32.ofNat 1032) = 11 := by decide +kernel
theorem w9_1033 : am_sf (am_swt 9) 11 (Int32.ofNat 1033) = 11 := by decide +kernel
theorem w9_1034 : am_sf (am_swt 9) 11 (Int32.ofNat 1034) = 11 := by decide +kernel
theorem w9_1035 : am_sf (am_swt 9) 11 (Int32.ofNat 1035) = 11 := by decide +kernel
theorem w9_1036 : am_sf (am_swt 9) 11 (Int32.ofNat 1036) = 11 := by decide +kernel
theorem w9_1037 : am_sf (am_swt 9) 11 (Int32.ofNat 1037) = 11 := by decide +kernel
theorem w9_1038 : am_sf (am_swt 9) 11 (Int32.ofNat 1038) = 11 := by decide +kernel
theorem w9_1039 : am_sf (am_swt 9) 11 (Int32.ofNat 1039) = 11 := by decide +kernel
theorem w9_1040 : am_sf (am_swt 9) 11 (Int32.ofNat 1040) = 11 := by decide +kernel
theorem w9_1041 : am_sf (am_swt 9) 11 (Int32.ofNat 1041) = 11 := by decide +kernel
theorem w9_1042 : am_sf (am_swt 9) 11 (Int32.ofNat 1042) = 11 := by decide +kernel
theorem w9_1043 : am_sf (am_swt 9) 11 (Int32.ofNat 1043) = 11 := by decide +kernel
theorem w9_1044 : am_sf (am_swt 9) 11 (Int32.ofNat 1044) = 11 := by decide +kernel
theorem w9_1045 : am_sf (am_swt 9) 11 (Int32.ofNat 1045) = 11 := by decide +kernel
theorem w9_1046 : am_sf (am_swt 9) 11 (Int32.ofNat 1046) = 11 := by decide +kernel
theorem w9_1047 : am_sf (am_swt 9) 11 (Int32.ofNat 1047) = 11 := by decide +kernel
theorem w9_1048 : am_sf (am_swt 9) 11 (Int32.ofNat 1048) = 11 := by decide +kernel
theorem w9_1049 : am_sf (am_swt 9) 11 (Int32.ofNat 1049) = 11 := by decide +kernel
theorem w9_1050 : am_sf (am_swt 9) 11 (Int32.ofNat 1050) = 11 := by decide +kernel
theorem w9_1051 : am_sf (am_swt 9) 11 (Int32.ofNat 1051) = 11 := by decide +kernel
theorem w9_1052 : am_sf (am_swt 9) 11 (Int32.ofNat 1052) = 11 := by decide +kernel
theorem w9_1053 : am_sf (am_swt 9) 11 (Int32.ofNat 1053) = 11 := by decide +kernel
theorem w9_1054 : am_sf (am_swt 9) 11 (Int32.ofNat 1054) = 11 := by decide +kernel
theorem w9_1055 : am_sf (am_swt 9) 11 (Int32.ofNat 1055) = 11 := by decide +kernel
theorem w9_1056 : am_sf (am_swt 9) 11 (Int32.ofNat 1056) = 11 := by decide +kernel
theorem w9_1057 : am_sf (am_swt 9) 11 (Int32.ofNat 1057) = 11 := by decide +kernel
theorem w9_1058 : am_sf (am_swt 9) 11 (Int32.ofNat 1058) = 11 := by decide +kernel
theorem w9_1059 : am_sf (am_swt 9) 11 (Int32.ofNat 1059) = 11 := by decide +kernel
theorem w9_1060 : am_sf (am_swt 9) 11 (Int32.ofNat 1060) = 11 := by decide +kernel
theorem w9_1061 : am_sf (am_swt 9) 11 (Int32.ofNat 1061) = 11 := by decide +kernel
theorem w9_1062 : am_sf (am_swt 9) 11 (Int32.ofNat 1062) = 11 := by decide +kernel
theorem w9_1063 : am_sf (am_swt 9) 11 (Int32.ofNat 1063) = 11 := by decide +kernel
theorem w9_1064 : am_sf (am_swt 9) 11 (Int32.ofNat 1064) = 11 := by decide +kernel
theorem w9_1065 : am_sf (am_swt 9) 11 (Int32.ofNat 1065) = 11 := by decide +kernel
theorem w9_1066 : am_sf (am_swt 9) 11 (Int32.ofNat 1066) = 11 := by decide +kernel
theorem w9_1067 : am_sf (am_swt 9) 11 (Int32.ofNat 1067) = 11 := by decide +kernel
theorem w9_1068 : am_sf (am_swt 9) 11 (Int32.ofNat 1068) = 11 := by decide +kernel
theorem w9_1069 : am_sf (am_swt 9) 11 (Int32.ofNat 1069) = 11 := by decide +kernel
theorem w9_1070 : am_sf (am_swt 9) 11 (Int32.ofNat 1070) = 11 := by decide +kernel
theorem w9_1071 : am_sf (am_swt 9) 11 (Int32.ofNat 1071) = 11 := by decide +kernel
theorem w9_1072 : am_sf (am_swt 9) 11 (Int32.ofNat 1072) = 11 := by decide +kernel
theorem w9_1073 : am_sf (am_swt 9) 11 (Int32.ofNat 1073) = 11 := by decide +kernel
theorem w9_1074 : am_sf (am_swt 9) 11 (Int32.ofNat 1074) = 11 := by decide +kernel
theorem w9_1075 : am_sf (am_swt 9) 11 (Int32.ofNat 1075) = 11 := by decide +kernel
theorem w9_1076 : am_sf (am_swt 9) 11 (Int32.ofNat 1076) = 11 := by decide +kernel
theorem w9_1077 : am_sf (am_swt 9) 11 (Int32.ofNat 1077) = 11 := by decide +kernel
theorem w9_1078 : am_sf (am_swt 9) 11 (Int32.ofNat 1078) = 11 := by decide +kernel
theorem w9_1079 : am_sf (am_swt 9) 11 (Int32.ofNat 1079) = 11 := by decide +kernel
theorem w9_1080 : am_sf (am_swt 9) 11 (Int32.ofNat 1080) = 11 := by decide +kernel
theorem w9_1081 : am_sf (am_swt 9) 11 (Int32.ofNat 1081) = 11 := by decide +kernel
theorem w9_1082 : am_sf (am_swt 9) 11 (Int32.ofNat 1082) = 11 := by decide +kernel
theorem w9_1083 : am_sf (am_swt 9) 11 (Int32.ofNat 1083) = 11 := by decide +kernel
theorem w9_1084 : am_sf (am_swt 9) 11 (Int32.ofNat 1084) = 11 := by decide +kernel
theorem w9_1085 : am_sf (am_swt 9) 11 (Int32.ofNat 1085) = 11 := by decide +kernel
theorem w9_1086 : am_sf (am_swt 9) 11 (Int32.ofNat 1086) = 11 := by decide +kernel
theorem w9_1087 : am_sf (am_swt 9) 11 (Int32.ofNat 1087) = 11 := by decide +kernel
theorem w9_1088 : am_sf (am_swt 9) 11 (Int32.ofNat 1088) = 11 := by decide +kernel
theorem w9_1089 : am_sf (am_swt 9) 11 (Int32.ofNat 1089) = 11 := by decide +kernel
theorem w9_1090 : am_sf (am_swt 9) 11 (Int32.ofNat 1090) = 11 := by decide +kernel
theorem w9_1091 : am_sf (am_swt 9) 11 (Int32.ofNat 1091) = 11 := by decide +kernel
theorem w9_1092 : am_sf (am_swt 9) 11 (Int32.ofNat 1092) = 11 := by decide +kernel
theorem w9_1093 : am_sf (am_swt 9) 11 (Int32.ofNat 1093) = 11 := by decide +kernel
theorem w9_1094 : am_sf (am_swt 9) 11 (Int32.ofNat 1094) = 11 := by decide +kernel
theorem w9_1095 : am_sf (am_swt 9) 11 (Int32.ofNat 1095) = 11 := by decide +kernel
theorem w9_1096 : am_sf (am_swt 9) 11 (Int32.ofNat 1096) = 11 := by decide +kernel
theorem w9_1097 : am_sf (am_swt 9) 11 (Int32.ofNat 1097) = 11 := by decide +kernel
theorem w9_1098 : am_sf (am_swt 9) 11 (Int32.ofNat 1098) = 11 := by decide +kernel
theorem w9_1099 : am_sf (am_swt 9) 11 (Int32.ofNat 1099) = 11 := by decide +kernel
theorem w9_1100 : am_sf (am_swt 9) 11 (Int32.ofNat 1100) = 11 := by decide +kernel
theorem w9_1101 : am_sf (am_swt 9) 11 (Int32.ofNat 1101) = 11 := by decide +kernel
theorem w9_1102 : am_sf (am_swt 9) 11 (Int32.ofNat 1102) = 11 := by decide +kernel
theorem w9_1103 : am_sf (am_swt 9) 11 (Int32.ofNat 1103) = 11 := by decide +kernel
theorem w9_1104 : am_sf (am_swt 9) 11 (Int32.ofNat 1104) = 11 := by decide +kernel
theorem w9_1105 : am_sf (am_swt 9) 11 (Int32.ofNat 1105) = 11 := by decide +kernel
theorem w9_1106 : am_sf (am_swt 9) 11 (Int32.ofNat 1106) = 11 := by decide +kernel
theorem w9_1107 : am_sf (am_swt 9) 11 (Int32.ofNat 1107) = 11 := by decide +kernel
theorem w9_1108 : am_sf (am_swt 9) 11 (Int32.ofNat 1108) = 11 := by decide +kernel
theorem w9_1109 : am_sf (am_swt 9) 11 (Int32.ofNat 1109) = 11 := by decide +kernel
theorem w9_1110 : am_sf (am_swt 9) 11 (Int32.ofNat 1110) = 11 := by decide +kernel
theorem w9_1111 : am_sf (am_swt 9) 11 (Int32.ofNat 1111) = 11 := by decide +kernel
theorem w9_1112 : am_sf (am_swt 9) 11 (Int32.ofNat 1112) = 11 := by decide +kernel
theorem w9_1113 : am_sf (am_swt 9) 11 (Int32.ofNat 1113) = 11 := by decide +kernel
theorem w9_1114 : am_sf (am_swt 9) 11 (Int32.ofNat 1114) = 11 := by decide +kernel
theorem w9_1115 : am_sf (am_swt 9) 11 (Int32.ofNat 1115) = 11 := by decide +kernel
theorem w9_1116 : am_sf (am_swt 9) 11 (Int32.ofNat 1116) = 11 := by decide +kernel
theorem w9_1117 : am_sf (am_swt 9) 11 (Int32.ofNat 1117) = 11 := by decide +kernel
theorem w9_1118 : am_sf (am_swt 9) 11 (Int32.ofNat 1118) = 11 := by decide +kernel
theorem w9_1119 : am_sf (am_swt 9) 11 (Int32.ofNat 1119) = 11 := by decide +kernel
theorem w9_1120 : am_sf (am_swt 9) 11 (Int32.ofNat 1120) = 11 := by decide +kernel
theorem w9_1121 : am_sf (am_swt 9) 11 (Int32.ofNat 1121) = 11 := by decide +kernel
theorem w9_1122 : am_sf (am_swt 9) 11 (Int32.ofNat 1122) = 11 := by decide +kernel
theorem w9_1123 : am_sf (am_swt 9) 11 (Int32.ofNat 1123) = 11 := by decide +kernel
theorem w9_1124 : am_sf (am_swt 9) 11 (Int32.ofNat 1124) = 11 := by decide +kernel
theorem w9_1125 : am_sf (am_swt 9) 11 (Int32.ofNat 1125) = 11 := by decide +kernel
theorem w9_1126 : am_sf (am_swt 9) 11 (Int32.ofNat 1126) = 11 := by decide +kernel
theorem w9_1127 : am_sf (am_swt 9) 11 (Int32.ofNat 1127) = 11 := by decide +kernel
theorem w9_1128 : am_sf (am_swt 9) 11 (Int32.ofNat 1128) = 11 := by decide +kernel
theorem w9_1129 : am_sf (am_swt 9) 11 (Int32.ofNat 1129) = 11 := by decide +kernel
theorem w9_1130 : am_sf (am_swt 9) 11 (Int32.ofNat 1130) = 11 := by decide +kernel
theorem w9_1131 : am_sf (am_swt 9) 11 (Int32.ofNat 1131) = 11 := by decide +kernel
theorem w9_1132 : am_sf (am_swt 9) 11 (Int32.ofNat 1132) = 11 := by decide +kernel
theorem w9_1133 : am_sf (am_swt 9) 11 (Int32.ofNat 1133) = 11 := by decide +kernel
theorem w9_1134 : am_sf (am_swt 9) 11 (Int32.ofNat 1134) = 11 := by decide +kernel
theorem w9_1135 : am_sf (am_swt 9) 11 (Int32.ofNat 1135) = 11 := by decide +kernel
theorem w9_1136 : am_sf (am_swt 9) 11 (Int32.ofNat 1136) = 11 := by decide +kernel
theorem w9_1137 : am_sf (am_swt 9) 11 (Int32.ofNat 1137) = 11 := by decide +kernel
theorem w9_1138 : am_sf (am_swt 9) 11 (Int32.ofNat 1138) = 11 := by decide +kernel
theorem w9_1139 : am_sf (am_swt 9) 11 (Int32.ofNat 1139) = 11 := by decide +kernel
theorem w9_1140 : am_sf (am_swt 9) 11 (Int32.ofNat 1140) = 11 := by decide +kernel
theorem w9_1141 : am_sf (am_swt 9) 11 (Int32.ofNat 1141) = 11 := by decide +kernel
theorem w9_1142 : am_sf (am_swt 9) 11 (Int32.ofNat 1142) = 11 := by decide +kernel
theorem w9_1143 : am_sf (am_swt 9) 11 (Int32.ofNat 1143) = 11 := by decide +kernel
theorem w9_1144 : am_sf (am_swt 9) 11 (Int32.ofNat 1144) = 11 := by decide +kernel
theorem w9_1145 : am_sf (am_swt 9) 11 (Int32.ofNat 1145) = 11 := by decide +kernel
theorem w9_1146 : am_sf (am_swt 9) 11 (Int32.ofNat 1146) = 11 := by decide +kernel
theorem w9_1147 : am_sf (am_swt 9) 11 (Int32.ofNat 1147) = 11 := by decide +kernel
theorem w9_1148 : am_sf (am_swt 9) 11 (Int32.ofNat 1148) = 11 := by decide +kernel
theorem w9_1149 : am_sf (am_swt 9) 11 (Int32.ofNat 1149) = 11 := by decide +kernel
theorem w9_1150 : am_sf (am_swt 9) 11 (Int32.ofNat 1150) = 11 := by decide +kernel
theorem w9_1151 : am_sf (am_swt 9) 11 (Int32.ofNat 1151) = 11 := by decide +kernel
theorem w9_1152 : am_sf (am_swt 9) 11 (Int32.ofNat 1152) = 11 := by decide +kernel
theorem w9_1153 : am_sf (am_swt 9) 11 (Int32.ofNat 1153) = 11 := by decide +kernel
theorem w9_1154 : am_sf (am_swt 9) 11 (Int32.ofNat 1154) = 11 := by decide +kernel
theorem w9_1155 : am_sf (am_swt 9) 11 (Int32.ofNat 1155) = 11 := by decide +kernel
theorem w9_1156 : am_sf (am_swt 9) 11 (Int32.ofNat 1156) = 11 := by decide +kernel
theorem w9_1157 : am_sf (am_swt 9) 11 (Int32.ofNat 1157) = 11 := by decide +kernel
theorem w9_1158 : am_sf (am_swt 9) 11 (Int32.ofNat 1158) = 11 := by decide +kernel
theorem w9_1159 : am_sf (am_swt 9) 11 (Int32.ofNat 1159) = 11 := by decide +kernel
theorem w9_1160 : am_sf (am_swt 9) 11 (Int32.ofNat 1160) = 11 := by decide +kernel
theorem w9_1161 : am_sf (am_swt 9) 11 (Int32.ofNat 1161) = 11 := by decide +kernel
theorem w9_1162 : am_sf (am_swt 9) 11 (Int32.ofNat 1162) = 11 := by decide +kernel
theorem w9_1163 : am_sf (am_swt 9) 11 (Int32.ofNat 1163) = 11 := by decide +kernel
theorem w9_1164 : am_sf (am_swt 9) 11 (Int32.ofNat 1164) = 11 := by decide +kernel
theorem w9_1165 : am_sf (am_swt 9) 11 (Int32.ofNat 1165) = 11 := by decide +kernel
theorem w9_1166 : am_sf (am_swt 9) 11 (Int32.ofNat 1166) = 11 := by decide +kernel
theorem w9_1167 : am_sf (am_swt 9) 11 (Int32.ofNat 1167) = 11 := by decide +kernel
theorem w9_1168 : am_sf (am_swt 9) 11 (Int32.ofNat 1168) = 11 := by decide +kernel
theorem w9_1169 : am_sf (am_swt 9) 11 (Int32.ofNat 1169) = 11 := by decide +kernel
theorem w9_1170 : am_sf (am_swt 9) 11 (Int32.ofNat 1170) = 11 := by decide +kernel
theorem w9_1171 : am_sf (am_swt 9) 11 (Int32.ofNat 1171) = 11 := by decide +kernel
theorem w9_1172 : am_sf (am_swt 9) 11 (Int32.ofNat 1172) = 11 := by decide +kernel
theorem w9_1173 : am_sf (am_swt 9) 11 (Int32.ofNat 1173) = 11 := by decide +kernel
theorem w9_1174 : am_sf (am_swt 9) 11 (Int32.ofNat 1174) = 11 := by decide +kernel
theorem w9_1175 : am_sf (am_swt 9) 11 (Int32.ofNat 1175) = 11 := by decide +kernel
theorem w9_1176 : am_sf (am_swt 9) 11 (Int32.ofNat 1176) = 11 := by decide +kernel
theorem w9_1177 : am_sf (am_swt 9) 11 (Int32.ofNat 1177) = 11 := by decide +kernel
theorem w9_1178 : am_sf (am_swt 9) 11 (Int32.ofNat 1178) = 11 := by decide +kernel
theorem w9_1179 : am_sf (am_swt 9) 11 (Int32.ofNat 1179) = 11 := by decide +kernel
theorem w9_1180 : am_sf (am_swt 9) 11 (Int32.ofNat 1180) = 11 := by decide +kernel
theorem w9_1181 : am_sf (am_swt 9) 11 (Int32.ofNat 1181) = 11 := by decide +kernel
theorem w9_1182 : am_sf (am_swt 9) 11 (Int32.ofNat 1182) = 11 := by decide +kernel
theorem w9_1183 : am_sf (am_swt 9) 11 (Int32.ofNat 1183) = 11 := by decide +kernel
theorem w9_1184 : am_sf (am_swt 9) 11 (Int32.ofNat 1184) = 11 := by decide +kernel
theorem w9_1185 : am_sf (am_swt 9) 11 (Int32.ofNat 1185) = 11 := by decide +kernel
theorem w9_1186 : am_sf (am_swt 9) 11 (Int32.ofNat 1186) = 11 := by decide +kernel
theorem w9_1187 : am_sf (am_swt 9) 11 (Int32.ofNat 1187) = 11 := by decide +kernel
theorem w9_1188 : am_sf (am_swt 9) 11 (Int32.ofNat 1188) = 11 := by decide +kernel
theorem w9_1189 : am_sf (am_swt 9) 11 (Int32.ofNat 1189) = 11 := by decide +kernel
theorem w9_1190 : am_sf (am_swt 9) 11 (Int32.ofNat 1190) = 11 := by decide +kernel
theorem w9_1191 : am_sf (am_swt 9) 11 (Int32.ofNat 1191) = 11 := by decide +kernel
theorem w9_1192 : am_sf (am_swt 9) 11 (Int32.ofNat 1192) = 11 := by decide +kernel
theorem w9_1193 : am_sf (am_swt 9) 11 (Int32.ofNat 1193) = 11 := by decide +kernel
theorem w9_1194 : am_sf (am_swt 9) 11 (Int32.ofNat 1194) = 11 := by decide +kernel
theorem w9_1195 : am_sf (am_swt 9) 11 (Int32.ofNat 1195) = 11 := by decide +kernel
theorem w9_1196 : am_sf (am_swt 9) 11 (Int32.ofNat 1196) = 11 := by decide +kernel
theorem w9_1197 : am_sf (am_swt 9) 11 (Int32.ofNat 1197) = 11 := by decide +kernel
theorem w9_1198 : am_sf (am_swt 9) 11 (Int32.ofNat 1198) = 11 := by decide +kernel
theorem w9_1199 : am_sf (am_swt 9) 11 (Int32.ofNat 1199) = 11 := by decide +kernel
theorem w9_1200 : am_sf (am_swt 9) 11 (Int32.ofNat 1200) = 11 := by decide +kernel
theorem w9_1201 : am_sf (am_swt 9) 11 (Int32.ofNat 1201) = 11 := by decide +kernel
theorem w9_1202 : am_sf (am_swt 9) 11 (Int32.ofNat 1202) = 11 := by decide +kernel
theorem w9_1203 : am_sf (am_swt 9) 11 (Int32.ofNat 1203) = 11 := by decide +kernel
theorem w9_1204 : am_sf (am_swt 9) 11 (Int32.ofNat 1204) = 11 := by decide +kernel
theorem w9_1205 : am_sf (am_swt 9) 11 (Int32.ofNat 1205) = 11 := by decide +kernel
theorem w9_1206 : am_sf (am_swt 9) 11 (Int32.ofNat 1206) = 11 := by decide +kernel
theorem w9_1207 : am_sf (am_swt 9) 11 (Int32.ofNat 1207) = 11 := by decide +kernel
theorem w9_1208 : am_sf (am_swt 9) 11 (Int32.ofNat 1208) = 11 := by decide +kernel
theorem w9_1209 : am_sf (am_swt 9) 11 (Int32.ofNat 1209) = 11 := by decide +kernel
theorem w9_1210 : am_sf (am_swt 9) 11 (Int32.ofNat 1210) = 11 := by decide +kernel
theorem w9_1211 : am_sf (am_swt 9) 11 (Int32.ofNat 1211) = 11 := by decide +kernel
theorem w9_1212 : am_sf (am_swt 9) 11 (Int32.ofNat 1212) = 11 := by decide +kernel
theorem w9_1213 : am_sf (am_swt 9) 11 (Int32.ofNat 1213) = 11 := by decide +kernel
theorem w9_1214 : am_sf (am_swt 9) 11 (Int32.ofNat 1214) = 11 := by decide +kernel
theorem w9_1215 : am_sf (am_swt 9) 11 (Int32.ofNat 1215) = 11 := by decide +kernel
theorem w9_1216 : am_sf (am_swt 9) 11 (Int32.ofNat 1216) = 11 := by decide +kernel
theorem w9_1217 : am_sf (am_swt 9) 11 (Int32.ofNat 1217) = 11 := by decide +kernel
theorem w9_1218 : am_sf (am_swt 9) 11 (Int32.ofNat 1218) = 11 := by decide +kernel
theorem w9_1219 : am_sf (am_swt 9) 11 (Int32.ofNat 1219) = 11 := by decide +kernel
theorem w9_1220 : am_sf (am_swt 9) 11 (Int32.ofNat 1220) = 11 := by decide +kernel
theorem w9_1221 : am_sf (am_swt 9) 11 (Int32.ofNat 1221) = 11 := by decide +kernel
theorem w9_1222 : am_sf (am_swt 9) 11 (Int32.ofNat 1222) = 11 := by decide +kernel
theorem w9_1223 : am_sf (am_swt 9) 11 (Int32.ofNat 1223) = 11 := by decide +kernel
theorem w9_1224 : am_sf (am_swt 9) 11 (Int32.ofNat 1224) = 11 := by decide +kernel
theorem w9_1225 : am_sf (am_swt 9) 11 (Int32.ofNat 1225) = 11 := by decide +kernel
theorem w9_1226 : am_sf (am_swt 9) 11 (Int32.ofNat 1226) = 11 := by decide +kernel
theorem w9_1227 : am_sf (am_swt 9) 11 (Int32.ofNat 1227) = 11 := by decide +kernel
theorem w9_1228 : am_sf (am_swt 9) 11 (Int32.ofNat 1228) = 11 := by decide +kernel
theorem w9_1229 : am_sf (am_swt 9) 11 (Int32.ofNat 1229) = 11 := by decide +kernel
theorem w9_1230 : am_sf (am_swt 9) 11 (Int32.ofNat 1230) = 11 := by decide +kernel
theorem w9_1231 : am_sf (am_swt 9) 11 (Int32.ofNat 1231) = 11 := by decide +kernel
theorem w9_1232 : am_sf (am_swt 9) 11 (Int32.ofNat 1232) = 11 := by decide +kernel
theorem w9_1233 : am_sf (am_swt 9) 11 (Int32.ofNat 1233) = 11 := by decide +kernel
theorem w9_1234 : am_sf (am_swt 9) 11 (Int32.ofNat 1234) = 11 := by decide +kernel
theorem w9_1235 : am_sf (am_swt 9) 11 (Int32.ofNat 1235) = 11 := by decide +kernel
theorem w9_1236 : am_sf (am_swt 9) 11 (Int32.ofNat 1236) = 11 := by decide +kernel
theorem w9_1237 : am_sf (am_swt 9) 11 (Int32.ofNat 1237) = 11 := by decide +kernel
theorem w9_1238 : am_sf (am_swt 9) 11 (Int32.ofNat 1238) = 11 := by decide +kernel
theorem w9_1239 : am_sf (am_swt 9) 11 (Int32.ofNat 1239) = 11 := by decide +kernel
theorem w9_1240 : am_sf (am_swt 9) 11 (Int32.ofNat 1240) = 11 := by decide +kernel
theorem w9_1241 : am_sf (am_swt 9) 11 (Int32.ofNat 1241) = 11 := by decide +kernel
theorem w9_1242 : am_sf (am_swt 9) 11 (Int32.ofNat 1242) = 11 := by decide +kernel
theorem w9_1243 : am_sf (am_swt 9) 11 (Int32.ofNat 1243) = 1 := by decide +kernel
theorem w9_1244 : am_sf (am_swt 9) 11 (Int32.ofNat 1244) = 11 := by decide +kernel
theorem w9_1245 : am_sf (am_swt 9) 11 (Int32.ofNat 1245) = 11 := by decide +kernel
theorem w9_1246 : am_sf (am_swt 9) 11 (Int32.ofNat 1246) = 11 := by decide +kernel
theorem w9_1247 : am_sf (am_swt 9) 11 (Int32.ofNat 1247) = 11 := by decide +kernel
theorem w9_1248 : am_sf (am_swt 9) 11 (Int32.ofNat 1248) = 11 := by decide +kernel
theorem w9_1249 : am_sf (am_swt 9) 11 (Int32.ofNat 1249) = 11 := by decide +kernel
theorem w9_1250 : am_sf (am_swt 9) 11 (Int32.ofNat 1250) = 11 := by decide +kernel
theorem w9_1251 : am_sf (am_swt 9) 11 (Int32.ofNat 1251) = 11 := by decide +kernel
theorem w9_1252 : am_sf (am_swt 9) 11 (Int32.ofNat 1252) = 11 := by decide +kernel
theorem w9_1253 : am_sf (am_swt 9) 11 (Int32.ofNat 1253) = 11 := by decide +kernel
theorem w9_1254 : am_sf (am_swt 9) 11 (Int32.ofNat 1254) = 11 := by decide +kernel
theorem w9_1255 : am_sf (am_swt 9) 11 (Int32.ofNat 1255) = 11 := by decide +kernel
theorem w9_1256 : am_sf (am_swt 9) 11 (Int32.ofNat 1256) = 11 := by decide +kernel
theorem w9_1257 : am_sf (am_swt 9) 11 (Int32.ofNat 1257) = 11 := by decide +kernel
theorem w9_1258 : am_sf (am_swt 9) 11 (Int32.ofNat 1258) = 11 := by decide +kernel
theorem w9_1259 : am_sf (am_swt 9) 11 (Int32.ofNat 1259) = 11 := by decide +kernel
theorem w9_1260 : am_sf (am_swt 9) 11 (Int32.ofNat 1260) = 2 := by decide +kernel
theorem w9_1261 : am_sf (am_swt 9) 11 (Int32.ofNat 1261) = 11 := by decide +kernel
theorem w9_1262 : am_sf (am_swt 9) 11 (Int32.ofNat 1262) = 6 := by decide +kernel
theorem w9_1263 : am_sf (am_swt 9) 11 (Int32.ofNat 1263) = 11 := by decide +kernel
theorem w9_1264 : am_sf (am_swt 9) 11 (Int32.ofNat 1264) = 11 := by decide +kernel
theorem w9_d {x : Int32} (hx : ∀ e ∈ am_swt 9, x ≠ e.1) : am_sf (am_swt 9) 11 x = 11 := am_sf_d _ _ _ hx
theorem w10_0 : am_sf (am_swt 10) 273 (Int32.ofNat 0) = 3 := by decide +kernel
theorem w10_1 : am_sf (am_swt 10) 273 (Int32.ofNat 1) = 5 := by decide +kernel
theorem w10_2 : am_sf (am_swt 10) 273 (Int32.ofNat 2) = 7 := by decide +kernel
theorem w10_3 : am_sf (am_swt 10) 273 (Int32.ofNat 3) = 13 := by decide +kernel
theorem w10_4 : am_sf (am_swt 10) 273 (Int32.ofNat 4) = 19 := by decide +kernel
theorem w10_5 : am_sf (am_swt 10) 273 (Int32.ofNat 5) = 21 := by decide +kernel
theorem w10_6 : am_sf (am_swt 10) 273 (Int32.ofNat 6) = 27 := by decide +kernel
theorem w10_7 : am_sf (am_swt 10) 273 (Int32.ofNat 7) = 33 := by decide +kernel
theorem w10_8 : am_sf (am_swt 10) 273 (Int32.ofNat 8) = 39 := by decide +kernel
theorem w10_9 : am_sf (am_swt 10) 273 (Int32.ofNat 9) = 45 := by decide +kernel
theorem w10_10 : am_sf (am_swt 10) 273 (Int32.ofNat 10) = 51 := by decide +kernel
theorem w10_11 : am_sf (am_swt 10) 273 (Int32.ofNat 11) = 57 := by decide +kernel
theorem w10_12 : am_sf (am_swt 10) 273 (Int32.ofNat 12) = 63 := by decide +kernel
theorem w10_13 : am_sf (am_swt 10) 273 (Int32.ofNat 13) = 69 := by decide +kernel
theorem w10_14 : am_sf (am_swt 10) 273 (Int32.ofNat 14) = 75 := by decide +kernel
theorem w10_15 : am_sf (am_swt 10) 273 (Int32.ofNat 15) = 81 := by decide +kernel
theorem w10_16 : am_sf (am_swt 10) 273 (Int32.ofNat 16) = 87 := by decide +kernel
theorem w10_17 : am_sf (am_swt 10) 273 (Int32.ofNat 17) = 93 := by decide +kernel
theorem w10_18 : am_sf (am_swt 10) 273 (Int32.ofNat 18) = 99 := by decide +kernel
theorem w10_19 : am_sf (am_swt 10) 273 (Int32.ofNat 19) = 105 := by decide +kernel
theorem w10_20 : am_sf (am_swt 10) 273 (Int32.ofNat 20) = 111 := by decide +kernel
theorem w10_21 : am_sf (am_swt 10) 273 (Int32.ofNat 21) = 117 := by decide +kernel
theorem w10_22 : am_sf (am_swt 10) 273 (Int32.ofNat 22) = 123 := by decide +kernel
theorem w10_23 : am_sf (am_swt 10) 273 (Int32.ofNat 23) = 125 := by decide +kernel
theorem w10_24 : am_sf (am_swt 10) 273 (Int32.ofNat 24) = 131 := by decide +kernel
theorem w10_25 : am_sf (am_swt 10) 273 (Int32.ofNat 25) = 137 := by decide +kernel
theorem w10_26 : am_sf (am_swt 10) 273 (Int32.ofNat 26) = 139 := by decide +kernel
theorem w10_27 : am_sf (am_swt 10) 273 (Int32.ofNat 27) = 145 := by decide +kernel
theorem w10_28 : am_sf (am_swt 10) 273 (Int32.ofNat 28) = 151 := by decide +kernel
theorem w10_29 : am_sf (am_swt 10) 273 (Int32.ofNat 29) = 157 := by decide +kernel
theorem w10_30 : am_sf (am_swt 10) 273 (Int32.ofNat 30) = 166 := by decide +kernel
theorem w10_31 : am_sf (am_swt 10) 273 (Int32.ofNat 31) = 168 := by decide +kernel
theorem w10_32 : am_sf (am_swt 10) 273 (Int32.ofNat 32) = 170 := by decide +kernel
theorem w10_33 : am_sf (am_swt 10) 273 (Int32.ofNat 33) = 172 := by decide +kernel
theorem w10_34 : am_sf (am_swt 10) 273 (Int32.ofNat 34) = 184 := by decide +kernel
theorem w10_35 : am_sf (am_swt 10) 273 (Int32.ofNat 35) = 190 := by decide +kernel
theorem w10_36 : am_sf (am_swt 10) 273 (Int32.ofNat 36) = 196 := by decide +kernel
theorem w10_37 : am_sf (am_swt 10) 273 (Int32.ofNat 37) = 202 := by decide +kernel
theorem w10_38 : am_sf (am_swt 10) 273 (Int32.ofNat 38) = 204 := by decide +kernel
theorem w10_39 : am_sf (am_swt 10) 273 (Int32.ofNat 39) = 206 := by decide +kernel
theorem w10_40 : am_sf (am_swt 10) 273 (Int32.ofNat 40) = 208 := by decide +kernel
theorem w10_41 : am_sf (am_swt 10) 273 (Int32.ofNat 41) = 210 := by decide +kernel
theorem w10_42 : am_sf (am_swt 10) 273 (Int32.ofNat 42) = 212 := by decide +kernel
theorem w10_43 : am_sf (am_swt 10) 273 (Int32.ofNat 43) = 214 := by decide +kernel
theorem w10_44 : am_sf (am_swt 10) 273 (Int32.ofNat 44) = 216 := by decide +kernel
theorem w10_45 : am_sf (am_swt 10) 273 (Int32.ofNat 45) = 222 := by decide +kernel
theorem w10_46 : am_sf (am_swt 10) 273 (Int32.ofNat 46) = 234 := by decide +kernel
theorem w10_47 : am_sf (am_swt 10) 273 (Int32.ofNat 47) = 246 := by decide +kernel
theorem w10_48 : am_sf (am_swt 10) 273 (Int32.ofNat 48) = 258 := by decide +kernel
theorem w10_49 : am_sf (am_swt 10) 273 (Int32.ofNat 49) = 264 := by decide +kernel
theorem w10_50 : am_sf (am_swt 10) 273 (Int32.ofNat 50) = 266 := by decide +kernel
theorem w10_51 : am_sf (am_swt 10) 273 (Int32.ofNat 51) = 268 := by decide +kernel
theorem w10_52 : am_sf (am_swt 10) 273 (Int32.ofNat 52) = 269 := by decide +kernel
theorem w10_53 : am_sf (am_swt 10) 273 (Int32.ofNat 53) = 271 := by decide +kernel
theorem w10_54 : am_sf (am_swt 10) 273 (Int32.ofNat 54) = 273 := by decide +kernel
theorem w10_55 : am_sf (am_swt 10) 273 (Int32.ofNat 55) = 273 := by decide +kernel
theorem w10_56 : am_sf (am_swt 10) 273 (Int32.ofNat 56) = 273 := by decide +kernel
theorem w10_57 : am_sf (am_swt 10) 273 (Int32.ofNat 57) = 273 := by decide +kernel
theorem w10_58 : am_sf (am_swt 10) 273 (Int32.ofNat 58) = 273 := by decide +kernel
theorem w10_59 : am_sf (am_swt 10) 273 (Int32.ofNat 59) = 273 := by decide +kernel
theorem w10_60 : am_sf (am_swt 10) 273 (Int32.ofNat 60) = 273 := by decide +kernel
theorem w10_61 : am_sf (am_swt 10) 273 (Int32.ofNat 61) = 273 := by decide +kernel
theorem w10_62 : am_sf (am_swt 10) 273 (Int32.ofNat 62) = 273 := by decide +kernel
theorem w10_63 : am_sf (am_swt 10) 273 (Int32.ofNat 63) = 273 := by decide +kernel
theorem w10_d {x : Int32} (hx : ∀ e ∈ am_swt 10, x ≠ e.1) : am_sf (am_swt 10) 273 x = 273 := am_sf_d _ _ _ hx
theorem am_isS_3 : am_isS 3 := am_stL_ok _ (by decide)
theorem am_isS_25 : am_isS 25 := am_stL_ok _ (by decide)
theorem am_isS_47 : am_isS 47 := am_stL_ok _ (by decide)
