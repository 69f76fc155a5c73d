theorem am_mts {n : Nat} (h : ∀ j, j < n → j ≠ qW_law_ → am_mt j) (hn : n ≠ qW_law_ → am_mt n) : ∀ j, j < n + 1 → j ≠ qW_law_ → am_mt j := fun j hj hne => by
  rcases Nat.lt_or_ge j n with q | q
  · exact h j q hne
  · have : j = n := by omega
    subst this
    exact hn hne
theorem mtn_0 : ∀ j, j < 0 → j ≠ qW_law_ → am_mt j := fun _ h => absurd h (Nat.not_lt_zero _)
theorem mtF_feed : am_mt 0 := ⟨by decide, rfl, rfl, GF_feed, Or.inl ⟨rfl, rfl⟩⟩
theorem mtn_1 : ∀ j, j < 1 → j ≠ qW_law_ → am_mt j := am_mts mtn_0 (fun _ => mtF_feed)
theorem mtF_end : am_mt 1 := ⟨by decide, rfl, rfl, GF_end, Or.inl ⟨rfl, rfl⟩⟩
theorem mtn_2 : ∀ j, j < 2 → j ≠ qW_law_ → am_mt j := am_mts mtn_1 (fun _ => mtF_end)
theorem mtF_parish : am_mt 2 := ⟨by decide, rfl, rfl, GF_parish, Or.inl ⟨rfl, rfl⟩⟩
theorem mtn_3 : ∀ j, j < 3 → j ≠ qW_law_ → am_mt j := am_mts mtn_2 (fun _ => mtF_parish)
theorem mtF_law : am_mt 3 := ⟨by decide, rfl, rfl, GF_law, Or.inl ⟨rfl, rfl⟩⟩
theorem mtn_4 : ∀ j, j < 4 → j ≠ qW_law_ → am_mt j := am_mts mtn_3 (fun _ => mtF_law)
theorem mtF_fault : am_mt 4 := ⟨by decide, rfl, rfl, GF_fault, Or.inl ⟨rfl, rfl⟩⟩
theorem mtn_5 : ∀ j, j < 5 → j ≠ qW_law_ → am_mt j := am_mts mtn_4 (fun _ => mtF_fault)
theorem mtF_thing : am_mt 5 := ⟨by decide, rfl, rfl, GF_thing, Or.inl ⟨rfl, rfl⟩⟩
theorem mtn_6 : ∀ j, j < 6 → j ≠ qW_law_ → am_mt j := am_mts mtn_5 (fun _ => mtF_thing)
theorem mtF_child : am_mt 6 := ⟨by decide, rfl, rfl, GF_child, Or.inl ⟨rfl, rfl⟩⟩
theorem mtn_7 : ∀ j, j < 7 → j ≠ qW_law_ → am_mt j := am_mts mtn_6 (fun _ => mtF_child)
theorem mtF_months : am_mt 7 := ⟨by decide, rfl, rfl, GF_months, Or.inl ⟨rfl, rfl⟩⟩
theorem mtn_8 : ∀ j, j < 8 → j ≠ qW_law_ → am_mt j := am_mts mtn_7 (fun _ => mtF_months)
theorem mtF_birth : am_mt 8 := ⟨by decide, rfl, rfl, GF_birth, Or.inl ⟨rfl, rfl⟩⟩
theorem mtn_9 : ∀ j, j < 9 → j ≠ qW_law_ → am_mt j := am_mts mtn_8 (fun _ => mtF_birth)
theorem mtF_move : am_mt 9 := ⟨by decide, rfl, rfl, GF_move, Or.inl ⟨rfl, rfl⟩⟩
theorem mtn_10 : ∀ j, j < 10 → j ≠ qW_law_ → am_mt j := am_mts mtn_9 (fun _ => mtF_move)
theorem mtF_blow : am_mt 10 := ⟨by decide, rfl, rfl, GF_blow, Or.inl ⟨rfl, rfl⟩⟩
theorem mtn_11 : ∀ j, j < 11 → j ≠ qW_law_ → am_mt j := am_mts mtn_10 (fun _ => mtF_blow)
theorem mtF_wish : am_mt 11 := ⟨by decide, rfl, rfl, GF_wish, Or.inl ⟨rfl, rfl⟩⟩
theorem mtn_12 : ∀ j, j < 12 → j ≠ qW_law_ → am_mt j := am_mts mtn_11 (fun _ => mtF_wish)
theorem mtF_grip : am_mt 12 := ⟨by decide, rfl, rfl, GF_grip, Or.inl ⟨rfl, rfl⟩⟩
theorem mtn_13 : ∀ j, j < 13 → j ≠ qW_law_ → am_mt j := am_mts mtn_12 (fun _ => mtF_grip)
theorem mtF_change : am_mt 13 := ⟨by decide, rfl, rfl, GF_change, Or.inl ⟨rfl, rfl⟩⟩
theorem mtn_14 : ∀ j, j < 14 → j ≠ qW_law_ → am_mt j := am_mts mtn_13 (fun _ => mtF_change)
theorem mtF_cut : am_mt 14 := ⟨by decide, rfl, rfl, GF_cut, Or.inl ⟨rfl, rfl⟩⟩
theorem mtn_15 : ∀ j, j < 15 → j ≠ qW_law_ → am_mt j := am_mts mtn_14 (fun _ => mtF_cut)
theorem mtF_moves : am_mt 15 := ⟨by decide, rfl, rfl, GF_moves, Or.inl ⟨rfl, rfl⟩⟩
theorem mtn_16 : ∀ j, j < 16 → j ≠ qW_law_ → am_mt j := am_mts mtn_15 (fun _ => mtF_moves)
theorem mtF_first : am_mt 16 := ⟨by decide, rfl, rfl, GF_first, Or.inl ⟨rfl, rfl⟩⟩
theorem mtn_17 : ∀ j, j < 17 → j ≠ qW_law_ → am_mt j := am_mts mtn_16 (fun _ => mtF_first)
theorem mtF_can : am_mt 17 := ⟨by decide, rfl, rfl, GF_can, Or.inl ⟨rfl, rfl⟩⟩
theorem mtn_18 : ∀ j, j < 18 → j ≠ qW_law_ → am_mt j := am_mts mtn_17 (fun _ => mtF_can)
theorem mtF_feels : am_mt 18 := ⟨by decide, rfl, rfl, GF_feels, Or.inl ⟨rfl, rfl⟩⟩
theorem mtn_19 : ∀ j, j < 19 → j ≠ qW_law_ → am_mt j := am_mts mtn_18 (fun _ => mtF_feels)
theorem mtF_odds : am_mt 19 := ⟨by decide, rfl, rfl, GF_odds, Or.inl ⟨rfl, rfl⟩⟩
theorem mtn_20 : ∀ j, j < 20 → j ≠ qW_law_ → am_mt j := am_mts mtn_19 (fun _ => mtF_odds)
theorem mtF_ask : am_mt 20 := ⟨by decide, rfl, rfl, GF_ask, Or.inl ⟨rfl, rfl⟩⟩
theorem mtn_21 : ∀ j, j < 21 → j ≠ qW_law_ → am_mt j := am_mts mtn_20 (fun _ => mtF_ask)
theorem mtF_waits : am_mt 21 := ⟨by decide, rfl, rfl, GF_waits, Or.inl ⟨rfl, rfl⟩⟩
theorem mtn_22 : ∀ j, j < 22 → j ≠ qW_law_ → am_mt j := am_mts mtn_21 (fun _ => mtF_waits)
theorem mtF_next : am_mt 22 := ⟨by decide, rfl, rfl, GF_next, Or.inl ⟨rfl, rfl⟩⟩
theorem mtn_23 : ∀ j, j < 23 → j ≠ qW_law_ → am_mt j := am_mts mtn_22 (fun _ => mtF_next)
theorem mtF_keep : am_mt 23 := ⟨by decide, rfl, rfl, GF_keep, Or.inl ⟨rfl, rfl⟩⟩
theorem mtn_24 : ∀ j, j < 24 → j ≠ qW_law_ → am_mt j := am_mts mtn_23 (fun _ => mtF_keep)
theorem mtF_fates : am_mt 24 := ⟨by decide, rfl, rfl, GF_fates, Or.inl ⟨rfl, rfl⟩⟩
theorem mtn_25 : ∀ j, j < 25 → j ≠ qW_law_ → am_mt j := am_mts mtn_24 (fun _ => mtF_fates)
theorem mtF_last : am_mt 25 := ⟨by decide, rfl, rfl, GF_last, Or.inl ⟨rfl, rfl⟩⟩
theorem mtn_26 : ∀ j, j < 26 → j ≠ qW_law_ → am_mt j := am_mts mtn_25 (fun _ => mtF_last)
theorem mtF_gives : am_mt 26 := ⟨by decide, rfl, rfl, GF_gives, Or.inl ⟨rfl, rfl⟩⟩
theorem mtn_27 : ∀ j, j < 27 → j ≠ qW_law_ → am_mt j := am_mts mtn_26 (fun _ => mtF_gives)
theorem mtF_trade : am_mt 27 := ⟨by decide, rfl, rfl, GF_trade, Or.inl ⟨rfl, rfl⟩⟩
theorem mtn_28 : ∀ j, j < 28 → j ≠ qW_law_ → am_mt j := am_mts mtn_27 (fun _ => mtF_trade)
theorem mtF_ring : am_mt 28 := ⟨by decide, rfl, rfl, GF_ring, Or.inl ⟨rfl, rfl⟩⟩
theorem mtn_29 : ∀ j, j < 29 → j ≠ qW_law_ → am_mt j := am_mts mtn_28 (fun _ => mtF_ring)
theorem mtF_swap : am_mt 29 := ⟨by decide, rfl, rfl, GF_swap, Or.inl ⟨rfl, rfl⟩⟩
theorem mtn_30 : ∀ j, j < 30 → j ≠ qW_law_ → am_mt j := am_mts mtn_29 (fun _ => mtF_swap)
theorem mtF_all : am_mt 30 := ⟨by decide, rfl, rfl, GF_all, Or.inl ⟨rfl, rfl⟩⟩
theorem mtn_31 : ∀ j, j < 31 → j ≠ qW_law_ → am_mt j := am_mts mtn_30 (fun _ => mtF_all)
theorem mtF_missing : am_mt 31 := ⟨by decide, rfl, rfl, GF_missing, Or.inl ⟨rfl, rfl⟩⟩
theorem mtn_32 : ∀ j, j < 32 → j ≠ qW_law_ → am_mt j := am_mts mtn_31 (fun _ => mtF_missing)
theorem mtF_nobody : am_mt 32 := ⟨by decide, rfl, rfl, GF_nobody, Or.inl ⟨rfl, rfl⟩⟩
theorem mtn_33 : ∀ j, j < 33 → j ≠ qW_law_ → am_mt j := am_mts mtn_32 (fun _ => mtF_nobody)
theorem mtF_rules : am_mt 33 := ⟨by decide, rfl, rfl, GF_rules, Or.inl ⟨rfl, rfl⟩⟩
theorem mtn_34 : ∀ j, j < 34 → j ≠ qW_law_ → am_mt j := am_mts mtn_33 (fun _ => mtF_rules)
theorem mtF_tell : am_mt 34 := ⟨by decide, rfl, rfl, GF_tell, Or.inl ⟨rfl, rfl⟩⟩
theorem mtn_35 : ∀ j, j < 35 → j ≠ qW_law_ → am_mt j := am_mts mtn_34 (fun _ => mtF_tell)
theorem mtF_rests : am_mt 35 := ⟨by decide, rfl, rfl, GF_rests, Or.inl ⟨rfl, rfl⟩⟩
theorem mtn_36 : ∀ j, j < 36 → j ≠ qW_law_ → am_mt j := am_mts mtn_35 (fun _ => mtF_rests)
theorem mtF_nothing : am_mt 36 := ⟨by decide, rfl, rfl, GF_nothing, Or.inl ⟨rfl, rfl⟩⟩
theorem mtn_37 : ∀ j, j < 37 → j ≠ qW_law_ → am_mt j := am_mts mtn_36 (fun _ => mtF_nothing)
theorem mtF_shut : am_mt 37 := ⟨by decide, rfl, rfl, GF_shut, Or.inl ⟨rfl, rfl⟩⟩
theorem mtn_38 : ∀ j, j < 38 → j ≠ qW_law_ → am_mt j := am_mts mtn_37 (fun _ => mtF_shut)
theorem mtF_open : am_mt 38 := ⟨by decide, rfl, rfl, GF_open, Or.inl ⟨rfl, rfl⟩⟩
theorem mtn_39 : ∀ j, j < 39 → j ≠ qW_law_ → am_mt j := am_mts mtn_38 (fun _ => mtF_open)
theorem mtF_knotted : am_mt 39 := ⟨by decide, rfl, rfl, GF_knotted, Or.inl ⟨rfl, rfl⟩⟩
theorem mtn_40 : ∀ j, j < 40 → j ≠ qW_law_ → am_mt j := am_mts mtn_39 (fun _ => mtF_knotted)
theorem mtF_content : am_mt 40 := ⟨by decide, rfl, rfl, GF_content, Or.inl ⟨rfl, rfl⟩⟩
theorem mtn_41 : ∀ j, j < 41 → j ≠ qW_law_ → am_mt j := am_mts mtn_40 (fun _ => mtF_content)
theorem mtF_richest : am_mt 41 := ⟨by decide, rfl, rfl, GF_richest, Or.inl ⟨rfl, rfl⟩⟩
theorem mtn_42 : ∀ j, j < 42 → j ≠ qW_law_ → am_mt j := am_mts mtn_41 (fun _ => mtF_richest)
theorem mtF_oldest : am_mt 42 := ⟨by decide, rfl, rfl, GF_oldest, Or.inl ⟨rfl, rfl⟩⟩
theorem mtn_43 : ∀ j, j < 43 → j ≠ qW_law_ → am_mt j := am_mts mtn_42 (fun _ => mtF_oldest)
theorem mtF_twins : am_mt 43 := ⟨by decide, rfl, rfl, GF_twins, Or.inl ⟨rfl, rfl⟩⟩
theorem mtn_44 : ∀ j, j < 44 → j ≠ qW_law_ → am_mt j := am_mts mtn_43 (fun _ => mtF_twins)
theorem mtF_ahead : am_mt 44 := ⟨by decide, rfl, rfl, GF_ahead, Or.inl ⟨rfl, rfl⟩⟩
theorem mtn_45 : ∀ j, j < 45 → j ≠ qW_law_ → am_mt j := am_mts mtn_44 (fun _ => mtF_ahead)
theorem mtF_trial : am_mt 45 := ⟨by decide, rfl, rfl, GF_trial, Or.inl ⟨rfl, rfl⟩⟩
theorem mtn_46 : ∀ j, j < 46 → j ≠ qW_law_ → am_mt j := am_mts mtn_45 (fun _ => mtF_trial)
theorem mtF_span : am_mt 46 := ⟨by decide, rfl, rfl, GF_span, Or.inl ⟨rfl, rfl⟩⟩
theorem mtn_47 : ∀ j, j < 47 → j ≠ qW_law_ → am_mt j := am_mts mtn_46 (fun _ => mtF_span)
theorem mtF_led : am_mt 47 := ⟨by decide, rfl, rfl, GF_led, Or.inl ⟨rfl, rfl⟩⟩
theorem mtn_48 : ∀ j, j < 48 → j ≠ qW_law_ → am_mt j := am_mts mtn_47 (fun _ => mtF_led)
theorem mtF_log : am_mt 48 := ⟨by decide, rfl, rfl, GF_log, Or.inl ⟨rfl, rfl⟩⟩
theorem mtn_49 : ∀ j, j < 49 → j ≠ qW_law_ → am_mt j := am_mts mtn_48 (fun _ => mtF_log)
theorem mtF_seed : am_mt 49 := ⟨by decide, rfl, rfl, GF_seed, Or.inl ⟨rfl, rfl⟩⟩
theorem mtn_50 : ∀ j, j < 50 → j ≠ qW_law_ → am_mt j := am_mts mtn_49 (fun _ => mtF_seed)
theorem mtF_undo : am_mt 50 := ⟨by decide, rfl, rfl, GF_undo, Or.inl ⟨rfl, rfl⟩⟩
theorem mtn_51 : ∀ j, j < 51 → j ≠ qW_law_ → am_mt j := am_mts mtn_50 (fun _ => mtF_undo)
theorem mtF_image : am_mt 51 := ⟨by decide, rfl, rfl, GF_image, Or.inl ⟨rfl, rfl⟩⟩
theorem mtn_52 : ∀ j, j < 52 → j ≠ qW_law_ → am_mt j := am_mts mtn_51 (fun _ => mtF_image)
theorem mtF_back : am_mt 52 := ⟨by decide, rfl, rfl, GF_back, Or.inl ⟨rfl, rfl⟩⟩
theorem mtn_53 : ∀ j, j < 53 → j ≠ qW_law_ → am_mt j := am_mts mtn_52 (fun _ => mtF_back)
theorem mtF_count : am_mt 53 := ⟨by decide, rfl, rfl, GF_count, Or.inl ⟨rfl, rfl⟩⟩
theorem mtn_54 : ∀ j, j < 54 → j ≠ qW_law_ → am_mt j := am_mts mtn_53 (fun _ => mtF_count)
theorem mtF_needChild : am_mt 54 := ⟨by decide, rfl, rfl, GF_needChild, Or.inl ⟨rfl, rfl⟩⟩
theorem mtn_55 : ∀ j, j < 55 → j ≠ qW_law_ → am_mt j := am_mts mtn_54 (fun _ => mtF_needChild)
theorem mtF_needTwo : am_mt 55 := ⟨by decide, rfl, rfl, GF_needTwo, Or.inl ⟨rfl, rfl⟩⟩
theorem mtn_56 : ∀ j, j < 56 → j ≠ qW_law_ → am_mt j := am_mts mtn_55 (fun _ => mtF_needTwo)
theorem mtF_needThing : am_mt 56 := ⟨by decide, rfl, rfl, GF_needThing, Or.inl ⟨rfl, rfl⟩⟩
theorem mtn_57 : ∀ j, j < 57 → j ≠ qW_law_ → am_mt j := am_mts mtn_56 (fun _ => mtF_needThing)
theorem mtF_needAhead : am_mt 57 := ⟨by decide, rfl, rfl, GF_needAhead, Or.inl ⟨rfl, rfl⟩⟩
theorem mtn_58 : ∀ j, j < 58 → j ≠ qW_law_ → am_mt j := am_mts mtn_57 (fun _ => mtF_needAhead)
theorem mtF_takeFeels : am_mt 58 := ⟨by decide, rfl, rfl, GF_takeFeels, Or.inl ⟨rfl, rfl⟩⟩
theorem mtn_59 : ∀ j, j < 59 → j ≠ qW_law_ → am_mt j := am_mts mtn_58 (fun _ => mtF_takeFeels)
theorem mtF_needFeels : am_mt 59 := ⟨by decide, rfl, rfl, GF_needFeels, Or.inl ⟨rfl, rfl⟩⟩
theorem mtn_60 : ∀ j, j < 60 → j ≠ qW_law_ → am_mt j := am_mts mtn_59 (fun _ => mtF_needFeels)
theorem mtF_needLives : am_mt 60 := ⟨by decide, rfl, rfl, GF_needLives, Or.inl ⟨rfl, rfl⟩⟩
theorem mtn_61 : ∀ j, j < 61 → j ≠ qW_law_ → am_mt j := am_mts mtn_60 (fun _ => mtF_needLives)
theorem mtF_tellFact : am_mt 61 := ⟨by decide, rfl, rfl, GF_tellFact, Or.inl ⟨rfl, rfl⟩⟩
theorem mtn_62 : ∀ j, j < 62 → j ≠ qW_law_ → am_mt j := am_mts mtn_61 (fun _ => mtF_tellFact)
theorem mtF_goAhead : am_mt 62 := ⟨by decide, rfl, rfl, GF_goAhead, Or.inl ⟨rfl, rfl⟩⟩
theorem mtn_63 : ∀ j, j < 63 → j ≠ qW_law_ → am_mt j := am_mts mtn_62 (fun _ => mtF_goAhead)
theorem mtF_tryMonths : am_mt 63 := ⟨by decide, rfl, rfl, GF_tryMonths, Or.inl ⟨rfl, rfl⟩⟩
theorem mtn_64 : ∀ j, j < 64 → j ≠ qW_law_ → am_mt j := am_mts mtn_63 (fun _ => mtF_tryMonths)
theorem mtF_leastOf : am_mt 64 := ⟨by decide, rfl, rfl, GF_leastOf, Or.inl ⟨rfl, rfl⟩⟩
theorem mtn_65 : ∀ j, j < 65 → j ≠ qW_law_ → am_mt j := am_mts mtn_64 (fun _ => mtF_leastOf)
theorem mtF_restingChoices : am_mt 65 := ⟨by decide, rfl, rfl, GF_restingChoices, Or.inl ⟨rfl, rfl⟩⟩
theorem mtn_66 : ∀ j, j < 66 → j ≠ qW_law_ → am_mt j := am_mts mtn_65 (fun _ => mtF_restingChoices)
theorem mtF_familyGain : am_mt 66 := ⟨by decide, rfl, rfl, GF_familyGain, Or.inl ⟨rfl, rfl⟩⟩
theorem mtn_67 : ∀ j, j < 67 → j ≠ qW_law_ → am_mt j := am_mts mtn_66 (fun _ => mtF_familyGain)
theorem mtF_childGain : am_mt 67 := ⟨by decide, rfl, rfl, GF_childGain, Or.inl ⟨rfl, rfl⟩⟩
theorem mtn_68 : ∀ j, j < 68 → j ≠ qW_law_ → am_mt j := am_mts mtn_67 (fun _ => mtF_childGain)
theorem mtR_thrown : am_mt 68 := ⟨by decide, rfl, rfl, GR_thrown, Or.inl ⟨rfl, rfl⟩⟩
theorem mtn_69 : ∀ j, j < 69 → j ≠ qW_law_ → am_mt j := am_mts mtn_68 (fun _ => mtR_thrown)
theorem mtR_throwsIf : am_mt 69 := ⟨by decide, rfl, rfl, GR_throwsIf, Or.inl ⟨rfl, rfl⟩⟩
theorem mtn_70 : ∀ j, j < 70 → j ≠ qW_law_ → am_mt j := am_mts mtn_69 (fun _ => mtR_throwsIf)
theorem mtR_in : am_mt 70 := ⟨by decide, rfl, rfl, GR_in, Or.inl ⟨rfl, rfl⟩⟩
theorem mtn_71 : ∀ j, j < 71 → j ≠ qW_law_ → am_mt j := am_mts mtn_70 (fun _ => mtR_in)
theorem mtR_has : am_mt 71 := ⟨by decide, rfl, rfl, GR_has, Or.inl ⟨rfl, rfl⟩⟩
theorem mtn_72 : ∀ j, j < 72 → j ≠ qW_law_ → am_mt j := am_mts mtn_71 (fun _ => mtR_has)
theorem mtR_image : am_mt 72 := ⟨by decide, rfl, rfl, GR_image, Or.inl ⟨rfl, rfl⟩⟩
theorem mtn_73 : ∀ j, j < 73 → j ≠ qW_law_ → am_mt j := am_mts mtn_72 (fun _ => mtR_image)
theorem mtR_back : am_mt 73 := ⟨by decide, rfl, rfl, GR_back, Or.inl ⟨rfl, rfl⟩⟩
theorem mtn_74 : ∀ j, j < 74 → j ≠ qW_law_ → am_mt j := am_mts mtn_73 (fun _ => mtR_back)
theorem mtR_remembers : am_mt 74 := ⟨by decide, rfl, rfl, GR_remembers, Or.inl ⟨rfl, rfl⟩⟩
theorem mtn_75 : ∀ j, j < 75 → j ≠ qW_law_ → am_mt j := am_mts mtn_74 (fun _ => mtR_remembers)
theorem mtR_undo : am_mt 75 := ⟨by decide, rfl, rfl, GR_undo, Or.inl ⟨rfl, rfl⟩⟩
theorem mtn_76 : ∀ j, j < 76 → j ≠ qW_law_ → am_mt j := am_mts mtn_75 (fun _ => mtR_undo)
theorem mtR_children : am_mt 76 := ⟨by decide, rfl, rfl, GR_children, Or.inl ⟨rfl, rfl⟩⟩
theorem mtn_77 : ∀ j, j < 77 → j ≠ qW_law_ → am_mt j := am_mts mtn_76 (fun _ => mtR_children)
theorem mtR_thingAt : am_mt 77 := ⟨by decide, rfl, rfl, GR_thingAt, Or.inl ⟨rfl, rfl⟩⟩
theorem mtn_78 : ∀ j, j < 78 → j ≠ qW_law_ → am_mt j := am_mts mtn_77 (fun _ => mtR_thingAt)
theorem mtR_ofThing : am_mt 78 := ⟨by decide, rfl, rfl, GR_ofThing, Or.inl ⟨rfl, rfl⟩⟩
theorem mtn_79 : ∀ j, j < 79 → j ≠ qW_law_ → am_mt j := am_mts mtn_78 (fun _ => mtR_ofThing)
theorem mtR_at : am_mt 79 := ⟨by decide, rfl, rfl, GR_at, Or.inl ⟨rfl, rfl⟩⟩
theorem mtn_80 : ∀ j, j < 80 → j ≠ qW_law_ → am_mt j := am_mts mtn_79 (fun _ => mtR_at)
theorem mtR_of : am_mt 80 := ⟨by decide, rfl, rfl, GR_of, Or.inl ⟨rfl, rfl⟩⟩
theorem mtn_81 : ∀ j, j < 81 → j ≠ qW_law_ → am_mt j := am_mts mtn_80 (fun _ => mtR_of)
theorem mtR_isOpened : am_mt 81 := ⟨by decide, rfl, rfl, GR_isOpened, Or.inl ⟨rfl, rfl⟩⟩
theorem mtn_82 : ∀ j, j < 82 → j ≠ qW_law_ → am_mt j := am_mts mtn_81 (fun _ => mtR_isOpened)
theorem mtR_hasKnot : am_mt 82 := ⟨by decide, rfl, rfl, GR_hasKnot, Or.inl ⟨rfl, rfl⟩⟩
theorem mtn_83 : ∀ j, j < 83 → j ≠ qW_law_ → am_mt j := am_mts mtn_82 (fun _ => mtR_hasKnot)
theorem mtR_keeps : am_mt 83 := ⟨by decide, rfl, rfl, GR_keeps, Or.inl ⟨rfl, rfl⟩⟩
theorem mtn_84 : ∀ j, j < 84 → j ≠ qW_law_ → am_mt j := am_mts mtn_83 (fun _ => mtR_keeps)
theorem mtR_weightOf : am_mt 84 := ⟨by decide, rfl, rfl, GR_weightOf, Or.inl ⟨rfl, rfl⟩⟩
theorem mtn_85 : ∀ j, j < 85 → j ≠ qW_law_ → am_mt j := am_mts mtn_84 (fun _ => mtR_weightOf)
theorem mtR_noChild : am_mt 85 := ⟨by decide, rfl, rfl, GR_noChild, Or.inl ⟨rfl, rfl⟩⟩
theorem mtn_86 : ∀ j, j < 86 → j ≠ qW_law_ → am_mt j := am_mts mtn_85 (fun _ => mtR_noChild)
theorem mtR_noThing : am_mt 86 := ⟨by decide, rfl, rfl, GR_noThing, Or.inl ⟨rfl, rfl⟩⟩
theorem mtn_87 : ∀ j, j < 87 → j ≠ qW_law_ → am_mt j := am_mts mtn_86 (fun _ => mtR_noThing)
theorem mtR_drawn : am_mt 87 := ⟨by decide, rfl, rfl, GR_drawn, Or.inl ⟨rfl, rfl⟩⟩
theorem mtn_88 : ∀ j, j < 88 → j ≠ qW_law_ → am_mt j := am_mts mtn_87 (fun _ => mtR_drawn)
theorem mtR_feed : am_mt 88 := ⟨by decide, rfl, rfl, GR_feed, Or.inl ⟨rfl, rfl⟩⟩
theorem mtn_89 : ∀ j, j < 89 → j ≠ qW_law_ → am_mt j := am_mts mtn_88 (fun _ => mtR_feed)
theorem mtR_end : am_mt 89 := ⟨by decide, rfl, rfl, GR_end, Or.inl ⟨rfl, rfl⟩⟩
theorem mtn_90 : ∀ j, j < 90 → j ≠ qW_law_ → am_mt j := am_mts mtn_89 (fun _ => mtR_end)
theorem mtR_isAt : am_mt 90 := ⟨by decide, rfl, rfl, GR_isAt, Or.inl ⟨rfl, rfl⟩⟩
theorem mtn_91 : ∀ j, j < 91 → j ≠ qW_law_ → am_mt j := am_mts mtn_90 (fun _ => mtR_isAt)
theorem mtR_blanks : am_mt 91 := ⟨by decide, rfl, rfl, GR_blanks, Or.inl ⟨rfl, rfl⟩⟩
theorem mtn_92 : ∀ j, j < 92 → j ≠ qW_law_ → am_mt j := am_mts mtn_91 (fun _ => mtR_blanks)
theorem mtR_letters : am_mt 92 := ⟨by decide, rfl, rfl, GR_letters, Or.inl ⟨rfl, rfl⟩⟩
theorem mtn_93 : ∀ j, j < 93 → j ≠ qW_law_ → am_mt j := am_mts mtn_92 (fun _ => mtR_letters)
theorem mtR_isWord : am_mt 93 := ⟨by decide, rfl, rfl, GR_isWord, Or.inl ⟨rfl, rfl⟩⟩
theorem mtn_94 : ∀ j, j < 94 → j ≠ qW_law_ → am_mt j := am_mts mtn_93 (fun _ => mtR_isWord)
theorem mtR_passes : am_mt 94 := ⟨by decide, rfl, rfl, GR_passes, Or.inl ⟨rfl, rfl⟩⟩
theorem mtn_95 : ∀ j, j < 95 → j ≠ qW_law_ → am_mt j := am_mts mtn_94 (fun _ => mtR_passes)
theorem mtR_sign : am_mt 95 := ⟨by decide, rfl, rfl, GR_sign, Or.inl ⟨rfl, rfl⟩⟩
theorem mtn_96 : ∀ j, j < 96 → j ≠ qW_law_ → am_mt j := am_mts mtn_95 (fun _ => mtR_sign)
theorem mtR_number : am_mt 96 := ⟨by decide, rfl, rfl, GR_number, Or.inl ⟨rfl, rfl⟩⟩
theorem mtn_97 : ∀ j, j < 97 → j ≠ qW_law_ → am_mt j := am_mts mtn_96 (fun _ => mtR_number)
theorem mtR_after : am_mt 97 := ⟨by decide, rfl, rfl, GR_after, Or.inl ⟨rfl, rfl⟩⟩
theorem mtn_98 : ∀ j, j < 98 → j ≠ qW_law_ → am_mt j := am_mts mtn_97 (fun _ => mtR_after)
theorem mtR_told : am_mt 98 := ⟨by decide, rfl, rfl, GR_told, Or.inl ⟨rfl, rfl⟩⟩
theorem mtn_99 : ∀ j, j < 99 → j ≠ qW_law_ → am_mt j := am_mts mtn_98 (fun _ => mtR_told)
theorem mtR_fault : am_mt 99 := ⟨by decide, rfl, rfl, GR_fault, Or.inl ⟨rfl, rfl⟩⟩
theorem mtn_100 : ∀ j, j < 100 → j ≠ qW_law_ → am_mt j := am_mts mtn_99 (fun _ => mtR_fault)
theorem mtR_uses : am_mt 100 := ⟨by decide, rfl, rfl, GR_uses, Or.inl ⟨rfl, rfl⟩⟩
theorem mtn_101 : ∀ j, j < 101 → j ≠ qW_law_ → am_mt j := am_mts mtn_100 (fun _ => mtR_uses)
theorem mtR_readNumber : am_mt 101 := ⟨by decide, rfl, rfl, GR_readNumber, Or.inl ⟨rfl, rfl⟩⟩
theorem mtn_102 : ∀ j, j < 102 → j ≠ qW_law_ → am_mt j := am_mts mtn_101 (fun _ => mtR_readNumber)
theorem mtR_letterTold : am_mt 102 := ⟨by decide, rfl, rfl, GR_letterTold, Or.inl ⟨rfl, rfl⟩⟩
theorem mtn_103 : ∀ j, j < 103 → j ≠ qW_law_ → am_mt j := am_mts mtn_102 (fun _ => mtR_letterTold)
theorem mtR_readThing : am_mt 103 := ⟨by decide, rfl, rfl, GR_readThing, Or.inl ⟨rfl, rfl⟩⟩
theorem mtn_104 : ∀ j, j < 104 → j ≠ qW_law_ → am_mt j := am_mts mtn_103 (fun _ => mtR_readThing)
theorem mtR_isBorn : am_mt 104 := ⟨by decide, rfl, rfl, GR_isBorn, Or.inl ⟨rfl, rfl⟩⟩
theorem mtn_105 : ∀ j, j < 105 → j ≠ qW_law_ → am_mt j := am_mts mtn_104 (fun _ => mtR_isBorn)
theorem mtR_readChild : am_mt 105 := ⟨by decide, rfl, rfl, GR_readChild, Or.inl ⟨rfl, rfl⟩⟩
theorem mtn_106 : ∀ j, j < 106 → j ≠ qW_law_ → am_mt j := am_mts mtn_105 (fun _ => mtR_readChild)
theorem mtR_mayKnot : am_mt 106 := ⟨by decide, rfl, rfl, GR_mayKnot, Or.inl ⟨rfl, rfl⟩⟩
theorem mtn_107 : ∀ j, j < 107 → j ≠ qW_law_ → am_mt j := am_mts mtn_106 (fun _ => mtR_mayKnot)
theorem mtR_readKnot : am_mt 107 := ⟨by decide, rfl, rfl, GR_readKnot, Or.inl ⟨rfl, rfl⟩⟩
theorem mtn_108 : ∀ j, j < 108 → j ≠ qW_law_ → am_mt j := am_mts mtn_107 (fun _ => mtR_readKnot)
theorem mtR_readParishLine : am_mt 108 := ⟨by decide, rfl, rfl, GR_readParishLine, Or.inl ⟨rfl, rfl⟩⟩
theorem mtn_109 : ∀ j, j < 109 → j ≠ qW_law_ → am_mt j := am_mts mtn_108 (fun _ => mtR_readParishLine)
theorem mtR_emits : am_mt 109 := ⟨by decide, rfl, rfl, GR_emits, Or.inl ⟨rfl, rfl⟩⟩
theorem mtn_110 : ∀ j, j < 110 → j ≠ qW_law_ → am_mt j := am_mts mtn_109 (fun _ => mtR_emits)
theorem mtR_wordOfPart : am_mt 110 := ⟨by decide, rfl, rfl, GR_wordOfPart, Or.inl ⟨rfl, rfl⟩⟩
theorem mtn_111 : ∀ j, j < 111 → j ≠ qW_law_ → am_mt j := am_mts mtn_110 (fun _ => mtR_wordOfPart)
theorem mtR_readPart : am_mt 111 := ⟨by decide, rfl, rfl, GR_readPart, Or.inl ⟨rfl, rfl⟩⟩
theorem mtn_112 : ∀ j, j < 112 → j ≠ qW_law_ → am_mt j := am_mts mtn_111 (fun _ => mtR_readPart)
theorem mtR_readSum : am_mt 112 := ⟨by decide, rfl, rfl, GR_readSum, Or.inl ⟨rfl, rfl⟩⟩
theorem mtn_113 : ∀ j, j < 113 → j ≠ qW_law_ → am_mt j := am_mts mtn_112 (fun _ => mtR_readSum)
theorem mtR_readTag : am_mt 113 := ⟨by decide, rfl, rfl, GR_readTag, Or.inl ⟨rfl, rfl⟩⟩
theorem mtn_114 : ∀ j, j < 114 → j ≠ qW_law_ → am_mt j := am_mts mtn_113 (fun _ => mtR_readTag)
theorem mtR_readAtom : am_mt 114 := ⟨by decide, rfl, rfl, GR_readAtom, Or.inl ⟨rfl, rfl⟩⟩
theorem mtn_115 : ∀ j, j < 115 → j ≠ qW_law_ → am_mt j := am_mts mtn_114 (fun _ => mtR_readAtom)
theorem mtR_readAllOf : am_mt 115 := ⟨by decide, rfl, rfl, GR_readAllOf, Or.inl ⟨rfl, rfl⟩⟩
theorem mtn_116 : ∀ j, j < 116 → j ≠ qW_law_ → am_mt j := am_mts mtn_115 (fun _ => mtR_readAllOf)
theorem mtR_readCond : am_mt 116 := ⟨by decide, rfl, rfl, GR_readCond, Or.inl ⟨rfl, rfl⟩⟩
theorem mtn_117 : ∀ j, j < 117 → j ≠ qW_law_ → am_mt j := am_mts mtn_116 (fun _ => mtR_readCond)
theorem mtR_readLawLine : am_mt 117 := ⟨by decide, rfl, rfl, GR_readLawLine, Or.inl ⟨rfl, rfl⟩⟩
theorem mtn_118 : ∀ j, j < 118 → j ≠ qW_law_ → am_mt j := am_mts mtn_117 (fun _ => mtR_readLawLine)
theorem mtR_readLine : am_mt 118 := ⟨by decide, rfl, rfl, GR_readLine, Or.inl ⟨rfl, rfl⟩⟩
theorem mtn_119 : ∀ j, j < 119 → j ≠ qW_law_ → am_mt j := am_mts mtn_118 (fun _ => mtR_readLine)
theorem mtR_readAll : am_mt 119 := ⟨by decide, rfl, rfl, GR_readAll, Or.inl ⟨rfl, rfl⟩⟩
theorem mtn_120 : ∀ j, j < 120 → j ≠ qW_law_ → am_mt j := am_mts mtn_119 (fun _ => mtR_readAll)
theorem mtR_parish : am_mt 120 := ⟨by decide, rfl, rfl, GR_parish, Or.inl ⟨rfl, rfl⟩⟩
theorem mtn_121 : ∀ j, j < 121 → j ≠ qW_law_ → am_mt j := am_mts mtn_120 (fun _ => mtR_parish)
theorem mtR_law : am_mt 121 := ⟨by decide, rfl, rfl, GR_law, Or.inl ⟨rfl, rfl⟩⟩
theorem mtn_122 : ∀ j, j < 122 → j ≠ qW_law_ → am_mt j := am_mts mtn_121 (fun _ => mtR_law)
theorem mtR_factOf : am_mt 122 := ⟨by decide, rfl, rfl, GR_factOf, Or.inl ⟨rfl, rfl⟩⟩
theorem mtn_123 : ∀ j, j < 123 → j ≠ qW_law_ → am_mt j := am_mts mtn_122 (fun _ => mtR_factOf)
theorem mtR_holdsLine : am_mt 123 := ⟨by decide, rfl, rfl, GR_holdsLine, Or.inl ⟨rfl, rfl⟩⟩
theorem mtn_124 : ∀ j, j < 124 → j ≠ qW_law_ → am_mt j := am_mts mtn_123 (fun _ => mtR_holdsLine)
theorem mtR_sumOf : am_mt 124 := ⟨by decide, rfl, rfl, GR_sumOf, Or.inl ⟨rfl, rfl⟩⟩
theorem mtn_125 : ∀ j, j < 125 → j ≠ qW_law_ → am_mt j := am_mts mtn_124 (fun _ => mtR_sumOf)
theorem mtR_loosensBy : am_mt 125 := ⟨by decide, rfl, rfl, GR_loosensBy, Or.inl ⟨rfl, rfl⟩⟩
theorem mtn_126 : ∀ j, j < 126 → j ≠ qW_law_ → am_mt j := am_mts mtn_125 (fun _ => mtR_loosensBy)
theorem mtR_leadsTo : am_mt 126 := ⟨by decide, rfl, rfl, GR_leadsTo, Or.inl ⟨rfl, rfl⟩⟩
theorem mtn_127 : ∀ j, j < 127 → j ≠ qW_law_ → am_mt j := am_mts mtn_126 (fun _ => mtR_leadsTo)
theorem mtR_fateOfAll : am_mt 127 := ⟨by decide, rfl, rfl, GR_fateOfAll, Or.inl ⟨rfl, rfl⟩⟩
theorem mtn_128 : ∀ j, j < 128 → j ≠ qW_law_ → am_mt j := am_mts mtn_127 (fun _ => mtR_fateOfAll)
theorem mtR_shareOf : am_mt 128 := ⟨by decide, rfl, rfl, GR_shareOf, Or.inl ⟨rfl, rfl⟩⟩
theorem mtn_129 : ∀ j, j < 129 → j ≠ qW_law_ → am_mt j := am_mts mtn_128 (fun _ => mtR_shareOf)
theorem mtR_howMany : am_mt 129 := ⟨by decide, rfl, rfl, GR_howMany, Or.inl ⟨rfl, rfl⟩⟩
theorem mtn_130 : ∀ j, j < 130 → j ≠ qW_law_ → am_mt j := am_mts mtn_129 (fun _ => mtR_howMany)
theorem mtR_thing : am_mt 130 := ⟨by decide, rfl, rfl, GR_thing, Or.inl ⟨rfl, rfl⟩⟩
theorem mtn_131 : ∀ j, j < 131 → j ≠ qW_law_ → am_mt j := am_mts mtn_130 (fun _ => mtR_thing)
theorem mtR_child : am_mt 131 := ⟨by decide, rfl, rfl, GR_child, Or.inl ⟨rfl, rfl⟩⟩
theorem mtn_132 : ∀ j, j < 132 → j ≠ qW_law_ → am_mt j := am_mts mtn_131 (fun _ => mtR_child)
theorem mtR_tells : am_mt 132 := ⟨by decide, rfl, rfl, GR_tells, Or.inl ⟨rfl, rfl⟩⟩
theorem mtn_133 : ∀ j, j < 133 → j ≠ qW_law_ → am_mt j := am_mts mtn_132 (fun _ => mtR_tells)
theorem mtR_isCut : am_mt 133 := ⟨by decide, rfl, rfl, GR_isCut, Or.inl ⟨rfl, rfl⟩⟩
theorem mtn_134 : ∀ j, j < 134 → j ≠ qW_law_ → am_mt j := am_mts mtn_133 (fun _ => mtR_isCut)
theorem mtR_opens : am_mt 134 := ⟨by decide, rfl, rfl, GR_opens, Or.inl ⟨rfl, rfl⟩⟩
theorem mtn_135 : ∀ j, j < 135 → j ≠ qW_law_ → am_mt j := am_mts mtn_134 (fun _ => mtR_opens)
theorem mtR_isMoved : am_mt 135 := ⟨by decide, rfl, rfl, GR_isMoved, Or.inl ⟨rfl, rfl⟩⟩
theorem mtn_136 : ∀ j, j < 136 → j ≠ qW_law_ → am_mt j := am_mts mtn_135 (fun _ => mtR_isMoved)
theorem mtR_mayMove : am_mt 136 := ⟨by decide, rfl, rfl, GR_mayMove, Or.inl ⟨rfl, rfl⟩⟩
theorem mtn_137 : ∀ j, j < 137 → j ≠ qW_law_ → am_mt j := am_mts mtn_136 (fun _ => mtR_mayMove)
theorem mtR_canMove : am_mt 137 := ⟨by decide, rfl, rfl, GR_canMove, Or.inl ⟨rfl, rfl⟩⟩
theorem mtn_138 : ∀ j, j < 138 → j ≠ qW_law_ → am_mt j := am_mts mtn_137 (fun _ => mtR_canMove)
theorem mtR_oneMonth : am_mt 138 := ⟨by decide, rfl, rfl, GR_oneMonth, Or.inl ⟨rfl, rfl⟩⟩
theorem mtn_139 : ∀ j, j < 139 → j ≠ qW_law_ → am_mt j := am_mts mtn_138 (fun _ => mtR_oneMonth)
theorem mtR_goesOn : am_mt 139 := ⟨by decide, rfl, rfl, GR_goesOn, Or.inl ⟨rfl, rfl⟩⟩
theorem mtn_140 : ∀ j, j < 140 → j ≠ qW_law_ → am_mt j := am_mts mtn_139 (fun _ => mtR_goesOn)
theorem mtR_keepsAll : am_mt 140 := ⟨by decide, rfl, rfl, GR_keepsAll, Or.inl ⟨rfl, rfl⟩⟩
theorem mtn_141 : ∀ j, j < 141 → j ≠ qW_law_ → am_mt j := am_mts mtn_140 (fun _ => mtR_keepsAll)
theorem mtR_bringsBack : am_mt 141 := ⟨by decide, rfl, rfl, GR_bringsBack, Or.inl ⟨rfl, rfl⟩⟩
theorem mtn_142 : ∀ j, j < 142 → j ≠ qW_law_ → am_mt j := am_mts mtn_141 (fun _ => mtR_bringsBack)
theorem mtR_months : am_mt 142 := ⟨by decide, rfl, rfl, GR_months, Or.inl ⟨rfl, rfl⟩⟩
theorem mtn_143 : ∀ j, j < 143 → j ≠ qW_law_ → am_mt j := am_mts mtn_142 (fun _ => mtR_months)
theorem mtR_allWeights : am_mt 143 := ⟨by decide, rfl, rfl, GR_allWeights, Or.inl ⟨rfl, rfl⟩⟩
theorem mtn_144 : ∀ j, j < 144 → j ≠ qW_law_ → am_mt j := am_mts mtn_143 (fun _ => mtR_allWeights)
theorem mtR_isMeant : am_mt 144 := ⟨by decide, rfl, rfl, GR_isMeant, Or.inl ⟨rfl, rfl⟩⟩
theorem mtn_145 : ∀ j, j < 145 → j ≠ qW_law_ → am_mt j := am_mts mtn_144 (fun _ => mtR_isMeant)
theorem mtR_birth : am_mt 145 := ⟨by decide, rfl, rfl, GR_birth, Or.inl ⟨rfl, rfl⟩⟩
theorem mtn_146 : ∀ j, j < 146 → j ≠ qW_law_ → am_mt j := am_mts mtn_145 (fun _ => mtR_birth)
theorem mtR_move : am_mt 146 := ⟨by decide, rfl, rfl, GR_move, Or.inl ⟨rfl, rfl⟩⟩
theorem mtn_147 : ∀ j, j < 147 → j ≠ qW_law_ → am_mt j := am_mts mtn_146 (fun _ => mtR_move)
theorem mtR_isNow : am_mt 147 := ⟨by decide, rfl, rfl, GR_isNow, Or.inl ⟨rfl, rfl⟩⟩
theorem mtn_148 : ∀ j, j < 148 → j ≠ qW_law_ → am_mt j := am_mts mtn_147 (fun _ => mtR_isNow)
theorem mtR_blow : am_mt 148 := ⟨by decide, rfl, rfl, GR_blow, Or.inl ⟨rfl, rfl⟩⟩
theorem mtn_149 : ∀ j, j < 149 → j ≠ qW_law_ → am_mt j := am_mts mtn_148 (fun _ => mtR_blow)
theorem mtR_wish : am_mt 149 := ⟨by decide, rfl, rfl, GR_wish, Or.inl ⟨rfl, rfl⟩⟩
theorem mtn_150 : ∀ j, j < 150 → j ≠ qW_law_ → am_mt j := am_mts mtn_149 (fun _ => mtR_wish)
theorem mtR_grip : am_mt 150 := ⟨by decide, rfl, rfl, GR_grip, Or.inl ⟨rfl, rfl⟩⟩
theorem mtn_151 : ∀ j, j < 151 → j ≠ qW_law_ → am_mt j := am_mts mtn_150 (fun _ => mtR_grip)
theorem mtR_noTwo : am_mt 151 := ⟨by decide, rfl, rfl, GR_noTwo, Or.inl ⟨rfl, rfl⟩⟩
theorem mtn_152 : ∀ j, j < 152 → j ≠ qW_law_ → am_mt j := am_mts mtn_151 (fun _ => mtR_noTwo)
theorem mtR_change : am_mt 152 := ⟨by decide, rfl, rfl, GR_change, Or.inl ⟨rfl, rfl⟩⟩
theorem mtn_153 : ∀ j, j < 153 → j ≠ qW_law_ → am_mt j := am_mts mtn_152 (fun _ => mtR_change)
theorem mtR_cut : am_mt 153 := ⟨by decide, rfl, rfl, GR_cut, Or.inl ⟨rfl, rfl⟩⟩
theorem mtn_154 : ∀ j, j < 154 → j ≠ qW_law_ → am_mt j := am_mts mtn_153 (fun _ => mtR_cut)
theorem mtR_lesserOf : am_mt 154 := ⟨by decide, rfl, rfl, GR_lesserOf, Or.inl ⟨rfl, rfl⟩⟩
theorem mtn_155 : ∀ j, j < 155 → j ≠ qW_law_ → am_mt j := am_mts mtn_154 (fun _ => mtR_lesserOf)
theorem mtR_stateOf : am_mt 155 := ⟨by decide, rfl, rfl, GR_stateOf, Or.inl ⟨rfl, rfl⟩⟩
theorem mtn_156 : ∀ j, j < 156 → j ≠ qW_law_ → am_mt j := am_mts mtn_155 (fun _ => mtR_stateOf)
theorem mtR_mayMoveIn : am_mt 156 := ⟨by decide, rfl, rfl, GR_mayMoveIn, Or.inl ⟨rfl, rfl⟩⟩
theorem mtn_157 : ∀ j, j < 157 → j ≠ qW_law_ → am_mt j := am_mts mtn_156 (fun _ => mtR_mayMoveIn)
theorem mtR_isUndone : am_mt 157 := ⟨by decide, rfl, rfl, GR_isUndone, Or.inl ⟨rfl, rfl⟩⟩
theorem mtn_158 : ∀ j, j < 158 → j ≠ qW_law_ → am_mt j := am_mts mtn_157 (fun _ => mtR_isUndone)
theorem mtR_finds : am_mt 158 := ⟨by decide, rfl, rfl, GR_finds, Or.inl ⟨rfl, rfl⟩⟩
theorem mtn_159 : ∀ j, j < 159 → j ≠ qW_law_ → am_mt j := am_mts mtn_158 (fun _ => mtR_finds)
theorem mtR_fewest : am_mt 159 := ⟨by decide, rfl, rfl, GR_fewest, Or.inl ⟨rfl, rfl⟩⟩
theorem mtn_160 : ∀ j, j < 160 → j ≠ qW_law_ → am_mt j := am_mts mtn_159 (fun _ => mtR_fewest)
theorem mtR_moves : am_mt 160 := ⟨by decide, rfl, rfl, GR_moves, Or.inl ⟨rfl, rfl⟩⟩
theorem mtn_161 : ∀ j, j < 161 → j ≠ qW_law_ → am_mt j := am_mts mtn_160 (fun _ => mtR_moves)
theorem mtR_first : am_mt 161 := ⟨by decide, rfl, rfl, GR_first, Or.inl ⟨rfl, rfl⟩⟩
theorem mtn_162 : ∀ j, j < 162 → j ≠ qW_law_ → am_mt j := am_mts mtn_161 (fun _ => mtR_first)
theorem mtR_can : am_mt 162 := ⟨by decide, rfl, rfl, GR_can, Or.inl ⟨rfl, rfl⟩⟩
theorem mtn_163 : ∀ j, j < 163 → j ≠ qW_law_ → am_mt j := am_mts mtn_162 (fun _ => mtR_can)
theorem mtR_feltOf : am_mt 163 := ⟨by decide, rfl, rfl, GR_feltOf, Or.inl ⟨rfl, rfl⟩⟩
theorem mtn_164 : ∀ j, j < 164 → j ≠ qW_law_ → am_mt j := am_mts mtn_163 (fun _ => mtR_feltOf)
theorem mtR_isFelt : am_mt 164 := ⟨by decide, rfl, rfl, GR_isFelt, Or.inl ⟨rfl, rfl⟩⟩
theorem mtn_165 : ∀ j, j < 165 → j ≠ qW_law_ → am_mt j := am_mts mtn_164 (fun _ => mtR_isFelt)
theorem mtR_fitting : am_mt 165 := ⟨by decide, rfl, rfl, GR_fitting, Or.inl ⟨rfl, rfl⟩⟩
theorem mtn_166 : ∀ j, j < 166 → j ≠ qW_law_ → am_mt j := am_mts mtn_165 (fun _ => mtR_fitting)
theorem mtR_weightsOf : am_mt 166 := ⟨by decide, rfl, rfl, GR_weightsOf, Or.inl ⟨rfl, rfl⟩⟩
theorem mtn_167 : ∀ j, j < 167 → j ≠ qW_law_ → am_mt j := am_mts mtn_166 (fun _ => mtR_weightsOf)
theorem mtR_likelyOf : am_mt 167 := ⟨by decide, rfl, rfl, GR_likelyOf, Or.inl ⟨rfl, rfl⟩⟩
theorem mtn_168 : ∀ j, j < 168 → j ≠ qW_law_ → am_mt j := am_mts mtn_167 (fun _ => mtR_likelyOf)
theorem mtR_expectOf : am_mt 168 := ⟨by decide, rfl, rfl, GR_expectOf, Or.inl ⟨rfl, rfl⟩⟩
theorem mtn_169 : ∀ j, j < 169 → j ≠ qW_law_ → am_mt j := am_mts mtn_168 (fun _ => mtR_expectOf)
theorem mtR_feels : am_mt 169 := ⟨by decide, rfl, rfl, GR_feels, Or.inl ⟨rfl, rfl⟩⟩
theorem mtn_170 : ∀ j, j < 170 → j ≠ qW_law_ → am_mt j := am_mts mtn_169 (fun _ => mtR_feels)
theorem mtR_odds : am_mt 170 := ⟨by decide, rfl, rfl, GR_odds, Or.inl ⟨rfl, rfl⟩⟩
theorem mtn_171 : ∀ j, j < 171 → j ≠ qW_law_ → am_mt j := am_mts mtn_170 (fun _ => mtR_odds)
theorem mtR_ask : am_mt 171 := ⟨by decide, rfl, rfl, GR_ask, Or.inl ⟨rfl, rfl⟩⟩
theorem mtn_172 : ∀ j, j < 172 → j ≠ qW_law_ → am_mt j := am_mts mtn_171 (fun _ => mtR_ask)
theorem mtR_noAhead : am_mt 172 := ⟨by decide, rfl, rfl, GR_noAhead, Or.inl ⟨rfl, rfl⟩⟩
theorem mtn_173 : ∀ j, j < 173 → j ≠ qW_law_ → am_mt j := am_mts mtn_172 (fun _ => mtR_noAhead)
theorem mtR_openedOnes : am_mt 173 := ⟨by decide, rfl, rfl, GR_openedOnes, Or.inl ⟨rfl, rfl⟩⟩
theorem mtn_174 : ∀ j, j < 174 → j ≠ qW_law_ → am_mt j := am_mts mtn_173 (fun _ => mtR_openedOnes)
theorem mtR_waits : am_mt 174 := ⟨by decide, rfl, rfl, GR_waits, Or.inl ⟨rfl, rfl⟩⟩
theorem mtn_175 : ∀ j, j < 175 → j ≠ qW_law_ → am_mt j := am_mts mtn_174 (fun _ => mtR_waits)
theorem mtR_next : am_mt 175 := ⟨by decide, rfl, rfl, GR_next, Or.inl ⟨rfl, rfl⟩⟩
theorem mtn_176 : ∀ j, j < 176 → j ≠ qW_law_ → am_mt j := am_mts mtn_175 (fun _ => mtR_next)
theorem mtR_keep : am_mt 176 := ⟨by decide, rfl, rfl, GR_keep, Or.inl ⟨rfl, rfl⟩⟩
theorem mtn_177 : ∀ j, j < 177 → j ≠ qW_law_ → am_mt j := am_mts mtn_176 (fun _ => mtR_keep)
theorem mtR_fates : am_mt 177 := ⟨by decide, rfl, rfl, GR_fates, Or.inl ⟨rfl, rfl⟩⟩
theorem mtn_178 : ∀ j, j < 178 → j ≠ qW_law_ → am_mt j := am_mts mtn_177 (fun _ => mtR_fates)
theorem mtR_last : am_mt 178 := ⟨by decide, rfl, rfl, GR_last, Or.inl ⟨rfl, rfl⟩⟩
theorem mtn_179 : ∀ j, j < 179 → j ≠ qW_law_ → am_mt j := am_mts mtn_178 (fun _ => mtR_last)
theorem mtR_ahead : am_mt 179 := ⟨by decide, rfl, rfl, GR_ahead, Or.inl ⟨rfl, rfl⟩⟩
theorem mtn_180 : ∀ j, j < 180 → j ≠ qW_law_ → am_mt j := am_mts mtn_179 (fun _ => mtR_ahead)
theorem mtR_givenAt : am_mt 180 := ⟨by decide, rfl, rfl, GR_givenAt, Or.inl ⟨rfl, rfl⟩⟩
theorem mtn_181 : ∀ j, j < 181 → j ≠ qW_law_ → am_mt j := am_mts mtn_180 (fun _ => mtR_givenAt)
theorem mtR_mayGive : am_mt 181 := ⟨by decide, rfl, rfl, GR_mayGive, Or.inl ⟨rfl, rfl⟩⟩
theorem mtn_182 : ∀ j, j < 182 → j ≠ qW_law_ → am_mt j := am_mts mtn_181 (fun _ => mtR_mayGive)
theorem mtR_givenBy : am_mt 182 := ⟨by decide, rfl, rfl, GR_givenBy, Or.inl ⟨rfl, rfl⟩⟩
theorem mtn_183 : ∀ j, j < 183 → j ≠ qW_law_ → am_mt j := am_mts mtn_182 (fun _ => mtR_givenBy)
theorem mtR_laysGiven : am_mt 183 := ⟨by decide, rfl, rfl, GR_laysGiven, Or.inl ⟨rfl, rfl⟩⟩
theorem mtn_184 : ∀ j, j < 184 → j ≠ qW_law_ → am_mt j := am_mts mtn_183 (fun _ => mtR_laysGiven)
theorem mtR_gives : am_mt 184 := ⟨by decide, rfl, rfl, GR_gives, Or.inl ⟨rfl, rfl⟩⟩
theorem mtn_185 : ∀ j, j < 185 → j ≠ qW_law_ → am_mt j := am_mts mtn_184 (fun _ => mtR_gives)
theorem mtR_gladOf : am_mt 185 := ⟨by decide, rfl, rfl, GR_gladOf, Or.inl ⟨rfl, rfl⟩⟩
theorem mtn_186 : ∀ j, j < 186 → j ≠ qW_law_ → am_mt j := am_mts mtn_185 (fun _ => mtR_gladOf)
theorem mtR_pointOf : am_mt 186 := ⟨by decide, rfl, rfl, GR_pointOf, Or.inl ⟨rfl, rfl⟩⟩
theorem mtn_187 : ∀ j, j < 187 → j ≠ qW_law_ → am_mt j := am_mts mtn_186 (fun _ => mtR_pointOf)
theorem mtR_ringFrom : am_mt 187 := ⟨by decide, rfl, rfl, GR_ringFrom, Or.inl ⟨rfl, rfl⟩⟩
theorem mtn_188 : ∀ j, j < 188 → j ≠ qW_law_ → am_mt j := am_mts mtn_187 (fun _ => mtR_ringFrom)
theorem mtR_trades : am_mt 188 := ⟨by decide, rfl, rfl, GR_trades, Or.inl ⟨rfl, rfl⟩⟩
theorem mtn_189 : ∀ j, j < 189 → j ≠ qW_law_ → am_mt j := am_mts mtn_188 (fun _ => mtR_trades)
theorem mtR_trade : am_mt 189 := ⟨by decide, rfl, rfl, GR_trade, Or.inl ⟨rfl, rfl⟩⟩
theorem mtn_190 : ∀ j, j < 190 → j ≠ qW_law_ → am_mt j := am_mts mtn_189 (fun _ => mtR_trade)
theorem mtR_ring : am_mt 190 := ⟨by decide, rfl, rfl, GR_ring, Or.inl ⟨rfl, rfl⟩⟩
theorem mtn_191 : ∀ j, j < 191 → j ≠ qW_law_ → am_mt j := am_mts mtn_190 (fun _ => mtR_ring)
theorem mtR_swap : am_mt 191 := ⟨by decide, rfl, rfl, GR_swap, Or.inl ⟨rfl, rfl⟩⟩
theorem mtn_192 : ∀ j, j < 192 → j ≠ qW_law_ → am_mt j := am_mts mtn_191 (fun _ => mtR_swap)
theorem mtR_keptBy : am_mt 192 := ⟨by decide, rfl, rfl, GR_keptBy, Or.inl ⟨rfl, rfl⟩⟩
theorem mtn_193 : ∀ j, j < 193 → j ≠ qW_law_ → am_mt j := am_mts mtn_192 (fun _ => mtR_keptBy)
theorem mtR_allChildren : am_mt 193 := ⟨by decide, rfl, rfl, GR_allChildren, Or.inl ⟨rfl, rfl⟩⟩
theorem mtn_194 : ∀ j, j < 194 → j ≠ qW_law_ → am_mt j := am_mts mtn_193 (fun _ => mtR_allChildren)
theorem mtR_all : am_mt 194 := ⟨by decide, rfl, rfl, GR_all, Or.inl ⟨rfl, rfl⟩⟩
theorem mtn_195 : ∀ j, j < 195 → j ≠ qW_law_ → am_mt j := am_mts mtn_194 (fun _ => mtR_all)
theorem mtR_missing : am_mt 195 := ⟨by decide, rfl, rfl, GR_missing, Or.inl ⟨rfl, rfl⟩⟩
theorem mtn_196 : ∀ j, j < 196 → j ≠ qW_law_ → am_mt j := am_mts mtn_195 (fun _ => mtR_missing)
theorem mtR_nobody : am_mt 196 := ⟨by decide, rfl, rfl, GR_nobody, Or.inl ⟨rfl, rfl⟩⟩
theorem mtn_197 : ∀ j, j < 197 → j ≠ qW_law_ → am_mt j := am_mts mtn_196 (fun _ => mtR_nobody)
theorem mtR_isLed : am_mt 197 := ⟨by decide, rfl, rfl, GR_isLed, Or.inl ⟨rfl, rfl⟩⟩
theorem mtn_198 : ∀ j, j < 198 → j ≠ qW_law_ → am_mt j := am_mts mtn_197 (fun _ => mtR_isLed)
theorem mtR_fateBy : am_mt 198 := ⟨by decide, rfl, rfl, GR_fateBy, Or.inl ⟨rfl, rfl⟩⟩
theorem mtn_199 : ∀ j, j < 199 → j ≠ qW_law_ → am_mt j := am_mts mtn_198 (fun _ => mtR_fateBy)
theorem mtR_fits : am_mt 199 := ⟨by decide, rfl, rfl, GR_fits, Or.inl ⟨rfl, rfl⟩⟩
theorem mtn_200 : ∀ j, j < 200 → j ≠ qW_law_ → am_mt j := am_mts mtn_199 (fun _ => mtR_fits)
theorem mtR_rules : am_mt 200 := ⟨by decide, rfl, rfl, GR_rules, Or.inl ⟨rfl, rfl⟩⟩
theorem mtn_201 : ∀ j, j < 201 → j ≠ qW_law_ → am_mt j := am_mts mtn_200 (fun _ => mtR_rules)
theorem mtR_partBy : am_mt 201 := ⟨by decide, rfl, rfl, GR_partBy, Or.inl ⟨rfl, rfl⟩⟩
theorem mtn_202 : ∀ j, j < 202 → j ≠ qW_law_ → am_mt j := am_mts mtn_201 (fun _ => mtR_partBy)
theorem mtR_tell : am_mt 202 := ⟨by decide, rfl, rfl, GR_tell, Or.inl ⟨rfl, rfl⟩⟩
theorem mtn_203 : ∀ j, j < 203 → j ≠ qW_law_ → am_mt j := am_mts mtn_202 (fun _ => mtR_tell)
theorem mtR_expectOfAll : am_mt 203 := ⟨by decide, rfl, rfl, GR_expectOfAll, Or.inl ⟨rfl, rfl⟩⟩
theorem mtn_204 : ∀ j, j < 204 → j ≠ qW_law_ → am_mt j := am_mts mtn_203 (fun _ => mtR_expectOfAll)
theorem mtR_familyHas : am_mt 204 := ⟨by decide, rfl, rfl, GR_familyHas, Or.inl ⟨rfl, rfl⟩⟩
theorem mtn_205 : ∀ j, j < 205 → j ≠ qW_law_ → am_mt j := am_mts mtn_204 (fun _ => mtR_familyHas)
theorem mtR_childHas : am_mt 205 := ⟨by decide, rfl, rfl, GR_childHas, Or.inl ⟨rfl, rfl⟩⟩
theorem mtn_206 : ∀ j, j < 206 → j ≠ qW_law_ → am_mt j := am_mts mtn_205 (fun _ => mtR_childHas)
theorem mtR_rests : am_mt 206 := ⟨by decide, rfl, rfl, GR_rests, Or.inl ⟨rfl, rfl⟩⟩
theorem mtn_207 : ∀ j, j < 207 → j ≠ qW_law_ → am_mt j := am_mts mtn_206 (fun _ => mtR_rests)
theorem mtR_nothing : am_mt 207 := ⟨by decide, rfl, rfl, GR_nothing, Or.inl ⟨rfl, rfl⟩⟩
theorem mtn_208 : ∀ j, j < 208 → j ≠ qW_law_ → am_mt j := am_mts mtn_207 (fun _ => mtR_nothing)
theorem mtR_thatAre : am_mt 208 := ⟨by decide, rfl, rfl, GR_thatAre, Or.inl ⟨rfl, rfl⟩⟩
theorem mtn_209 : ∀ j, j < 209 → j ≠ qW_law_ → am_mt j := am_mts mtn_208 (fun _ => mtR_thatAre)
theorem mtR_shut : am_mt 209 := ⟨by decide, rfl, rfl, GR_shut, Or.inl ⟨rfl, rfl⟩⟩
theorem mtn_210 : ∀ j, j < 210 → j ≠ qW_law_ → am_mt j := am_mts mtn_209 (fun _ => mtR_shut)
theorem mtR_open : am_mt 210 := ⟨by decide, rfl, rfl, GR_open, Or.inl ⟨rfl, rfl⟩⟩
theorem mtn_211 : ∀ j, j < 211 → j ≠ qW_law_ → am_mt j := am_mts mtn_210 (fun _ => mtR_open)
theorem mtR_knotted : am_mt 211 := ⟨by decide, rfl, rfl, GR_knotted, Or.inl ⟨rfl, rfl⟩⟩
theorem mtn_212 : ∀ j, j < 212 → j ≠ qW_law_ → am_mt j := am_mts mtn_211 (fun _ => mtR_knotted)
theorem mtR_content : am_mt 212 := ⟨by decide, rfl, rfl, GR_content, Or.inl ⟨rfl, rfl⟩⟩
theorem mtn_213 : ∀ j, j < 213 → j ≠ qW_law_ → am_mt j := am_mts mtn_212 (fun _ => mtR_content)
theorem mtR_richest : am_mt 213 := ⟨by decide, rfl, rfl, GR_richest, Or.inl ⟨rfl, rfl⟩⟩
theorem mtn_214 : ∀ j, j < 214 → j ≠ qW_law_ → am_mt j := am_mts mtn_213 (fun _ => mtR_richest)
theorem mtR_oldest : am_mt 214 := ⟨by decide, rfl, rfl, GR_oldest, Or.inl ⟨rfl, rfl⟩⟩
theorem mtn_215 : ∀ j, j < 215 → j ≠ qW_law_ → am_mt j := am_mts mtn_214 (fun _ => mtR_oldest)
theorem mtR_twins : am_mt 215 := ⟨by decide, rfl, rfl, GR_twins, Or.inl ⟨rfl, rfl⟩⟩
theorem mtn_216 : ∀ j, j < 216 → j ≠ qW_law_ → am_mt j := am_mts mtn_215 (fun _ => mtR_twins)
theorem mtR_trial : am_mt 216 := ⟨by decide, rfl, rfl, GR_trial, Or.inl ⟨rfl, rfl⟩⟩
theorem mtn_217 : ∀ j, j < 217 → j ≠ qW_law_ → am_mt j := am_mts mtn_216 (fun _ => mtR_trial)
theorem mtR_span : am_mt 217 := ⟨by decide, rfl, rfl, GR_span, Or.inl ⟨rfl, rfl⟩⟩
theorem mtn_218 : ∀ j, j < 218 → j ≠ qW_law_ → am_mt j := am_mts mtn_217 (fun _ => mtR_span)
theorem mtR_ofLog : am_mt 218 := ⟨by decide, rfl, rfl, GR_ofLog, Or.inl ⟨rfl, rfl⟩⟩
theorem mtn_219 : ∀ j, j < 219 → j ≠ qW_law_ → am_mt j := am_mts mtn_218 (fun _ => mtR_ofLog)
theorem mtR_led : am_mt 219 := ⟨by decide, rfl, rfl, GR_led, Or.inl ⟨rfl, rfl⟩⟩
theorem mtn_220 : ∀ j, j < 220 → j ≠ qW_law_ → am_mt j := am_mts mtn_219 (fun _ => mtR_led)
theorem mtR_log : am_mt 220 := ⟨by decide, rfl, rfl, GR_log, Or.inl ⟨rfl, rfl⟩⟩
theorem mtn_221 : ∀ j, j < 221 → j ≠ qW_law_ → am_mt j := am_mts mtn_220 (fun _ => mtR_log)
theorem mtR_seed : am_mt 221 := ⟨by decide, rfl, rfl, GR_seed, Or.inl ⟨rfl, rfl⟩⟩
theorem mtn_222 : ∀ j, j < 222 → j ≠ qW_law_ → am_mt j := am_mts mtn_221 (fun _ => mtR_seed)
theorem mtR_count : am_mt 222 := ⟨by decide, rfl, rfl, GR_count, Or.inl ⟨rfl, rfl⟩⟩
theorem mtn_223 : ∀ j, j < 223 → j ≠ qW_law_ → am_mt j := am_mts mtn_222 (fun _ => mtR_count)
theorem mtE_feltOf : am_mt 223 := ⟨by decide, rfl, rfl, GE_feltOf, Or.inl ⟨rfl, rfl⟩⟩
theorem mtn_224 : ∀ j, j < 224 → j ≠ qW_law_ → am_mt j := am_mts mtn_223 (fun _ => mtE_feltOf)
theorem mtE_fitting : am_mt 224 := ⟨by decide, rfl, rfl, GE_fitting, Or.inl ⟨rfl, rfl⟩⟩
theorem mtn_225 : ∀ j, j < 225 → j ≠ qW_law_ → am_mt j := am_mts mtn_224 (fun _ => mtE_fitting)
theorem mtE_fitsRows : am_mt 225 := ⟨by decide, rfl, rfl, GE_fitsRows, Or.inl ⟨rfl, rfl⟩⟩
theorem mtn_226 : ∀ j, j < 226 → j ≠ qW_law_ → am_mt j := am_mts mtn_225 (fun _ => mtE_fitsRows)
theorem mtE_likeliest : am_mt 226 := ⟨by decide, rfl, rfl, GE_likeliest, Or.inl ⟨rfl, rfl⟩⟩
theorem mtn_227 : ∀ j, j < 227 → j ≠ qW_law_ → am_mt j := am_mts mtn_226 (fun _ => mtE_likeliest)
theorem mtE_weightIn : am_mt 227 := ⟨by decide, rfl, rfl, GE_weightIn, Or.inl ⟨rfl, rfl⟩⟩
theorem mtn_228 : ∀ j, j < 228 → j ≠ qW_law_ → am_mt j := am_mts mtn_227 (fun _ => mtE_weightIn)
theorem mtE_weightsOf : am_mt 228 := ⟨by decide, rfl, rfl, GE_weightsOf, Or.inl ⟨rfl, rfl⟩⟩
theorem mtn_229 : ∀ j, j < 229 → j ≠ qW_law_ → am_mt j := am_mts mtn_228 (fun _ => mtE_weightsOf)
theorem mtE_oddsOf : am_mt 229 := ⟨by decide, rfl, rfl, GE_oddsOf, Or.inl ⟨rfl, rfl⟩⟩
theorem mtn_230 : ∀ j, j < 230 → j ≠ qW_law_ → am_mt j := am_mts mtn_229 (fun _ => mtE_oddsOf)
theorem mtE_expected : am_mt 230 := ⟨by decide, rfl, rfl, GE_expected, Or.inl ⟨rfl, rfl⟩⟩
theorem mtn_231 : ∀ j, j < 231 → j ≠ qW_law_ → am_mt j := am_mts mtn_230 (fun _ => mtE_expected)
theorem mtE_bestFeel : am_mt 231 := ⟨by decide, rfl, rfl, GE_bestFeel, Or.inl ⟨rfl, rfl⟩⟩
theorem mtn_232 : ∀ j, j < 232 → j ≠ qW_law_ → am_mt j := am_mts mtn_231 (fun _ => mtE_bestFeel)
theorem mtE_greatestPart : am_mt 232 := ⟨by decide, rfl, rfl, GE_greatestPart, Or.inl ⟨rfl, rfl⟩⟩
theorem mtn_233 : ∀ j, j < 233 → j ≠ qW_law_ → am_mt j := am_mts mtn_232 (fun _ => mtE_greatestPart)
theorem mtE_partOf : am_mt 233 := ⟨by decide, rfl, rfl, GE_partOf, Or.inl ⟨rfl, rfl⟩⟩
theorem mtn_234 : ∀ j, j < 234 → j ≠ qW_law_ → am_mt j := am_mts mtn_233 (fun _ => mtE_partOf)
theorem mtU_fitTo : am_mt 234 := ⟨by decide, rfl, rfl, GU_fitTo, Or.inl ⟨rfl, rfl⟩⟩
theorem mtn_235 : ∀ j, j < 235 → j ≠ qW_law_ → am_mt j := am_mts mtn_234 (fun _ => mtU_fitTo)
theorem mtU_fateBy : am_mt 235 := ⟨by decide, rfl, rfl, GU_fateBy, Or.inl ⟨rfl, rfl⟩⟩
theorem mtn_236 : ∀ j, j < 236 → j ≠ qW_law_ → am_mt j := am_mts mtn_235 (fun _ => mtU_fateBy)
theorem mtU_fitsRows : am_mt 236 := ⟨by decide, rfl, rfl, GU_fitsRows, Or.inl ⟨rfl, rfl⟩⟩
theorem mtn_237 : ∀ j, j < 237 → j ≠ qW_law_ → am_mt j := am_mts mtn_236 (fun _ => mtU_fitsRows)
theorem mtU_leastPair : am_mt 237 := ⟨by decide, rfl, rfl, GU_leastPair, Or.inl ⟨rfl, rfl⟩⟩
theorem mtn_238 : ∀ j, j < 238 → j ≠ qW_law_ → am_mt j := am_mts mtn_237 (fun _ => mtU_leastPair)
theorem mtU_bestThing : am_mt 238 := ⟨by decide, rfl, rfl, GU_bestThing, Or.inl ⟨rfl, rfl⟩⟩
theorem mtn_239 : ∀ j, j < 239 → j ≠ qW_law_ → am_mt j := am_mts mtn_238 (fun _ => mtU_bestThing)
theorem mtU_greatestPart : am_mt 239 := ⟨by decide, rfl, rfl, GU_greatestPart, Or.inl ⟨rfl, rfl⟩⟩
theorem mtn_240 : ∀ j, j < 240 → j ≠ qW_law_ → am_mt j := am_mts mtn_239 (fun _ => mtU_greatestPart)
theorem mtK_isMovable : am_mt 240 := ⟨by decide, rfl, rfl, GK_isMovable, Or.inl ⟨rfl, rfl⟩⟩
theorem mtn_241 : ∀ j, j < 241 → j ≠ qW_law_ → am_mt j := am_mts mtn_240 (fun _ => mtK_isMovable)
theorem mtK_isMove : am_mt 241 := ⟨by decide, rfl, rfl, GK_isMove, Or.inl ⟨rfl, rfl⟩⟩
theorem mtn_242 : ∀ j, j < 242 → j ≠ qW_law_ → am_mt j := am_mts mtn_241 (fun _ => mtK_isMove)
theorem mtK_movesNow : am_mt 242 := ⟨by decide, rfl, rfl, GK_movesNow, Or.inl ⟨rfl, rfl⟩⟩
theorem mtn_243 : ∀ j, j < 243 → j ≠ qW_law_ → am_mt j := am_mts mtn_242 (fun _ => mtK_movesNow)
theorem mtK_fewest : am_mt 243 := ⟨by decide, rfl, rfl, GK_fewest, Or.inl ⟨rfl, rfl⟩⟩
theorem mtn_244 : ∀ j, j < 244 → j ≠ qW_law_ → am_mt j := am_mts mtn_243 (fun _ => mtK_fewest)
theorem mtK_leastFirst : am_mt 244 := ⟨by decide, rfl, rfl, GK_leastFirst, Or.inl ⟨rfl, rfl⟩⟩
theorem mtn_245 : ∀ j, j < 245 → j ≠ qW_law_ → am_mt j := am_mts mtn_244 (fun _ => mtK_leastFirst)
theorem mtK_search : am_mt 245 := ⟨by decide, rfl, rfl, GK_search, Or.inl ⟨rfl, rfl⟩⟩
theorem mtn_246 : ∀ j, j < 246 → j ≠ qW_law_ → am_mt j := am_mts mtn_245 (fun _ => mtK_search)
theorem mtK_reachFrom : am_mt 246 := ⟨by decide, rfl, rfl, GK_reachFrom, Or.inl ⟨rfl, rfl⟩⟩
theorem mtn_247 : ∀ j, j < 247 → j ≠ qW_law_ → am_mt j := am_mts mtn_246 (fun _ => mtK_reachFrom)
theorem mtL_copyFrom : am_mt 247 := ⟨by decide, rfl, rfl, GL_copyFrom, Or.inl ⟨rfl, rfl⟩⟩
theorem mtn_248 : ∀ j, j < 248 → j ≠ qW_law_ → am_mt j := am_mts mtn_247 (fun _ => mtL_copyFrom)
theorem mtL_clear : am_mt 248 := ⟨by decide, rfl, rfl, GL_clear, Or.inl ⟨rfl, rfl⟩⟩
theorem mtn_249 : ∀ j, j < 249 → j ≠ qW_law_ → am_mt j := am_mts mtn_248 (fun _ => mtL_clear)
theorem mtL_put : am_mt 249 := ⟨by decide, rfl, rfl, GL_put, Or.inl ⟨rfl, rfl⟩⟩
theorem mtn_250 : ∀ j, j < 250 → j ≠ qW_law_ → am_mt j := am_mts mtn_249 (fun _ => mtL_put)
theorem mtL_endLine : am_mt 250 := ⟨by decide, rfl, rfl, GL_endLine, Or.inl ⟨rfl, rfl⟩⟩
theorem mtn_251 : ∀ j, j < 251 → j ≠ qW_law_ → am_mt j := am_mts mtn_250 (fun _ => mtL_endLine)
theorem mtL_loosens : am_mt 251 := ⟨by decide, rfl, rfl, GL_loosens, Or.inl ⟨rfl, rfl⟩⟩
theorem mtn_252 : ∀ j, j < 252 → j ≠ qW_law_ → am_mt j := am_mts mtn_251 (fun _ => mtL_loosens)
theorem mtL_leads : am_mt 252 := ⟨by decide, rfl, rfl, GL_leads, Or.inl ⟨rfl, rfl⟩⟩
theorem mtn_253 : ∀ j, j < 253 → j ≠ qW_law_ → am_mt j := am_mts mtn_252 (fun _ => mtL_leads)
theorem mtL_sumOf : am_mt 253 := ⟨by decide, rfl, rfl, GL_sumOf, Or.inl ⟨rfl, rfl⟩⟩
theorem mtn_254 : ∀ j, j < 254 → j ≠ qW_law_ → am_mt j := am_mts mtn_253 (fun _ => mtL_sumOf)
theorem mtL_lookAt : am_mt 254 := ⟨by decide, rfl, rfl, GL_lookAt, Or.inl ⟨rfl, rfl⟩⟩
theorem mtn_255 : ∀ j, j < 255 → j ≠ qW_law_ → am_mt j := am_mts mtn_254 (fun _ => mtL_lookAt)
theorem mtL_holds : am_mt 255 := ⟨by decide, rfl, rfl, GL_holds, Or.inl ⟨rfl, rfl⟩⟩
theorem mtn_256 : ∀ j, j < 256 → j ≠ qW_law_ → am_mt j := am_mts mtn_255 (fun _ => mtL_holds)
theorem mtL_joined : am_mt 256 := ⟨by decide, rfl, rfl, GL_joined, Or.inl ⟨rfl, rfl⟩⟩
theorem mtn_257 : ∀ j, j < 257 → j ≠ qW_law_ → am_mt j := am_mts mtn_256 (fun _ => mtL_joined)
theorem mtY_readLine : am_mt 257 := ⟨by decide, rfl, rfl, GY_readLine, Or.inl ⟨rfl, rfl⟩⟩
theorem mtn_258 : ∀ j, j < 258 → j ≠ qW_law_ → am_mt j := am_mts mtn_257 (fun _ => mtY_readLine)
theorem mtY_readCondition : am_mt 258 := ⟨by decide, rfl, rfl, GY_readCondition, Or.inl ⟨rfl, rfl⟩⟩
theorem mtn_259 : ∀ j, j < 259 → j ≠ qW_law_ → am_mt j := am_mts mtn_258 (fun _ => mtY_readCondition)
theorem mtY_readAll : am_mt 259 := ⟨by decide, rfl, rfl, GY_readAll, Or.inl ⟨rfl, rfl⟩⟩
theorem mtn_260 : ∀ j, j < 260 → j ≠ qW_law_ → am_mt j := am_mts mtn_259 (fun _ => mtY_readAll)
theorem mtY_readAtom : am_mt 260 := ⟨by decide, rfl, rfl, GY_readAtom, Or.inl ⟨rfl, rfl⟩⟩
theorem mtn_261 : ∀ j, j < 261 → j ≠ qW_law_ → am_mt j := am_mts mtn_260 (fun _ => mtY_readAtom)
theorem mtY_readDeeper : am_mt 261 := ⟨by decide, rfl, rfl, GY_readDeeper, Or.inl ⟨rfl, rfl⟩⟩
theorem mtn_262 : ∀ j, j < 262 → j ≠ qW_law_ → am_mt j := am_mts mtn_261 (fun _ => mtY_readDeeper)
theorem mtY_readSum : am_mt 262 := ⟨by decide, rfl, rfl, GY_readSum, Or.inl ⟨rfl, rfl⟩⟩
theorem mtn_263 : ∀ j, j < 263 → j ≠ qW_law_ → am_mt j := am_mts mtn_262 (fun _ => mtY_readSum)
theorem mtM_settleGifts : am_mt 263 := ⟨by decide, rfl, rfl, GM_settleGifts, Or.inl ⟨rfl, rfl⟩⟩
theorem mtn_264 : ∀ j, j < 264 → j ≠ qW_law_ → am_mt j := am_mts mtn_263 (fun _ => mtM_settleGifts)
theorem mtM_takerOf : am_mt 264 := ⟨by decide, rfl, rfl, GM_takerOf, Or.inl ⟨rfl, rfl⟩⟩
theorem mtn_265 : ∀ j, j < 265 → j ≠ qW_law_ → am_mt j := am_mts mtn_264 (fun _ => mtM_takerOf)
theorem mtM_settleTrade : am_mt 265 := ⟨by decide, rfl, rfl, GM_settleTrade, Or.inl ⟨rfl, rfl⟩⟩
theorem mtn_266 : ∀ j, j < 266 → j ≠ qW_law_ → am_mt j := am_mts mtn_265 (fun _ => mtM_settleTrade)
theorem mtM_pointAll : am_mt 266 := ⟨by decide, rfl, rfl, GM_pointAll, Or.inl ⟨rfl, rfl⟩⟩
theorem mtn_267 : ∀ j, j < 267 → j ≠ qW_law_ → am_mt j := am_mts mtn_266 (fun _ => mtM_pointAll)
theorem mtM_rathest : am_mt 267 := ⟨by decide, rfl, rfl, GM_rathest, Or.inl ⟨rfl, rfl⟩⟩
theorem mtn_268 : ∀ j, j < 268 → j ≠ qW_law_ → am_mt j := am_mts mtn_267 (fun _ => mtM_rathest)
theorem mtM_likes : am_mt 268 := ⟨by decide, rfl, rfl, GM_likes, Or.inl ⟨rfl, rfl⟩⟩
theorem mtn_269 : ∀ j, j < 269 → j ≠ qW_law_ → am_mt j := am_mts mtn_268 (fun _ => mtM_likes)
theorem mtM_isBetter : am_mt 269 := ⟨by decide, rfl, rfl, GM_isBetter, Or.inl ⟨rfl, rfl⟩⟩
theorem mtn_270 : ∀ j, j < 270 → j ≠ qW_law_ → am_mt j := am_mts mtn_269 (fun _ => mtM_isBetter)
theorem mtM_closeRings : am_mt 270 := ⟨by decide, rfl, rfl, GM_closeRings, Or.inl ⟨rfl, rfl⟩⟩
theorem mtn_271 : ∀ j, j < 271 → j ≠ qW_law_ → am_mt j := am_mts mtn_270 (fun _ => mtM_closeRings)
theorem mtM_ringFrom : am_mt 271 := ⟨by decide, rfl, rfl, GM_ringFrom, Or.inl ⟨rfl, rfl⟩⟩
theorem mtn_272 : ∀ j, j < 272 → j ≠ qW_law_ → am_mt j := am_mts mtn_271 (fun _ => mtM_ringFrom)
theorem mtM_fewestWithAll : am_mt 272 := ⟨by decide, rfl, rfl, GM_fewestWithAll, Or.inl ⟨rfl, rfl⟩⟩
theorem mtn_273 : ∀ j, j < 273 → j ≠ qW_law_ → am_mt j := am_mts mtn_272 (fun _ => mtM_fewestWithAll)
theorem mtQ_readLine : am_mt 273 := ⟨by decide, rfl, rfl, GQ_readLine, Or.inl ⟨rfl, rfl⟩⟩
theorem mtn_274 : ∀ j, j < 274 → j ≠ qW_law_ → am_mt j := am_mts mtn_273 (fun _ => mtQ_readLine)
theorem mtQ_readThing : am_mt 274 := ⟨by decide, rfl, rfl, GQ_readThing, Or.inl ⟨rfl, rfl⟩⟩
theorem mtn_275 : ∀ j, j < 275 → j ≠ qW_law_ → am_mt j := am_mts mtn_274 (fun _ => mtQ_readThing)
theorem mtQ_readChild : am_mt 275 := ⟨by decide, rfl, rfl, GQ_readChild, Or.inl ⟨rfl, rfl⟩⟩
theorem mtn_276 : ∀ j, j < 276 → j ≠ qW_law_ → am_mt j := am_mts mtn_275 (fun _ => mtQ_readChild)
theorem mtQ_readWish : am_mt 276 := ⟨by decide, rfl, rfl, GQ_readWish, Or.inl ⟨rfl, rfl⟩⟩
theorem mtn_277 : ∀ j, j < 277 → j ≠ qW_law_ → am_mt j := am_mts mtn_276 (fun _ => mtQ_readWish)
theorem mtQ_readKnot : am_mt 277 := ⟨by decide, rfl, rfl, GQ_readKnot, Or.inl ⟨rfl, rfl⟩⟩
theorem mtn_278 : ∀ j, j < 278 → j ≠ qW_law_ → am_mt j := am_mts mtn_277 (fun _ => mtQ_readKnot)
theorem mtQ_isFree : am_mt 278 := ⟨by decide, rfl, rfl, GQ_isFree, Or.inl ⟨rfl, rfl⟩⟩
theorem mtn_279 : ∀ j, j < 279 → j ≠ qW_law_ → am_mt j := am_mts mtn_278 (fun _ => mtQ_isFree)
theorem mtQ_readMonth : am_mt 279 := ⟨by decide, rfl, rfl, GQ_readMonth, Or.inl ⟨rfl, rfl⟩⟩
theorem mtn_280 : ∀ j, j < 280 → j ≠ qW_law_ → am_mt j := am_mts mtn_279 (fun _ => mtQ_readMonth)
theorem mtQ_readNumber : am_mt 280 := ⟨by decide, rfl, rfl, GQ_readNumber, Or.inl ⟨rfl, rfl⟩⟩
theorem mtn_281 : ∀ j, j < 281 → j ≠ qW_law_ → am_mt j := am_mts mtn_280 (fun _ => mtQ_readNumber)
theorem mtP_remember : am_mt 281 := ⟨by decide, rfl, rfl, GP_remember, Or.inl ⟨rfl, rfl⟩⟩
theorem mtn_282 : ∀ j, j < 282 → j ≠ qW_law_ → am_mt j := am_mts mtn_281 (fun _ => mtP_remember)
theorem mtP_bringBack : am_mt 282 := ⟨by decide, rfl, rfl, GP_bringBack, Or.inl ⟨rfl, rfl⟩⟩
theorem mtn_283 : ∀ j, j < 283 → j ≠ qW_law_ → am_mt j := am_mts mtn_282 (fun _ => mtP_bringBack)
theorem mtP_forget : am_mt 283 := ⟨by decide, rfl, rfl, GP_forget, Or.inl ⟨rfl, rfl⟩⟩
theorem mtn_284 : ∀ j, j < 284 → j ≠ qW_law_ → am_mt j := am_mts mtn_283 (fun _ => mtP_forget)
theorem mtS_copyFrom : am_mt 284 := ⟨by decide, rfl, rfl, GS_copyFrom, Or.inl ⟨rfl, rfl⟩⟩
theorem mtn_285 : ∀ j, j < 285 → j ≠ qW_law_ → am_mt j := am_mts mtn_284 (fun _ => mtS_copyFrom)
theorem mtS_copyTable : am_mt 285 := ⟨by decide, rfl, rfl, GS_copyTable, Or.inl ⟨rfl, rfl⟩⟩
theorem mtn_286 : ∀ j, j < 286 → j ≠ qW_law_ → am_mt j := am_mts mtn_285 (fun _ => mtS_copyTable)
theorem mtS_add : am_mt 286 := ⟨by decide, rfl, rfl, GS_add, Or.inl ⟨rfl, rfl⟩⟩
theorem mtn_287 : ∀ j, j < 287 → j ≠ qW_law_ → am_mt j := am_mts mtn_286 (fun _ => mtS_add)
theorem mtS_draw : am_mt 287 := ⟨by decide, rfl, rfl, GS_draw, Or.inl ⟨rfl, rfl⟩⟩
theorem mtn_288 : ∀ j, j < 288 → j ≠ qW_law_ → am_mt j := am_mts mtn_287 (fun _ => mtS_draw)
theorem mtS_drawThing : am_mt 288 := ⟨by decide, rfl, rfl, GS_drawThing, Or.inl ⟨rfl, rfl⟩⟩
theorem mtn_289 : ∀ j, j < 289 → j ≠ qW_law_ → am_mt j := am_mts mtn_288 (fun _ => mtS_drawThing)
theorem mtS_pass : am_mt 289 := ⟨by decide, rfl, rfl, GS_pass, Or.inl ⟨rfl, rfl⟩⟩
theorem mtn_290 : ∀ j, j < 290 → j ≠ qW_law_ → am_mt j := am_mts mtn_289 (fun _ => mtS_pass)
theorem mtS_losesLastFinger : am_mt 290 := ⟨by decide, rfl, rfl, GS_losesLastFinger, Or.inl ⟨rfl, rfl⟩⟩
theorem mtn_291 : ∀ j, j < 291 → j ≠ qW_law_ → am_mt j := am_mts mtn_290 (fun _ => mtS_losesLastFinger)
theorem mtS_opens : am_mt 291 := ⟨by decide, rfl, rfl, GS_opens, Or.inl ⟨rfl, rfl⟩⟩
theorem mtn_292 : ∀ j, j < 292 → j ≠ qW_law_ → am_mt j := am_mts mtn_291 (fun _ => mtS_opens)
theorem mtS_isMovable : am_mt 292 := ⟨by decide, rfl, rfl, GS_isMovable, Or.inl ⟨rfl, rfl⟩⟩
theorem mtn_293 : ∀ j, j < 293 → j ≠ qW_law_ → am_mt j := am_mts mtn_292 (fun _ => mtS_isMovable)
theorem mtS_moveFinger : am_mt 293 := ⟨by decide, rfl, rfl, GS_moveFinger, Or.inl ⟨rfl, rfl⟩⟩
theorem mtn_294 : ∀ j, j < 294 → j ≠ qW_law_ → am_mt j := am_mts mtn_293 (fun _ => mtS_moveFinger)
theorem mtS_tie : am_mt 294 := ⟨by decide, rfl, rfl, GS_tie, Or.inl ⟨rfl, rfl⟩⟩
theorem mtn_295 : ∀ j, j < 295 → j ≠ qW_law_ → am_mt j := am_mts mtn_294 (fun _ => mtS_tie)
theorem mtS_untie : am_mt 295 := ⟨by decide, rfl, rfl, GS_untie, Or.inl ⟨rfl, rfl⟩⟩
theorem mtn_296 : ∀ j, j < 296 → j ≠ qW_law_ → am_mt j := am_mts mtn_295 (fun _ => mtS_untie)
theorem mtS_pairOf : am_mt 296 := ⟨by decide, rfl, rfl, GS_pairOf, Or.inl ⟨rfl, rfl⟩⟩
theorem mtn_297 : ∀ j, j < 297 → j ≠ qW_law_ → am_mt j := am_mts mtn_296 (fun _ => mtS_pairOf)
theorem mtS_everyone : am_mt 297 := ⟨by decide, rfl, rfl, GS_everyone, Or.inl ⟨rfl, rfl⟩⟩
theorem mtn_298 : ∀ j, j < 298 → j ≠ qW_law_ → am_mt j := am_mts mtn_297 (fun _ => mtS_everyone)
theorem mtS_bitsOf : am_mt 298 := ⟨by decide, rfl, rfl, GS_bitsOf, Or.inl ⟨rfl, rfl⟩⟩
theorem mtn_299 : ∀ j, j < 299 → j ≠ qW_law_ → am_mt j := am_mts mtn_298 (fun _ => mtS_bitsOf)
theorem mtS_howMany : am_mt 299 := ⟨by decide, rfl, rfl, GS_howMany, Or.inl ⟨rfl, rfl⟩⟩
theorem mtn_300 : ∀ j, j < 300 → j ≠ qW_law_ → am_mt j := am_mts mtn_299 (fun _ => mtS_howMany)
theorem mtS_allWeights : am_mt 300 := ⟨by decide, rfl, rfl, GS_allWeights, Or.inl ⟨rfl, rfl⟩⟩
theorem mtn_301 : ∀ j, j < 301 → j ≠ qW_law_ → am_mt j := am_mts mtn_300 (fun _ => mtS_allWeights)
theorem mtS_allFate : am_mt 301 := ⟨by decide, rfl, rfl, GS_allFate, Or.inl ⟨rfl, rfl⟩⟩
theorem mtn_302 : ∀ j, j < 302 → j ≠ qW_law_ → am_mt j := am_mts mtn_301 (fun _ => mtS_allFate)
theorem mtS_allShut : am_mt 302 := ⟨by decide, rfl, rfl, GS_allShut, Or.inl ⟨rfl, rfl⟩⟩
theorem mtn_303 : ∀ j, j < 303 → j ≠ qW_law_ → am_mt j := am_mts mtn_302 (fun _ => mtS_allShut)
theorem mtS_price : am_mt 303 := ⟨by decide, rfl, rfl, GS_price, Or.inl ⟨rfl, rfl⟩⟩
theorem mtn_304 : ∀ j, j < 304 → j ≠ qW_law_ → am_mt j := am_mts mtn_303 (fun _ => mtS_price)
theorem mtS_share : am_mt 304 := ⟨by decide, rfl, rfl, GS_share, Or.inl ⟨rfl, rfl⟩⟩
theorem mtn_305 : ∀ j, j < 305 → j ≠ qW_law_ → am_mt j := am_mts mtn_304 (fun _ => mtS_share)
theorem mtS_worthKept : am_mt 305 := ⟨by decide, rfl, rfl, GS_worthKept, Or.inl ⟨rfl, rfl⟩⟩
theorem mtn_306 : ∀ j, j < 306 → j ≠ qW_law_ → am_mt j := am_mts mtn_305 (fun _ => mtS_worthKept)
theorem mtS_latestRowOf : am_mt 306 := ⟨by decide, rfl, rfl, GS_latestRowOf, Or.inl ⟨rfl, rfl⟩⟩
theorem mtn_307 : ∀ j, j < 307 → j ≠ qW_law_ → am_mt j := am_mts mtn_306 (fun _ => mtS_latestRowOf)
theorem mtT_put : am_mt 307 := ⟨by decide, rfl, rfl, GT_put, Or.inl ⟨rfl, rfl⟩⟩
theorem mtn_308 : ∀ j, j < 308 → j ≠ qW_law_ → am_mt j := am_mts mtn_307 (fun _ => mtT_put)
theorem mtT_takeRows : am_mt 308 := ⟨by decide, rfl, rfl, GT_takeRows, Or.inl ⟨rfl, rfl⟩⟩
theorem mtn_309 : ∀ j, j < 309 → j ≠ qW_law_ → am_mt j := am_mts mtn_308 (fun _ => mtT_takeRows)
theorem mtT_left : am_mt 309 := ⟨by decide, rfl, rfl, GT_left, Or.inl ⟨rfl, rfl⟩⟩
theorem mtn_310 : ∀ j, j < 310 → j ≠ qW_law_ → am_mt j := am_mts mtn_309 (fun _ => mtT_left)
theorem mtT_right : am_mt 310 := ⟨by decide, rfl, rfl, GT_right, Or.inl ⟨rfl, rfl⟩⟩
theorem mtn_311 : ∀ j, j < 311 → j ≠ qW_law_ → am_mt j := am_mts mtn_310 (fun _ => mtT_right)
theorem mtX_read : am_mt 311 := ⟨by decide, rfl, rfl, GX_read, Or.inl ⟨rfl, rfl⟩⟩
theorem mtn_312 : ∀ j, j < 312 → j ≠ qW_law_ → am_mt j := am_mts mtn_311 (fun _ => mtX_read)
theorem mtX_code : am_mt 312 := ⟨by decide, rfl, rfl, GX_code, Or.inl ⟨rfl, rfl⟩⟩
theorem mtn_313 : ∀ j, j < 313 → j ≠ qW_law_ → am_mt j := am_mts mtn_312 (fun _ => mtX_code)
theorem mtX_step : am_mt 313 := ⟨by decide, rfl, rfl, GX_step, Or.inl ⟨rfl, rfl⟩⟩
theorem mtn_314 : ∀ j, j < 314 → j ≠ qW_law_ → am_mt j := am_mts mtn_313 (fun _ => mtX_step)
theorem mtX_take : am_mt 314 := ⟨by decide, rfl, rfl, GX_take, Or.inl ⟨rfl, rfl⟩⟩
theorem mtn_315 : ∀ j, j < 315 → j ≠ qW_law_ → am_mt j := am_mts mtn_314 (fun _ => mtX_take)
theorem mtX_number : am_mt 315 := ⟨by decide, rfl, rfl, GX_number, Or.inl ⟨rfl, rfl⟩⟩
theorem mtn_316 : ∀ j, j < 316 → j ≠ qW_law_ → am_mt j := am_mts mtn_315 (fun _ => mtX_number)
theorem mtX_letter : am_mt 316 := ⟨by decide, rfl, rfl, GX_letter, Or.inl ⟨rfl, rfl⟩⟩
theorem mtn_317 : ∀ j, j < 317 → j ≠ qW_law_ → am_mt j := am_mts mtn_316 (fun _ => mtX_letter)
theorem mtX_split : am_mt 317 := ⟨by decide, rfl, rfl, GX_split, Or.inl ⟨rfl, rfl⟩⟩
theorem mtn_318 : ∀ j, j < 318 → j ≠ qW_law_ → am_mt j := am_mts mtn_317 (fun _ => mtX_split)
theorem mtX_endOf : am_mt 318 := ⟨by decide, rfl, rfl, GX_endOf, Or.inl ⟨rfl, rfl⟩⟩
theorem mtn_319 : ∀ j, j < 319 → j ≠ qW_law_ → am_mt j := am_mts mtn_318 (fun _ => mtX_endOf)
theorem mtX_codeOf : am_mt 319 := ⟨by decide, rfl, rfl, GX_codeOf, Or.inl ⟨rfl, rfl⟩⟩
theorem mtn_320 : ∀ j, j < 320 → j ≠ qW_law_ → am_mt j := am_mts mtn_319 (fun _ => mtX_codeOf)
theorem mtX_isLetter : am_mt 320 := ⟨by decide, rfl, rfl, GX_isLetter, Or.inl ⟨rfl, rfl⟩⟩
theorem mtn_321 : ∀ j, j < 321 → j ≠ qW_law_ → am_mt j := am_mts mtn_320 (fun _ => mtX_isLetter)
theorem mtX_isDigit : am_mt 321 := ⟨by decide, rfl, rfl, GX_isDigit, Or.inl ⟨rfl, rfl⟩⟩
theorem mtn_322 : ∀ j, j < 322 → j ≠ qW_law_ → am_mt j := am_mts mtn_321 (fun _ => mtX_isDigit)
theorem mtX_numberOf : am_mt 322 := ⟨by decide, rfl, rfl, GX_numberOf, Or.inl ⟨rfl, rfl⟩⟩
theorem mtn_323 : ∀ j, j < 323 → j ≠ qW_law_ → am_mt j := am_mts mtn_322 (fun _ => mtX_numberOf)
theorem mtX_wordOf : am_mt 323 := ⟨by decide, rfl, rfl, GX_wordOf, Or.inl ⟨rfl, rfl⟩⟩
theorem mtn_324 : ∀ j, j < 324 → j ≠ qW_law_ → am_mt j := am_mts mtn_323 (fun _ => mtX_wordOf)
theorem mtX_isField : am_mt 324 := ⟨by decide, rfl, rfl, GX_isField, Or.inl ⟨rfl, rfl⟩⟩
theorem mtn_325 : ∀ j, j < 325 → j ≠ qW_law_ → am_mt j := am_mts mtn_324 (fun _ => mtX_isField)
theorem mtW_parish : am_mt 325 := ⟨by decide, rfl, rfl, GW_parish, Or.inr rfl⟩
theorem mtn_326 : ∀ j, j < 326 → j ≠ qW_law_ → am_mt j := am_mts mtn_325 (fun _ => mtW_parish)
theorem mtW_law : am_mt 326 := ⟨by decide, rfl, rfl, GW_law, Or.inr rfl⟩
theorem mtn_327 : ∀ j, j < 327 → j ≠ qW_law_ → am_mt j := am_mts mtn_326 (fun _ => mtW_law)
theorem mtW_thing : am_mt 327 := ⟨by decide, rfl, rfl, GW_thing, Or.inr rfl⟩
theorem mtn_328 : ∀ j, j < 328 → j ≠ qW_law_ → am_mt j := am_mts mtn_327 (fun _ => mtW_thing)
theorem mtW_child : am_mt 328 := ⟨by decide, rfl, rfl, GW_child, Or.inr rfl⟩
theorem mtn_329 : ∀ j, j < 329 → j ≠ qW_law_ → am_mt j := am_mts mtn_328 (fun _ => mtW_child)
theorem mtW_months : am_mt 329 := ⟨by decide, rfl, rfl, GW_months, Or.inr rfl⟩
theorem mtn_330 : ∀ j, j < 330 → j ≠ qW_law_ → am_mt j := am_mts mtn_329 (fun _ => mtW_months)
theorem mtW_birth : am_mt 330 := ⟨by decide, rfl, rfl, GW_birth, Or.inr rfl⟩
theorem mtn_331 : ∀ j, j < 331 → j ≠ qW_law_ → am_mt j := am_mts mtn_330 (fun _ => mtW_birth)
theorem mtW_move : am_mt 331 := ⟨by decide, rfl, rfl, GW_move, Or.inr rfl⟩
theorem mtn_332 : ∀ j, j < 332 → j ≠ qW_law_ → am_mt j := am_mts mtn_331 (fun _ => mtW_move)
theorem mtW_blow : am_mt 332 := ⟨by decide, rfl, rfl, GW_blow, Or.inr rfl⟩
theorem mtn_333 : ∀ j, j < 333 → j ≠ qW_law_ → am_mt j := am_mts mtn_332 (fun _ => mtW_blow)
theorem mtW_wish : am_mt 333 := ⟨by decide, rfl, rfl, GW_wish, Or.inr rfl⟩
theorem mtn_334 : ∀ j, j < 334 → j ≠ qW_law_ → am_mt j := am_mts mtn_333 (fun _ => mtW_wish)
theorem mtW_grip : am_mt 334 := ⟨by decide, rfl, rfl, GW_grip, Or.inr rfl⟩
theorem mtn_335 : ∀ j, j < 335 → j ≠ qW_law_ → am_mt j := am_mts mtn_334 (fun _ => mtW_grip)
theorem mtW_change : am_mt 335 := ⟨by decide, rfl, rfl, GW_change, Or.inr rfl⟩
theorem mtn_336 : ∀ j, j < 336 → j ≠ qW_law_ → am_mt j := am_mts mtn_335 (fun _ => mtW_change)
theorem mtW_cut : am_mt 336 := ⟨by decide, rfl, rfl, GW_cut, Or.inr rfl⟩
theorem mtn_337 : ∀ j, j < 337 → j ≠ qW_law_ → am_mt j := am_mts mtn_336 (fun _ => mtW_cut)
theorem mtW_moves : am_mt 337 := ⟨by decide, rfl, rfl, GW_moves, Or.inr rfl⟩
theorem mtn_338 : ∀ j, j < 338 → j ≠ qW_law_ → am_mt j := am_mts mtn_337 (fun _ => mtW_moves)
theorem mtW_first : am_mt 338 := ⟨by decide, rfl, rfl, GW_first, Or.inr rfl⟩
theorem mtn_339 : ∀ j, j < 339 → j ≠ qW_law_ → am_mt j := am_mts mtn_338 (fun _ => mtW_first)
theorem mtW_can : am_mt 339 := ⟨by decide, rfl, rfl, GW_can, Or.inr rfl⟩
theorem mtn_340 : ∀ j, j < 340 → j ≠ qW_law_ → am_mt j := am_mts mtn_339 (fun _ => mtW_can)
theorem mtW_feels : am_mt 340 := ⟨by decide, rfl, rfl, GW_feels, Or.inr rfl⟩
theorem mtn_341 : ∀ j, j < 341 → j ≠ qW_law_ → am_mt j := am_mts mtn_340 (fun _ => mtW_feels)
theorem mtW_odds : am_mt 341 := ⟨by decide, rfl, rfl, GW_odds, Or.inr rfl⟩
theorem mtn_342 : ∀ j, j < 342 → j ≠ qW_law_ → am_mt j := am_mts mtn_341 (fun _ => mtW_odds)
theorem mtW_ask : am_mt 342 := ⟨by decide, rfl, rfl, GW_ask, Or.inr rfl⟩
theorem mtn_343 : ∀ j, j < 343 → j ≠ qW_law_ → am_mt j := am_mts mtn_342 (fun _ => mtW_ask)
theorem mtW_waits : am_mt 343 := ⟨by decide, rfl, rfl, GW_waits, Or.inr rfl⟩
theorem mtn_344 : ∀ j, j < 344 → j ≠ qW_law_ → am_mt j := am_mts mtn_343 (fun _ => mtW_waits)
theorem mtW_keep : am_mt 344 := ⟨by decide, rfl, rfl, GW_keep, Or.inr rfl⟩
theorem mtn_345 : ∀ j, j < 345 → j ≠ qW_law_ → am_mt j := am_mts mtn_344 (fun _ => mtW_keep)
theorem mtW_fates : am_mt 345 := ⟨by decide, rfl, rfl, GW_fates, Or.inr rfl⟩
theorem mtn_346 : ∀ j, j < 346 → j ≠ qW_law_ → am_mt j := am_mts mtn_345 (fun _ => mtW_fates)
theorem mtW_gives : am_mt 346 := ⟨by decide, rfl, rfl, GW_gives, Or.inr rfl⟩
theorem mtn_347 : ∀ j, j < 347 → j ≠ qW_law_ → am_mt j := am_mts mtn_346 (fun _ => mtW_gives)
theorem mtW_trade : am_mt 347 := ⟨by decide, rfl, rfl, GW_trade, Or.inr rfl⟩
theorem mtn_348 : ∀ j, j < 348 → j ≠ qW_law_ → am_mt j := am_mts mtn_347 (fun _ => mtW_trade)
theorem mtW_ring : am_mt 348 := ⟨by decide, rfl, rfl, GW_ring, Or.inr rfl⟩
theorem mtn_349 : ∀ j, j < 349 → j ≠ qW_law_ → am_mt j := am_mts mtn_348 (fun _ => mtW_ring)
theorem mtW_swap : am_mt 349 := ⟨by decide, rfl, rfl, GW_swap, Or.inr rfl⟩
theorem mtn_350 : ∀ j, j < 350 → j ≠ qW_law_ → am_mt j := am_mts mtn_349 (fun _ => mtW_swap)
theorem mtW_rules : am_mt 350 := ⟨by decide, rfl, rfl, GW_rules, Or.inr rfl⟩
theorem mtn_351 : ∀ j, j < 351 → j ≠ qW_law_ → am_mt j := am_mts mtn_350 (fun _ => mtW_rules)
theorem mtW_tell : am_mt 351 := ⟨by decide, rfl, rfl, GW_tell, Or.inr rfl⟩
theorem mtn_352 : ∀ j, j < 352 → j ≠ qW_law_ → am_mt j := am_mts mtn_351 (fun _ => mtW_tell)
theorem mtW_rests : am_mt 352 := ⟨by decide, rfl, rfl, GW_rests, Or.inr rfl⟩
theorem mtn_353 : ∀ j, j < 353 → j ≠ qW_law_ → am_mt j := am_mts mtn_352 (fun _ => mtW_rests)
theorem mtW_nothing : am_mt 353 := ⟨by decide, rfl, rfl, GW_nothing, Or.inr rfl⟩
theorem mtn_354 : ∀ j, j < 354 → j ≠ qW_law_ → am_mt j := am_mts mtn_353 (fun _ => mtW_nothing)
theorem mtW_ahead : am_mt 354 := ⟨by decide, rfl, rfl, GW_ahead, Or.inr rfl⟩
theorem mtn_355 : ∀ j, j < 355 → j ≠ qW_law_ → am_mt j := am_mts mtn_354 (fun _ => mtW_ahead)
theorem mtW_trial : am_mt 355 := ⟨by decide, rfl, rfl, GW_trial, Or.inr rfl⟩
theorem mtn_356 : ∀ j, j < 356 → j ≠ qW_law_ → am_mt j := am_mts mtn_355 (fun _ => mtW_trial)
theorem mtW_span : am_mt 356 := ⟨by decide, rfl, rfl, GW_span, Or.inr rfl⟩
theorem mtn_357 : ∀ j, j < 357 → j ≠ qW_law_ → am_mt j := am_mts mtn_356 (fun _ => mtW_span)
theorem mtW_led : am_mt 357 := ⟨by decide, rfl, rfl, GW_led, Or.inr rfl⟩
theorem mtn_358 : ∀ j, j < 358 → j ≠ qW_law_ → am_mt j := am_mts mtn_357 (fun _ => mtW_led)
theorem mtW_log : am_mt 358 := ⟨by decide, rfl, rfl, GW_log, Or.inr rfl⟩
theorem mtn_359 : ∀ j, j < 359 → j ≠ qW_law_ → am_mt j := am_mts mtn_358 (fun _ => mtW_log)
theorem mtn_360 : ∀ j, j < 360 → j ≠ qW_law_ → am_mt j := am_mts mtn_359 (fun q => absurd rfl q)
theorem mtJ_bitCount_0f7a4 : am_mt 360 := ⟨by decide, rfl, rfl, GJ_bitCount_0f7a4, Or.inl ⟨rfl, rfl⟩⟩
theorem mtn_361 : ∀ j, j < 361 → j ≠ qW_law_ → am_mt j := am_mts mtn_360 (fun _ => mtJ_bitCount_0f7a4)
theorem mtJ_numberOfTrailingZeros_0f7a4 : am_mt 361 := ⟨by decide, rfl, rfl, GJ_numberOfTrailingZeros_0f7a4, Or.inl ⟨rfl, rfl⟩⟩
theorem mtn_362 : ∀ j, j < 362 → j ≠ qW_law_ → am_mt j := am_mts mtn_361 (fun _ => mtJ_numberOfTrailingZeros_0f7a4)
theorem am_sound_ok {l : Launch} {G : am_G} (htr : l.stackTraces = false) : ∀ d, am_IH l G d := am_sound am_cls_ok am_JW_ok am_SL_ok am_SC_ok htr mtn_362
