theorem wd_318 : ((.methodLink "UnifyBench$Unifier" 3 y_Object_init) : Cond) ∈ GW := gw_2 145 (by decide +kernel) rfl
theorem wd_319 : ((.fieldLink "UnifyBench$Unifier" 9 "UnifyBench$Unifier" "links" "[I") : Cond) ∈ GW := gw_2 149 (by decide +kernel) rfl
theorem wd_320 : ((.fieldLink "UnifyBench$Unifier" 15 "UnifyBench$Unifier" "states" "[I") : Cond) ∈ GW := gw_2 150 (by decide +kernel) rfl
theorem wd_321 : ((.classLink "UnifyBench$Unifier" 18 "UnifyBench$Ints") : Cond) ∈ GW := gw_2 146 (by decide +kernel) rfl
theorem wd_322 : ((.methodLinkNest "UnifyBench$Unifier" 20 y_Ints_init "UnifyBench") : Cond) ∈ NWL := nwl_in (gt_2 147 (by decide +kernel)) rfl
theorem wd_323 : ((.fieldLink "UnifyBench$Unifier" 21 "UnifyBench$Unifier" "pairs" "LUnifyBench$Ints;") : Cond) ∈ GW := gw_2 151 (by decide +kernel) rfl
theorem wd_324 : ((.fieldLink "UnifyBench$Unifier" 25 "UnifyBench$Unifier" "joined" "LUnifyBench$Ints;") : Cond) ∈ GW := gw_2 152 (by decide +kernel) rfl
theorem wd_325 : ((.fieldLink "UnifyBench$Unifier" 28 "UnifyBench$Unifier" "seen" "LUnifyBench$Ints;") : Cond) ∈ GW := gw_2 153 (by decide +kernel) rfl
theorem wd_326 : ((.fieldLink "UnifyBench$Unifier" 31 "UnifyBench$Unifier" "path" "LUnifyBench$Ints;") : Cond) ∈ GW := gw_2 154 (by decide +kernel) rfl
theorem wd_327 : ((.fieldLink "UnifyBench$Unifier" 34 "UnifyBench$Unifier" "terms" "LUnifyBench$Terms;") : Cond) ∈ GW := gw_2 148 (by decide +kernel) rfl
theorem wd_328 : ((.code y_Terms_nodes prog_11_method_2_code 1 (some .int)) : Cond) ∈ GW := gw_5 70 (by decide +kernel) rfl
theorem wd_329 : ((.methodLink "UnifyBench$Unifier" 55 y_Terms_nodes) : Cond) ∈ GW := gw_5 67 (by decide +kernel) rfl
theorem wd_330 : ((.instanceMethod y_Terms_nodes) : Cond) ∈ GW := gw_5 68 (by decide +kernel) rfl
theorem wd_331 : ((.selects "UnifyBench$Terms" y_Terms_nodes y_Terms_nodes) : Cond) ∈ GW := gw_5 69 (by decide +kernel) rfl
theorem wd_332 : ((.methodLink "UnifyBench$Unifier" 61 y_Ints_size) : Cond) ∈ GW := gw_5 77 (by decide +kernel) rfl
theorem wd_333 : ((.methodLink "UnifyBench$Unifier" 68 y_Ints_cut) : Cond) ∈ GW := gw_5 137 (by decide +kernel) rfl
theorem wd_334 : ((.methodLink "UnifyBench$Unifier" 64 y_Ints_at) : Cond) ∈ GW := gw_5 136 (by decide +kernel) rfl
theorem wd_335 : ((.methodLink "UnifyBench$Unifier" 72 y_Ints_push) : Cond) ∈ GW := gw_5 75 (by decide +kernel) rfl
theorem wd_336 : ((.code y_Terms_meant prog_11_method_22_code 4 (some .int)) : Cond) ∈ GW := gw_5 86 (by decide +kernel) rfl
theorem wd_337 : ((.methodLink "UnifyBench$Unifier" 103 y_Terms_meant) : Cond) ∈ GW := gw_5 83 (by decide +kernel) rfl
theorem wd_338 : ((.instanceMethod y_Terms_meant) : Cond) ∈ GW := gw_5 84 (by decide +kernel) rfl
theorem wd_339 : ((.selects "UnifyBench$Terms" y_Terms_meant y_Terms_meant) : Cond) ∈ GW := gw_5 85 (by decide +kernel) rfl
theorem wd_340 : ((.constant "UnifyBench$Unifier" 75 1000000) : Cond) ∈ GW := gw_5 76 (by decide +kernel) rfl
theorem wd_341 : ((.code y_Terms_isVariable prog_11_method_13_code 2 (some .boolean)) : Cond) ∈ GW := gw_5 94 (by decide +kernel) rfl
theorem wd_342 : ((.methodLink "UnifyBench$Unifier" 85 y_Terms_isVariable) : Cond) ∈ GW := gw_5 91 (by decide +kernel) rfl
theorem wd_343 : ((.instanceMethod y_Terms_isVariable) : Cond) ∈ GW := gw_5 92 (by decide +kernel) rfl
theorem wd_344 : ((.selects "UnifyBench$Terms" y_Terms_isVariable y_Terms_isVariable) : Cond) ∈ GW := gw_5 93 (by decide +kernel) rfl
theorem wd_345 : ((.code y_Terms_areAlike prog_11_method_17_code 3 (some .boolean)) : Cond) ∈ GW := gw_5 102 (by decide +kernel) rfl
theorem wd_346 : ((.methodLink "UnifyBench$Unifier" 92 y_Terms_areAlike) : Cond) ∈ GW := gw_5 99 (by decide +kernel) rfl
theorem wd_347 : ((.instanceMethod y_Terms_areAlike) : Cond) ∈ GW := gw_5 100 (by decide +kernel) rfl
theorem wd_348 : ((.selects "UnifyBench$Terms" y_Terms_areAlike y_Terms_areAlike) : Cond) ∈ GW := gw_5 101 (by decide +kernel) rfl
theorem wd_349 : ((.code y_Unifier_link prog_12_method_8_code 3 none) : Cond) ∈ GW := gw_5 98 (by decide +kernel) rfl
theorem wd_350 : ((.initialized "UnifyBench$Unifier") : Cond) ∈ GW := gw_1 18 (by decide +kernel) rfl
theorem wd_351 : ((.methodLink "UnifyBench$Unifier" 88 y_Unifier_link) : Cond) ∈ GW := gw_5 95 (by decide +kernel) rfl
theorem wd_352 : ((.instanceMethod y_Unifier_link) : Cond) ∈ GW := gw_5 97 (by decide +kernel) rfl
theorem wd_353 : (.selects R_Unifier y_Unifier_link y_Unifier_link : Cond) ∈ GW := gw_pr 39 (by decide +kernel) rfl
theorem wd_354 : ((.code y_Terms_partsOf prog_11_method_20_code 2 (some .int)) : Cond) ∈ GW := gw_5 106 (by decide +kernel) rfl
theorem wd_355 : ((.methodLink "UnifyBench$Unifier" 96 y_Terms_partsOf) : Cond) ∈ GW := gw_5 103 (by decide +kernel) rfl
theorem wd_356 : ((.instanceMethod y_Terms_partsOf) : Cond) ∈ GW := gw_5 104 (by decide +kernel) rfl
theorem wd_357 : ((.selects "UnifyBench$Terms" y_Terms_partsOf y_Terms_partsOf) : Cond) ∈ GW := gw_5 105 (by decide +kernel) rfl
theorem wd_358 : ((.code y_Terms_partAt prog_11_method_21_code 3 (some .int)) : Cond) ∈ GW := gw_5 111 (by decide +kernel) rfl
theorem wd_359 : ((.methodLink "UnifyBench$Unifier" 99 y_Terms_partAt) : Cond) ∈ GW := gw_5 108 (by decide +kernel) rfl
theorem wd_360 : ((.instanceMethod y_Terms_partAt) : Cond) ∈ GW := gw_5 109 (by decide +kernel) rfl
theorem wd_361 : ((.selects "UnifyBench$Terms" y_Terms_partAt y_Terms_partAt) : Cond) ∈ GW := gw_5 110 (by decide +kernel) rfl
theorem wd_362 : ((.methodLink "UnifyBench$Unifier" 76 y_Ints_pop) : Cond) ∈ GW := gw_5 78 (by decide +kernel) rfl
theorem wd_363 : ((.code y_Unifier_rootOf prog_12_method_9_code 5 (some .int)) : Cond) ∈ GW := gw_5 82 (by decide +kernel) rfl
theorem wd_364 : ((.methodLink "UnifyBench$Unifier" 79 y_Unifier_rootOf) : Cond) ∈ GW := gw_5 79 (by decide +kernel) rfl
theorem wd_365 : ((.instanceMethod y_Unifier_rootOf) : Cond) ∈ GW := gw_5 81 (by decide +kernel) rfl
theorem wd_366 : (.selects R_Unifier y_Unifier_rootOf y_Unifier_rootOf : Cond) ∈ GW := gw_pr 37 (by decide +kernel) rfl
theorem wd_367 : ((.code y_Unifier_joinRoots prog_12_method_7_code 5 (some .boolean)) : Cond) ∈ GW := gw_5 90 (by decide +kernel) rfl
theorem wd_368 : ((.methodLink "UnifyBench$Unifier" 82 y_Unifier_joinRoots) : Cond) ∈ GW := gw_5 87 (by decide +kernel) rfl
theorem wd_369 : ((.instanceMethod y_Unifier_joinRoots) : Cond) ∈ GW := gw_5 89 (by decide +kernel) rfl
theorem wd_370 : (.selects R_Unifier y_Unifier_joinRoots y_Unifier_joinRoots : Cond) ∈ GW := gw_pr 38 (by decide +kernel) rfl
theorem wd_371 : ((.code y_Unifier_enter prog_12_method_11_code 2 none) : Cond) ∈ GW := gw_5 119 (by decide +kernel) rfl
theorem wd_372 : ((.methodLink "UnifyBench$Unifier" 106 y_Unifier_enter) : Cond) ∈ GW := gw_5 116 (by decide +kernel) rfl
theorem wd_373 : ((.instanceMethod y_Unifier_enter) : Cond) ∈ GW := gw_5 118 (by decide +kernel) rfl
theorem wd_374 : (.selects R_Unifier y_Unifier_enter y_Unifier_enter : Cond) ∈ GW := gw_pr 41 (by decide +kernel) rfl
theorem wd_375 : ((.code y_Terms_variables prog_11_method_3_code 1 (some .int)) : Cond) ∈ GW := gw_5 127 (by decide +kernel) rfl
theorem wd_376 : ((.methodLink "UnifyBench$Unifier" 109 y_Terms_variables) : Cond) ∈ GW := gw_5 124 (by decide +kernel) rfl
theorem wd_377 : ((.instanceMethod y_Terms_variables) : Cond) ∈ GW := gw_5 125 (by decide +kernel) rfl
theorem wd_378 : ((.selects "UnifyBench$Terms" y_Terms_variables y_Terms_variables) : Cond) ∈ GW := gw_5 126 (by decide +kernel) rfl
theorem wd_379 : ((.code y_Terms_bind prog_11_method_23_code 3 none) : Cond) ∈ GW := gw_5 131 (by decide +kernel) rfl
theorem wd_380 : ((.methodLink "UnifyBench$Unifier" 112 y_Terms_bind) : Cond) ∈ GW := gw_5 128 (by decide +kernel) rfl
theorem wd_381 : ((.instanceMethod y_Terms_bind) : Cond) ∈ GW := gw_5 129 (by decide +kernel) rfl
theorem wd_382 : ((.selects "UnifyBench$Terms" y_Terms_bind y_Terms_bind) : Cond) ∈ GW := gw_5 130 (by decide +kernel) rfl
theorem wd_383 : ((.code y_Unifier_makeRoom prog_12_method_4_code 1 none) : Cond) ∈ GW := gw_5 66 (by decide +kernel) rfl
theorem wd_384 : ((.methodLink "UnifyBench$Unifier" 38 y_Unifier_makeRoom) : Cond) ∈ GW := gw_5 63 (by decide +kernel) rfl
theorem wd_385 : ((.instanceMethod y_Unifier_makeRoom) : Cond) ∈ GW := gw_5 65 (by decide +kernel) rfl
theorem wd_386 : (.selects R_Unifier y_Unifier_makeRoom y_Unifier_makeRoom : Cond) ∈ GW := gw_pr 35 (by decide +kernel) rfl
theorem wd_387 : ((.code y_Unifier_joinAll prog_12_method_6_code 7 (some .boolean)) : Cond) ∈ GW := gw_5 74 (by decide +kernel) rfl
theorem wd_388 : ((.methodLink "UnifyBench$Unifier" 41 y_Unifier_joinAll) : Cond) ∈ GW := gw_5 71 (by decide +kernel) rfl
theorem wd_389 : ((.instanceMethod y_Unifier_joinAll) : Cond) ∈ GW := gw_5 73 (by decide +kernel) rfl
theorem wd_390 : (.selects R_Unifier y_Unifier_joinAll y_Unifier_joinAll : Cond) ∈ GW := gw_pr 36 (by decide +kernel) rfl
theorem wd_391 : ((.code y_Unifier_clear prog_12_method_5_code 2 none) : Cond) ∈ GW := gw_5 135 (by decide +kernel) rfl
theorem wd_392 : ((.methodLink "UnifyBench$Unifier" 52 y_Unifier_clear) : Cond) ∈ GW := gw_5 132 (by decide +kernel) rfl
theorem wd_393 : ((.instanceMethod y_Unifier_clear) : Cond) ∈ GW := gw_5 134 (by decide +kernel) rfl
theorem wd_394 : (.selects R_Unifier y_Unifier_clear y_Unifier_clear : Cond) ∈ GW := gw_pr 43 (by decide +kernel) rfl
theorem wd_395 : ((.code y_Unifier_standsInNone prog_12_method_10_code 6 (some .boolean)) : Cond) ∈ GW := gw_5 115 (by decide +kernel) rfl
theorem wd_396 : ((.methodLink "UnifyBench$Unifier" 45 y_Unifier_standsInNone) : Cond) ∈ GW := gw_5 112 (by decide +kernel) rfl
theorem wd_397 : ((.instanceMethod y_Unifier_standsInNone) : Cond) ∈ GW := gw_5 114 (by decide +kernel) rfl
theorem wd_398 : (.selects R_Unifier y_Unifier_standsInNone y_Unifier_standsInNone : Cond) ∈ GW := gw_pr 40 (by decide +kernel) rfl
theorem wd_399 : ((.code y_Unifier_bindJoined prog_12_method_12_code 2 none) : Cond) ∈ GW := gw_5 123 (by decide +kernel) rfl
theorem wd_400 : ((.methodLink "UnifyBench$Unifier" 49 y_Unifier_bindJoined) : Cond) ∈ GW := gw_5 120 (by decide +kernel) rfl
theorem wd_401 : ((.instanceMethod y_Unifier_bindJoined) : Cond) ∈ GW := gw_5 122 (by decide +kernel) rfl
theorem wd_402 : (.selects R_Unifier y_Unifier_bindJoined y_Unifier_bindJoined : Cond) ∈ GW := gw_pr 42 (by decide +kernel) rfl
theorem d_Unifier_init_0 : decode b_Unifier_init 0 = .ok (.aload_n 0, 1) := by decide +kernel
theorem d_Unifier_init_1 : decode b_Unifier_init 1 = .ok (.invokespecial 3, 3) := by decide +kernel
theorem d_Unifier_init_4 : decode b_Unifier_init 4 = .ok (.aload_n 0, 1) := by decide +kernel
theorem d_Unifier_init_5 : decode b_Unifier_init 5 = .ok (.iconst 0, 1) := by decide +kernel
theorem d_Unifier_init_6 : decode b_Unifier_init 6 = .ok (.newarray .int, 2) := by decide +kernel
theorem d_Unifier_init_8 : decode b_Unifier_init 8 = .ok (.putfield 9, 3) := by decide +kernel
theorem d_Unifier_init_11 : decode b_Unifier_init 11 = .ok (.aload_n 0, 1) := by decide +kernel
theorem d_Unifier_init_12 : decode b_Unifier_init 12 = .ok (.iconst 0, 1) := by decide +kernel
theorem d_Unifier_init_13 : decode b_Unifier_init 13 = .ok (.newarray .int, 2) := by decide +kernel
theorem d_Unifier_init_15 : decode b_Unifier_init 15 = .ok (.putfield 15, 3) := by decide +kernel
theorem d_Unifier_init_18 : decode b_Unifier_init 18 = .ok (.aload_n 0, 1) := by decide +kernel
theorem d_Unifier_init_19 : decode b_Unifier_init 19 = .ok (.new 18, 3) := by decide +kernel
theorem d_Unifier_init_22 : decode b_Unifier_init 22 = .ok (.dup, 1) := by decide +kernel
theorem d_Unifier_init_23 : decode b_Unifier_init 23 = .ok (.invokespecial 20, 3) := by decide +kernel
theorem d_Unifier_init_26 : decode b_Unifier_init 26 = .ok (.putfield 21, 3) := by decide +kernel
theorem d_Unifier_init_29 : decode b_Unifier_init 29 = .ok (.aload_n 0, 1) := by decide +kernel
theorem d_Unifier_init_30 : decode b_Unifier_init 30 = .ok (.new 18, 3) := by decide +kernel
theorem d_Unifier_init_33 : decode b_Unifier_init 33 = .ok (.dup, 1) := by decide +kernel
theorem d_Unifier_init_34 : decode b_Unifier_init 34 = .ok (.invokespecial 20, 3) := by decide +kernel
theorem d_Unifier_init_37 : decode b_Unifier_init 37 = .ok (.putfield 25, 3) := by decide +kernel
theorem d_Unifier_init_40 : decode b_Unifier_init 40 = .ok (.aload_n 0, 1) := by decide +kernel
theorem d_Unifier_init_41 : decode b_Unifier_init 41 = .ok (.new 18, 3) := by decide +kernel
theorem d_Unifier_init_44 : decode b_Unifier_init 44 = .ok (.dup, 1) := by decide +kernel
theorem d_Unifier_init_45 : decode b_Unifier_init 45 = .ok (.invokespecial 20, 3) := by decide +kernel
theorem d_Unifier_init_48 : decode b_Unifier_init 48 = .ok (.putfield 28, 3) := by decide +kernel
theorem d_Unifier_init_51 : decode b_Unifier_init 51 = .ok (.aload_n 0, 1) := by decide +kernel
theorem d_Unifier_init_52 : decode b_Unifier_init 52 = .ok (.new 18, 3) := by decide +kernel
theorem d_Unifier_init_55 : decode b_Unifier_init 55 = .ok (.dup, 1) := by decide +kernel
theorem d_Unifier_init_56 : decode b_Unifier_init 56 = .ok (.invokespecial 20, 3) := by decide +kernel
theorem d_Unifier_init_59 : decode b_Unifier_init 59 = .ok (.putfield 31, 3) := by decide +kernel
theorem d_Unifier_init_62 : decode b_Unifier_init 62 = .ok (.aload_n 0, 1) := by decide +kernel
theorem d_Unifier_init_63 : decode b_Unifier_init 63 = .ok (.aload_n 1, 1) := by decide +kernel
theorem d_Unifier_init_64 : decode b_Unifier_init 64 = .ok (.putfield 34, 3) := by decide +kernel
theorem d_Unifier_init_67 : decode b_Unifier_init 67 = .ok (.return_, 1) := by decide +kernel
def p_Unifier_init : Option ((Nat × (Nat → Int32) × Nat × (Nat → Int32) × Int32 × Nat × (Nat → Int32) × Int32 × Nat × (Nat → Int32) × Int32 × Nat × (Nat → Int32) × Int32 × Nat × (Nat → Int32)) × Nat × Nat) := al 1 0 (al 1 0 (al 1 2 ((p_Ints_init).bind (fun ((a_size_4, a_items_n_4, a_items_f_4), mk4, sk4) => al mk4 sk4 (al 1 2 ((p_Ints_init).bind (fun ((a_size_6, a_items_n_6, a_items_f_6), mk6, sk6) => al mk6 sk6 (al 1 2 ((p_Ints_init).bind (fun ((a_size_8, a_items_n_8, a_items_f_8), mk8, sk8) => al mk8 sk8 (al 1 2 ((p_Ints_init).bind (fun ((a_size_10, a_items_n_10, a_items_f_10), mk10, sk10) => al mk10 sk10 (some ((0, (fun _ => 0 : Nat → Int32), 0, (fun _ => 0 : Nat → Int32), a_size_4, a_items_n_4, a_items_f_4, a_size_6, a_items_n_6, a_items_f_6, a_size_8, a_items_n_8, a_items_f_8, a_size_10, a_items_n_10, a_items_f_10), 0, 0)))))))))))))))
set_option maxHeartbeats 4000000 in
set_option maxRecDepth 100000 in
theorem c_Unifier_init (l : Launch) (g : va_G) (cs : Nat → ClassId) (ka : Nat → Nat) (a_terms : Nat) (a : Nat) (sz : Nat) (o_a_links_n : Nat) (o_a_links_f : Nat → Int32) (o_a_states_n : Nat) (o_a_states_f : Nat → Int32) (o_a_pairs_size : Int32) (o_a_pairs_items_n : Nat) (o_a_pairs_items_f : Nat → Int32) (o_a_joined_size : Int32) (o_a_joined_items_n : Nat) (o_a_joined_items_f : Nat → Int32) (o_a_seen_size : Int32) (o_a_seen_items_n : Nat) (o_a_seen_items_f : Nat → Int32) (o_a_path_size : Int32) (o_a_path_items_n : Nat) (o_a_path_items_f : Nat → Int32) (mc ms : Nat) (hok : p_Unifier_init = some ((o_a_links_n, o_a_links_f, o_a_states_n, o_a_states_f, o_a_pairs_size, o_a_pairs_items_n, o_a_pairs_items_f, o_a_joined_size, o_a_joined_items_n, o_a_joined_items_f, o_a_seen_size, o_a_seen_items_n, o_a_seen_items_f, o_a_path_size, o_a_path_items_n, o_a_path_items_f), mc, ms)) : Met l y_Unifier_init (.code y_Unifier_init b_Unifier_init 2 none :: GW) { frames := 2, cells := mc, slots := ms, locals := 32 } (va_Pc [.ref a, .ref a_terms] (gP g cs ka [(a, .inr (8, [.null, .null, .null, .null, .null, .null, .null]))] sz)) (va_Qv (fun _ : Unit => True) (fun _ t => ∃ b_a_links b_a_states b_a_pairs b_a_pairs_items b_a_joined b_a_joined_items b_a_seen b_a_seen_items b_a_path b_a_path_items : Nat, va_P g classes [(a, .inr (8, [.ref a_terms, .ref b_a_links, .ref b_a_states, .ref b_a_pairs, .ref b_a_joined, .ref b_a_seen, .ref b_a_path])), (b_a_links, .inl (cs 0, o_a_links_n, .inl o_a_links_f)), (b_a_states, .inl (cs 0, o_a_states_n, .inl o_a_states_f)), (b_a_pairs, .inr (1, [.ref b_a_pairs_items, .int o_a_pairs_size])), (b_a_pairs_items, .inl (cs 0, o_a_pairs_items_n, .inl o_a_pairs_items_f)), (b_a_joined, .inr (1, [.ref b_a_joined_items, .int o_a_joined_size])), (b_a_joined_items, .inl (cs 0, o_a_joined_items_n, .inl o_a_joined_items_f)), (b_a_seen, .inr (1, [.ref b_a_seen_items, .int o_a_seen_size])), (b_a_seen_items, .inl (cs 0, o_a_seen_items_n, .inl o_a_seen_items_f)), (b_a_path, .inr (1, [.ref b_a_path_items, .int o_a_path_size])), (b_a_path_items, .inl (cs 0, o_a_path_items_n, .inl o_a_path_items_f))] t.heap ∧ va_D (va_A [(a, .inr (8, [.null, .null, .null, .null, .null, .null, .null]))] sz) [(a, .inr (8, [.ref a_terms, .ref b_a_links, .ref b_a_states, .ref b_a_pairs, .ref b_a_joined, .ref b_a_seen, .ref b_a_path])), (b_a_links, .inl (cs 0, o_a_links_n, .inl o_a_links_f)), (b_a_states, .inl (cs 0, o_a_states_n, .inl o_a_states_f)), (b_a_pairs, .inr (1, [.ref b_a_pairs_items, .int o_a_pairs_size])), (b_a_pairs_items, .inl (cs 0, o_a_pairs_items_n, .inl o_a_pairs_items_f)), (b_a_joined, .inr (1, [.ref b_a_joined_items, .int o_a_joined_size])), (b_a_joined_items, .inl (cs 0, o_a_joined_items_n, .inl o_a_joined_items_f)), (b_a_seen, .inr (1, [.ref b_a_seen_items, .int o_a_seen_size])), (b_a_seen_items, .inl (cs 0, o_a_seen_items_n, .inl o_a_seen_items_f)), (b_a_path, .inr (1, [.ref b_a_path_items, .int o_a_path_size])), (b_a_path_items, .inl (cs 0, o_a_path_items_n, .inl o_a_path_items_f))]) (va_A [(a, .inr (8, [.null, .null, .null, .null, .null, .null, .null]))] sz)) mc ms (va_A [(a, .inr (8, [.null, .null, .null, .null, .null, .null, .null]))] sz) := by
  refine Met.ofW (cc := b_Unifier_init) (maxL := 2) (ret := none) (by decide) rfl ?_
  intro p e s m args below meth c s₁ B hml hv
  obtain ⟨rfl, hsz, hP, hK, hD0, hgl, hkn, hkr⟩ := hv
  have hx := B.exec
  have hb := B.bytes
  have hr := B.returns
  have hg : ∀ w ∈ GW, w.before ([.ref a, .ref a_terms] : List Value).toArray s = true := fun w hw => atoms_spec (ws := .code y_Unifier_init b_Unifier_init 2 none :: GW) B.pre w (List.mem_cons_of_mem _ hw)
  have hown : s.vm.findClass R_Unifier = some m.cls := findClass_of_methodNamed B.named
  have hlocks := B.notSynchronized
  have hin : meth.name = "<init>" := (name_of_methodNamed B.named B.method).1
  subst hsz
  have hD := hD0.self (sz := s.heap.size)
  generalize hAe : va_A [(a, .inr (8, [.null, .null, .null, .null, .null, .null, .null]))] s.heap.size = A at hD hkn ⊢
  have hA : ∀ q : Nat, s.heap.size ≤ q → A q := fun q h => by rw [← hAe]; exact Or.inr h
  have hS : va_S A s.heap s.heap [] := va_S.rf
  have hP : va_P g classes [(a, .inr (8, [.null, .null, .null, .null, .null, .null, .null]))] s.heap := hP
  have hl := lv_entry ([.ref a, .ref a_terms]) (n := 2) (Nat.le_of_ble_eq_true rfl)
  rw [lg_entry_eq]
  generalize (lg_sl ([.ref a, .ref a_terms]) ++ List.replicate (2 - (lg_sl ([.ref a, .ref a_terms])).length) Slot.unset).toArray = ls at hl ⊢
  have hl : lv_has ls 2 [(0, .ref a), (1, .ref a_terms)] := hl
  refine gq (fun Q hQ => ?_)
  obtain ⟨H, hH⟩ : ∃ H : Heap, H = s.heap := ⟨_, rfl⟩
  rw [← hH] at hP
  have hS : va_S A s.heap H [] := by rw [hH]; exact hS
  refine W.eqH hH ?_
  obtain ⟨locs, hlc⟩ : ∃ L : List Loc, L = [] := ⟨_, rfl⟩
  rw [← hlc] at hS ⊢
  unfold p_Unifier_init at hok
  refine lv_aload_n hx hb d_Unifier_init_0 rfl (lv_at hl 0 rfl) ?_
  refine W.objInit hx hb hown (hg _ wd_318) (hg _ wd_158) (hg _ wd_159) rfl (by rw [hml]; exact hl.1) rfl d_Unifier_init_1 (Nat.le_of_ble_eq_true rfl) (Nat.le_of_ble_eq_true rfl) ?_
  refine W.eq (g2 := F0 m 4 ls []) rfl ?_
  refine lv_aload_n hx hb d_Unifier_init_4 rfl (lv_at hl 0 rfl) ?_
  refine lv_iconst (v := 0) hx hb d_Unifier_init_5 (by decide) ?_
  obtain ⟨m1, s1, hok, hmc1, hms1⟩ := al_some hok
  refine g_newI hx hb (hg _ wd_142) hK hP hD hS hA (0) (by decide) (by decide) (by decide) (show 0 + 1 ≤ mc from by omega) (show 0 + 0 ≤ ms from by omega) d_Unifier_init_6 (fun q1 H hP hD hS => ?_)
  obtain ⟨hP, hD⟩ : PD g A H [(a, .inr (8, [.null, .null, .null, .null, .null, .null, .null])), (q1, .inl (cs 0, 0, .inl (fun _ => 0)))] := ⟨hP, hD⟩
  refine va_put (D := g) (ci := 8) (v := .ref q1) (ty := .array .int) (C := R_Unifier) (T := F_Unifier) (N := 7) hx hb hg ul_Unifier t_Unifier tk_Unifier n_Unifier hown hK hP hD hS 0 rfl rfl 1 (by decide) (hg _ wd_319) (fun _ h9 => h9) rfl (by decide +kernel) rfl rfl (Nat.le_of_ble_eq_true rfl) d_Unifier_init_8 (fun H locs hP hD hS => ?_)
  obtain ⟨hP, hD⟩ : PD g A H [(a, .inr (8, [.null, .ref q1, .null, .null, .null, .null, .null])), (q1, .inl (cs 0, 0, .inl (fun _ => 0)))] := ⟨hP, hD⟩
  refine lv_aload_n hx hb d_Unifier_init_11 rfl (lv_at hl 0 rfl) ?_
  refine lv_iconst (v := 0) hx hb d_Unifier_init_12 (by decide) ?_
  obtain ⟨m2, s2, hok, hmc2, hms2⟩ := al_some hok
  refine g_newI hx hb (hg _ wd_142) hK hP hD hS hA (0) (by decide) (by decide) (by decide) (show 0 + 1 + 1 ≤ mc from by omega) (show 0 + 0 + 0 ≤ ms from by omega) d_Unifier_init_13 (fun q2 H hP hD hS => ?_)
  obtain ⟨hP, hD⟩ : PD g A H [(a, .inr (8, [.null, .ref q1, .null, .null, .null, .null, .null])), (q1, .inl (cs 0, 0, .inl (fun _ => 0))), (q2, .inl (cs 0, 0, .inl (fun _ => 0)))] := ⟨hP, hD⟩
  refine va_put (D := g) (ci := 8) (v := .ref q2) (ty := .array .int) (C := R_Unifier) (T := F_Unifier) (N := 7) hx hb hg ul_Unifier t_Unifier tk_Unifier n_Unifier hown hK hP hD hS 0 rfl rfl 2 (by decide) (hg _ wd_320) (fun _ h9 => h9) rfl (by decide +kernel) rfl rfl (Nat.le_of_ble_eq_true rfl) d_Unifier_init_15 (fun H locs hP hD hS => ?_)
  obtain ⟨hP, hD⟩ : PD g A H [(a, .inr (8, [.null, .ref q1, .ref q2, .null, .null, .null, .null])), (q1, .inl (cs 0, 0, .inl (fun _ => 0))), (q2, .inl (cs 0, 0, .inl (fun _ => 0)))] := ⟨hP, hD⟩
  refine lv_aload_n hx hb d_Unifier_init_18 rfl (lv_at hl 0 rfl) ?_
  obtain ⟨m3, s3, hok, hmc3, hms3⟩ := al_some hok
  refine va_new (ci := 1) (fs := [.null, .int 0]) (C := R_Ints) (T := F_Ints) (N := 2) hx hb hg ul_Ints t_Ints tk_Ints hown (hg _ wd_321) (hg _ wd_233) (hg _ wd_234) hK hP hD hS hA rfl nf_Ints (show 0 + 1 + 1 + 1 ≤ mc from by omega) (show 0 + 0 + 0 + 2 ≤ ms from by omega) d_Unifier_init_19 (fun q3 H hP hD hS => ?_)
  obtain ⟨hP, hD⟩ : PD g A H [(a, .inr (8, [.null, .ref q1, .ref q2, .null, .null, .null, .null])), (q1, .inl (cs 0, 0, .inl (fun _ => 0))), (q2, .inl (cs 0, 0, .inl (fun _ => 0))), (q3, .inr (1, [.null, .int 0]))] := ⟨hP, hD⟩
  refine lv_dup hx hb d_Unifier_init_22 rfl ?_
  obtain ⟨⟨⟨a_size_4, a_items_n_4, a_items_f_4⟩, mk4, sk4⟩, hc4, hok⟩ := bd_some hok
  dsimp only at hok
  obtain ⟨m4, s4, hok, hmc4, hms4⟩ := al_some hok
  obtain ⟨hPc, hDc, hFc⟩ := cut0 (wc := [(q3, .inr (1, [.null, .int 0]))]) hP hD hS hA [3] (by decide) rfl
  refine va_callv (va_runIN (As := []) (rest := [.ref q3, .ref a]) ⟨hx, hb, hml, hown, hg⟩ (c_Ints_init l g cs ka q3 H.size a_size_4 a_items_n_4 a_items_f_4 mk4 sk4 hc4) ⟨va_cnB 0 hg (gw_c wd_235) rfl rfl rfl (hgl _ wd_322) (hg _ wd_234) (by decide +kernel) ⟨Nat.le_of_ble_eq_true rfl, Nat.le_of_ble_eq_true rfl⟩, rfl, hg _ wd_237⟩ ⟨gP_blind, gP_pre hPc hDc hK hgl hkn hkr hS hFc⟩ rfl rfl hl.1 rfl (lv_room (Nat.le_of_ble_eq_true rfl)) d_Unifier_init_23 ⟨show 0 + 1 + 1 + 1 + mk4 ≤ mc from by omega, show 0 + 0 + 0 + 2 + sk4 ≤ ms from by omega⟩) hS (fun q _ h => hFc q h) hFc (fun u t H locs ht hvm hr4 hB hz1 hk1 hS => ?_)
  rw [ht] at hB
  obtain ⟨a_items_4, hP1, hD1⟩ := hB
  obtain ⟨hP, hD⟩ := jn_A hP hD [3] [0, 1, 2] rfl rfl (by decide) (by decide) hk1 hFc hP1 hD1
  obtain ⟨hP, hD⟩ : PD g A H [(a, .inr (8, [.null, .ref q1, .ref q2, .null, .null, .null, .null])), (q1, .inl (cs 0, 0, .inl (fun _ => 0))), (q2, .inl (cs 0, 0, .inl (fun _ => 0))), (q3, .inr (1, [.ref a_items_4, .int a_size_4])), (a_items_4, .inl (cs 0, a_items_n_4, .inl a_items_f_4))] := ⟨hP, hD⟩
  refine va_putF (D := g) (ci := 8) (v := .ref q3) (ty := .object "UnifyBench$Ints") (C := R_Unifier) (T := F_Unifier) (N := 7) hx hb hg ul_Unifier t_Unifier tk_Unifier n_Unifier hown hK hP hD hS 0 rfl rfl 3 (by decide) (hg _ wd_323) (fun _ h9 => h9) rfl hin rfl (by decide +kernel) rfl rfl (Nat.le_of_ble_eq_true rfl) d_Unifier_init_26 (fun H locs hP hD hS => ?_)
  obtain ⟨hP, hD⟩ : PD g A H [(a, .inr (8, [.null, .ref q1, .ref q2, .ref q3, .null, .null, .null])), (q1, .inl (cs 0, 0, .inl (fun _ => 0))), (q2, .inl (cs 0, 0, .inl (fun _ => 0))), (q3, .inr (1, [.ref a_items_4, .int a_size_4])), (a_items_4, .inl (cs 0, a_items_n_4, .inl a_items_f_4))] := ⟨hP, hD⟩
  refine lv_aload_n hx hb d_Unifier_init_29 rfl (lv_at hl 0 rfl) ?_
  obtain ⟨m5, s5, hok, hmc5, hms5⟩ := al_some hok
  refine va_new (ci := 1) (fs := [.null, .int 0]) (C := R_Ints) (T := F_Ints) (N := 2) hx hb hg ul_Ints t_Ints tk_Ints hown (hg _ wd_321) (hg _ wd_233) (hg _ wd_234) hK hP hD hS hA rfl nf_Ints (show 0 + 1 + 1 + 1 + mk4 + 1 ≤ mc from by omega) (show 0 + 0 + 0 + 2 + sk4 + 2 ≤ ms from by omega) d_Unifier_init_30 (fun q5 H hP hD hS => ?_)
  obtain ⟨hP, hD⟩ : PD g A H [(a, .inr (8, [.null, .ref q1, .ref q2, .ref q3, .null, .null, .null])), (q1, .inl (cs 0, 0, .inl (fun _ => 0))), (q2, .inl (cs 0, 0, .inl (fun _ => 0))), (q3, .inr (1, [.ref a_items_4, .int a_size_4])), (a_items_4, .inl (cs 0, a_items_n_4, .inl a_items_f_4)), (q5, .inr (1, [.null, .int 0]))] := ⟨hP, hD⟩
  refine lv_dup hx hb d_Unifier_init_33 rfl ?_
  obtain ⟨⟨⟨a_size_6, a_items_n_6, a_items_f_6⟩, mk6, sk6⟩, hc6, hok⟩ := bd_some hok
  dsimp only at hok
  obtain ⟨m6, s6, hok, hmc6, hms6⟩ := al_some hok
  obtain ⟨hPc, hDc, hFc⟩ := cut0 (wc := [(q5, .inr (1, [.null, .int 0]))]) hP hD hS hA [5] (by decide) rfl
  refine va_callv (va_runIN (As := []) (rest := [.ref q5, .ref a]) ⟨hx, hb, hml, hown, hg⟩ (c_Ints_init l g cs ka q5 H.size a_size_6 a_items_n_6 a_items_f_6 mk6 sk6 hc6) ⟨va_cnB 0 hg (gw_c wd_235) rfl rfl rfl (hgl _ wd_322) (hg _ wd_234) (by decide +kernel) ⟨Nat.le_of_ble_eq_true rfl, Nat.le_of_ble_eq_true rfl⟩, rfl, hg _ wd_237⟩ ⟨gP_blind, gP_pre hPc hDc hK hgl hkn hkr hS hFc⟩ rfl rfl hl.1 rfl (lv_room (Nat.le_of_ble_eq_true rfl)) d_Unifier_init_34 ⟨show 0 + 1 + 1 + 1 + mk4 + 1 + mk6 ≤ mc from by omega, show 0 + 0 + 0 + 2 + sk4 + 2 + sk6 ≤ ms from by omega⟩) hS (fun q _ h => hFc q h) hFc (fun u t H locs ht hvm hr6 hB hz1 hk1 hS => ?_)
  rw [ht] at hB
  obtain ⟨a_items_6, hP1, hD1⟩ := hB
  obtain ⟨hP, hD⟩ := jn_A hP hD [5] [0, 1, 2, 3, 4] rfl rfl (by decide) (by decide) hk1 hFc hP1 hD1
  obtain ⟨hP, hD⟩ : PD g A H [(a, .inr (8, [.null, .ref q1, .ref q2, .ref q3, .null, .null, .null])), (q1, .inl (cs 0, 0, .inl (fun _ => 0))), (q2, .inl (cs 0, 0, .inl (fun _ => 0))), (q3, .inr (1, [.ref a_items_4, .int a_size_4])), (a_items_4, .inl (cs 0, a_items_n_4, .inl a_items_f_4)), (q5, .inr (1, [.ref a_items_6, .int a_size_6])), (a_items_6, .inl (cs 0, a_items_n_6, .inl a_items_f_6))] := ⟨hP, hD⟩
  refine va_putF (D := g) (ci := 8) (v := .ref q5) (ty := .object "UnifyBench$Ints") (C := R_Unifier) (T := F_Unifier) (N := 7) hx hb hg ul_Unifier t_Unifier tk_Unifier n_Unifier hown hK hP hD hS 0 rfl rfl 4 (by decide) (hg _ wd_324) (fun _ h9 => h9) rfl hin rfl (by decide +kernel) rfl rfl (Nat.le_of_ble_eq_true rfl) d_Unifier_init_37 (fun H locs hP hD hS => ?_)
  obtain ⟨hP, hD⟩ : PD g A H [(a, .inr (8, [.null, .ref q1, .ref q2, .ref q3, .ref q5, .null, .null])), (q1, .inl (cs 0, 0, .inl (fun _ => 0))), (q2, .inl (cs 0, 0, .inl (fun _ => 0))), (q3, .inr (1, [.ref a_items_4, .int a_size_4])), (a_items_4, .inl (cs 0, a_items_n_4, .inl a_items_f_4)), (q5, .inr (1, [.ref a_items_6, .int a_size_6])), (a_items_6, .inl (cs 0, a_items_n_6, .inl a_items_f_6))] := ⟨hP, hD⟩
  refine lv_aload_n hx hb d_Unifier_init_40 rfl (lv_at hl 0 rfl) ?_
  obtain ⟨m7, s7, hok, hmc7, hms7⟩ := al_some hok
  refine va_new (ci := 1) (fs := [.null, .int 0]) (C := R_Ints) (T := F_Ints) (N := 2) hx hb hg ul_Ints t_Ints tk_Ints hown (hg _ wd_321) (hg _ wd_233) (hg _ wd_234) hK hP hD hS hA rfl nf_Ints (show 0 + 1 + 1 + 1 + mk4 + 1 + mk6 + 1 ≤ mc from by omega) (show 0 + 0 + 0 + 2 + sk4 + 2 + sk6 + 2 ≤ ms from by omega) d_Unifier_init_41 (fun q7 H hP hD hS => ?_)
  obtain ⟨hP, hD⟩ : PD g A H [(a, .inr (8, [.null, .ref q1, .ref q2, .ref q3, .ref q5, .null, .null])), (q1, .inl (cs 0, 0, .inl (fun _ => 0))), (q2, .inl (cs 0, 0, .inl (fun _ => 0))), (q3, .inr (1, [.ref a_items_4, .int a_size_4])), (a_items_4, .inl (cs 0, a_items_n_4, .inl a_items_f_4)), (q5, .inr (1, [.ref a_items_6, .int a_size_6])), (a_items_6, .inl (cs 0, a_items_n_6, .inl a_items_f_6)), (q7, .inr (1, [.null, .int 0]))] := ⟨hP, hD⟩
  refine lv_dup hx hb d_Unifier_init_44 rfl ?_
  obtain ⟨⟨⟨a_size_8, a_items_n_8, a_items_f_8⟩, mk8, sk8⟩, hc8, hok⟩ := bd_some hok
  dsimp only at hok
  obtain ⟨m8, s8, hok, hmc8, hms8⟩ := al_some hok
  obtain ⟨hPc, hDc, hFc⟩ := cut0 (wc := [(q7, .inr (1, [.null, .int 0]))]) hP hD hS hA [7] (by decide) rfl
  refine va_callv (va_runIN (As := []) (rest := [.ref q7, .ref a]) ⟨hx, hb, hml, hown, hg⟩ (c_Ints_init l g cs ka q7 H.size a_size_8 a_items_n_8 a_items_f_8 mk8 sk8 hc8) ⟨va_cnB 0 hg (gw_c wd_235) rfl rfl rfl (hgl _ wd_322) (hg _ wd_234) (by decide +kernel) ⟨Nat.le_of_ble_eq_true rfl, Nat.le_of_ble_eq_true rfl⟩, rfl, hg _ wd_237⟩ ⟨gP_blind, gP_pre hPc hDc hK hgl hkn hkr hS hFc⟩ rfl rfl hl.1 rfl (lv_room (Nat.le_of_ble_eq_true rfl)) d_Unifier_init_45 ⟨show 0 + 1 + 1 + 1 + mk4 + 1 + mk6 + 1 + mk8 ≤ mc from by omega, show 0 + 0 + 0 + 2 + sk4 + 2 + sk6 + 2 + sk8 ≤ ms from by omega⟩) hS (fun q _ h => hFc q h) hFc (fun u t H locs ht hvm hr8 hB hz1 hk1 hS => ?_)
  rw [ht] at hB
  obtain ⟨a_items_8, hP1, hD1⟩ := hB
  obtain ⟨hP, hD⟩ := jn_A hP hD [7] [0, 1, 2, 3, 4, 5, 6] rfl rfl (by decide) (by decide) hk1 hFc hP1 hD1
  obtain ⟨hP, hD⟩ : PD g A H [(a, .inr (8, [.null, .ref q1, .ref q2, .ref q3, .ref q5, .null, .null])), (q1, .inl (cs 0, 0, .inl (fun _ => 0))), (q2, .inl (cs 0, 0, .inl (fun _ => 0))), (q3, .inr (1, [.ref a_items_4, .int a_size_4])), (a_items_4, .inl (cs 0, a_items_n_4, .inl a_items_f_4)), (q5, .inr (1, [.ref a_items_6, .int a_size_6])), (a_items_6, .inl (cs 0, a_items_n_6, .inl a_items_f_6)), (q7, .inr (1, [.ref a_items_8, .int a_size_8])), (a_items_8, .inl (cs 0, a_items_n_8, .inl a_items_f_8))] := ⟨hP, hD⟩
  refine va_putF (D := g) (ci := 8) (v := .ref q7) (ty := .object "UnifyBench$Ints") (C := R_Unifier) (T := F_Unifier) (N := 7) hx hb hg ul_Unifier t_Unifier tk_Unifier n_Unifier hown hK hP hD hS 0 rfl rfl 5 (by decide) (hg _ wd_325) (fun _ h9 => h9) rfl hin rfl (by decide +kernel) rfl rfl (Nat.le_of_ble_eq_true rfl) d_Unifier_init_48 (fun H locs hP hD hS => ?_)
  obtain ⟨hP, hD⟩ : PD g A H [(a, .inr (8, [.null, .ref q1, .ref q2, .ref q3, .ref q5, .ref q7, .null])), (q1, .inl (cs 0, 0, .inl (fun _ => 0))), (q2, .inl (cs 0, 0, .inl (fun _ => 0))), (q3, .inr (1, [.ref a_items_4, .int a_size_4])), (a_items_4, .inl (cs 0, a_items_n_4, .inl a_items_f_4)), (q5, .inr (1, [.ref a_items_6, .int a_size_6])), (a_items_6, .inl (cs 0, a_items_n_6, .inl a_items_f_6)), (q7, .inr (1, [.ref a_items_8, .int a_size_8])), (a_items_8, .inl (cs 0, a_items_n_8, .inl a_items_f_8))] := ⟨hP, hD⟩
  refine lv_aload_n hx hb d_Unifier_init_51 rfl (lv_at hl 0 rfl) ?_
  obtain ⟨m9, s9, hok, hmc9, hms9⟩ := al_some hok
  refine va_new (ci := 1) (fs := [.null, .int 0]) (C := R_Ints) (T := F_Ints) (N := 2) hx hb hg ul_Ints t_Ints tk_Ints hown (hg _ wd_321) (hg _ wd_233) (hg _ wd_234) hK hP hD hS hA rfl nf_Ints (show 0 + 1 + 1 + 1 + mk4 + 1 + mk6 + 1 + mk8 + 1 ≤ mc from by omega) (show 0 + 0 + 0 + 2 + sk4 + 2 + sk6 + 2 + sk8 + 2 ≤ ms from by omega) d_Unifier_init_52 (fun q9 H hP hD hS => ?_)
  obtain ⟨hP, hD⟩ : PD g A H [(a, .inr (8, [.null, .ref q1, .ref q2, .ref q3, .ref q5, .ref q7, .null])), (q1, .inl (cs 0, 0, .inl (fun _ => 0))), (q2, .inl (cs 0, 0, .inl (fun _ => 0))), (q3, .inr (1, [.ref a_items_4, .int a_size_4])), (a_items_4, .inl (cs 0, a_items_n_4, .inl a_items_f_4)), (q5, .inr (1, [.ref a_items_6, .int a_size_6])), (a_items_6, .inl (cs 0, a_items_n_6, .inl a_items_f_6)), (q7, .inr (1, [.ref a_items_8, .int a_size_8])), (a_items_8, .inl (cs 0, a_items_n_8, .inl a_items_f_8)), (q9, .inr (1, [.null, .int 0]))] := ⟨hP, hD⟩
  refine lv_dup hx hb d_Unifier_init_55 rfl ?_
  obtain ⟨⟨⟨a_size_10, a_items_n_10, a_items_f_10⟩, mk10, sk10⟩, hc10, hok⟩ := bd_some hok
  dsimp only at hok
  obtain ⟨m10, s10, hok, hmc10, hms10⟩ := al_some hok
  obtain ⟨hPc, hDc, hFc⟩ := cut0 (wc := [(q9, .inr (1, [.null, .int 0]))]) hP hD hS hA [9] (by decide) rfl
  refine va_callv (va_runIN (As := []) (rest := [.ref q9, .ref a]) ⟨hx, hb, hml, hown, hg⟩ (c_Ints_init l g cs ka q9 H.size a_size_10 a_items_n_10 a_items_f_10 mk10 sk10 hc10) ⟨va_cnB 0 hg (gw_c wd_235) rfl rfl rfl (hgl _ wd_322) (hg _ wd_234) (by decide +kernel) ⟨Nat.le_of_ble_eq_true rfl, Nat.le_of_ble_eq_true rfl⟩, rfl, hg _ wd_237⟩ ⟨gP_blind, gP_pre hPc hDc hK hgl hkn hkr hS hFc⟩ rfl rfl hl.1 rfl (lv_room (Nat.le_of_ble_eq_true rfl)) d_Unifier_init_56 ⟨show 0 + 1 + 1 + 1 + mk4 + 1 + mk6 + 1 + mk8 + 1 + mk10 ≤ mc from by omega, show 0 + 0 + 0 + 2 + sk4 + 2 + sk6 + 2 + sk8 + 2 + sk10 ≤ ms from by omega⟩) hS (fun q _ h => hFc q h) hFc (fun u t H locs ht hvm hr10 hB hz1 hk1 hS => ?_)
  rw [ht] at hB
  obtain ⟨a_items_10, hP1, hD1⟩ := hB
  obtain ⟨hP, hD⟩ := jn_A hP hD [9] [0, 1, 2, 3, 4, 5, 6, 7, 8] rfl rfl (by decide) (by decide) hk1 hFc hP1 hD1
  obtain ⟨hP, hD⟩ : PD g A H [(a, .inr (8, [.null, .ref q1, .ref q2, .ref q3, .ref q5, .ref q7, .null])), (q1, .inl (cs 0, 0, .inl (fun _ => 0))), (q2, .inl (cs 0, 0, .inl (fun _ => 0))), (q3, .inr (1, [.ref a_items_4, .int a_size_4])), (a_items_4, .inl (cs 0, a_items_n_4, .inl a_items_f_4)), (q5, .inr (1, [.ref a_items_6, .int a_size_6])), (a_items_6, .inl (cs 0, a_items_n_6, .inl a_items_f_6)), (q7, .inr (1, [.ref a_items_8, .int a_size_8])), (a_items_8, .inl (cs 0, a_items_n_8, .inl a_items_f_8)), (q9, .inr (1, [.ref a_items_10, .int a_size_10])), (a_items_10, .inl (cs 0, a_items_n_10, .inl a_items_f_10))] := ⟨hP, hD⟩
  refine va_putF (D := g) (ci := 8) (v := .ref q9) (ty := .object "UnifyBench$Ints") (C := R_Unifier) (T := F_Unifier) (N := 7) hx hb hg ul_Unifier t_Unifier tk_Unifier n_Unifier hown hK hP hD hS 0 rfl rfl 6 (by decide) (hg _ wd_326) (fun _ h9 => h9) rfl hin rfl (by decide +kernel) rfl rfl (Nat.le_of_ble_eq_true rfl) d_Unifier_init_59 (fun H locs hP hD hS => ?_)
  obtain ⟨hP, hD⟩ : PD g A H [(a, .inr (8, [.null, .ref q1, .ref q2, .ref q3, .ref q5, .ref q7, .ref q9])), (q1, .inl (cs 0, 0, .inl (fun _ => 0))), (q2, .inl (cs 0, 0, .inl (fun _ => 0))), (q3, .inr (1, [.ref a_items_4, .int a_size_4])), (a_items_4, .inl (cs 0, a_items_n_4, .inl a_items_f_4)), (q5, .inr (1, [.ref a_items_6, .int a_size_6])), (a_items_6, .inl (cs 0, a_items_n_6, .inl a_items_f_6)), (q7, .inr (1, [.ref a_items_8, .int a_size_8])), (a_items_8, .inl (cs 0, a_items_n_8, .inl a_items_f_8)), (q9, .inr (1, [.ref a_items_10, .int a_size_10])), (a_items_10, .inl (cs 0, a_items_n_10, .inl a_items_f_10))] := ⟨hP, hD⟩
  refine lv_aload_n hx hb d_Unifier_init_62 rfl (lv_at hl 0 rfl) ?_
  refine lv_aload_n hx hb d_Unifier_init_63 rfl (lv_at hl 1 rfl) ?_
  refine va_putF (D := g) (ci := 8) (v := .ref a_terms) (ty := .object "UnifyBench$Terms") (C := R_Unifier) (T := F_Unifier) (N := 7) hx hb hg ul_Unifier t_Unifier tk_Unifier n_Unifier hown hK hP hD hS 0 rfl rfl 0 (by decide) (hg _ wd_327) (fun _ h9 => h9) rfl hin rfl (by decide +kernel) rfl rfl (Nat.le_of_ble_eq_true rfl) d_Unifier_init_64 (fun H locs hP hD hS => ?_)
  obtain ⟨hP, hD⟩ : PD g A H [(a, .inr (8, [.ref a_terms, .ref q1, .ref q2, .ref q3, .ref q5, .ref q7, .ref q9])), (q1, .inl (cs 0, 0, .inl (fun _ => 0))), (q2, .inl (cs 0, 0, .inl (fun _ => 0))), (q3, .inr (1, [.ref a_items_4, .int a_size_4])), (a_items_4, .inl (cs 0, a_items_n_4, .inl a_items_f_4)), (q5, .inr (1, [.ref a_items_6, .int a_size_6])), (a_items_6, .inl (cs 0, a_items_n_6, .inl a_items_f_6)), (q7, .inr (1, [.ref a_items_8, .int a_size_8])), (a_items_8, .inl (cs 0, a_items_n_8, .inl a_items_f_8)), (q9, .inr (1, [.ref a_items_10, .int a_size_10])), (a_items_10, .inl (cs 0, a_items_n_10, .inl a_items_f_10))] := ⟨hP, hD⟩
  obtain ⟨hq, hw⟩ := Prod.mk.inj (Option.some.inj hok)
  obtain ⟨hmc0, hms0⟩ := Prod.mk.inj hw
  obtain ⟨hq0, hq⟩ := Prod.mk.inj hq
  obtain ⟨hq1, hq⟩ := Prod.mk.inj hq
  obtain ⟨hq2, hq⟩ := Prod.mk.inj hq
  obtain ⟨hq3, hq⟩ := Prod.mk.inj hq
  obtain ⟨hq4, hq⟩ := Prod.mk.inj hq
  obtain ⟨hq5, hq⟩ := Prod.mk.inj hq
  obtain ⟨hq6, hq⟩ := Prod.mk.inj hq
  obtain ⟨hq7, hq⟩ := Prod.mk.inj hq
  obtain ⟨hq8, hq⟩ := Prod.mk.inj hq
  obtain ⟨hq9, hq⟩ := Prod.mk.inj hq
  obtain ⟨hq10, hq⟩ := Prod.mk.inj hq
  obtain ⟨hq11, hq⟩ := Prod.mk.inj hq
  obtain ⟨hq12, hq⟩ := Prod.mk.inj hq
  obtain ⟨hq13, hq⟩ := Prod.mk.inj hq
  obtain ⟨hq14, hq⟩ := Prod.mk.inj hq
  have hq15 := hq
  subst hq0
  subst hq1
  subst hq2
  subst hq3
  subst hq4
  subst hq5
  subst hq6
  subst hq7
  subst hq8
  subst hq9
  subst hq10
  subst hq11
  subst hq12
  subst hq13
  subst hq14
  subst hq15
  obtain ⟨hP9, hD9⟩ := sub2 (ws' := [(a, .inr (8, [.ref a_terms, .ref q1, .ref q2, .ref q3, .ref q5, .ref q7, .ref q9])), (q1, .inl (cs 0, 0, .inl (fun _ => 0))), (q2, .inl (cs 0, 0, .inl (fun _ => 0))), (q3, .inr (1, [.ref a_items_4, .int a_size_4])), (a_items_4, .inl (cs 0, a_items_n_4, .inl a_items_f_4)), (q5, .inr (1, [.ref a_items_6, .int a_size_6])), (a_items_6, .inl (cs 0, a_items_n_6, .inl a_items_f_6)), (q7, .inr (1, [.ref a_items_8, .int a_size_8])), (a_items_8, .inl (cs 0, a_items_n_8, .inl a_items_f_8)), (q9, .inr (1, [.ref a_items_10, .int a_size_10])), (a_items_10, .inl (cs 0, a_items_n_10, .inl a_items_f_10))]) hP hD [0, 1, 2, 3, 4, 5, 6, 7, 8, 9, 10] rfl (by decide) rfl
  refine W.widen (k := mc) (n := ms) (by omega) (by omega) ?_
  rw [hQ]
  exact W.vret hx hb hr (fun t ht hW => ⟨⟨(), rfl, trivial, q1, q2, q3, a_items_4, q5, a_items_6, q7, a_items_8, q9, a_items_10, by rw [ht]; exact hP9, hD9⟩, hS.F ht⟩) hS.2.2 d_Unifier_init_67

theorem d_Unifier_makeRoom_0 : decode b_Unifier_makeRoom 0 = .ok (.aload_n 0, 1) := by decide +kernel
theorem d_Unifier_makeRoom_1 : decode b_Unifier_makeRoom 1 = .ok (.getfield 9, 3) := by decide +kernel
theorem d_Unifier_makeRoom_4 : decode b_Unifier_makeRoom 4 = .ok (.arraylength, 1) := by decide +kernel
theorem d_Unifier_makeRoom_5 : decode b_Unifier_makeRoom 5 = .ok (.aload_n 0, 1) := by decide +kernel
theorem d_Unifier_makeRoom_6 : decode b_Unifier_makeRoom 6 = .ok (.getfield 34, 3) := by decide +kernel
theorem d_Unifier_makeRoom_9 : decode b_Unifier_makeRoom 9 = .ok (.invokevirtual 55, 3) := by decide +kernel
theorem d_Unifier_makeRoom_12 : decode b_Unifier_makeRoom 12 = .ok (.if_icmp .ge 33, 3) := by decide +kernel
theorem d_Unifier_makeRoom_15 : decode b_Unifier_makeRoom 15 = .ok (.aload_n 0, 1) := by decide +kernel
theorem d_Unifier_makeRoom_16 : decode b_Unifier_makeRoom 16 = .ok (.iconst 2, 1) := by decide +kernel
theorem d_Unifier_makeRoom_17 : decode b_Unifier_makeRoom 17 = .ok (.aload_n 0, 1) := by decide +kernel
theorem d_Unifier_makeRoom_18 : decode b_Unifier_makeRoom 18 = .ok (.getfield 34, 3) := by decide +kernel
theorem d_Unifier_makeRoom_21 : decode b_Unifier_makeRoom 21 = .ok (.invokevirtual 55, 3) := by decide +kernel
theorem d_Unifier_makeRoom_24 : decode b_Unifier_makeRoom 24 = .ok (.imul, 1) := by decide +kernel
theorem d_Unifier_makeRoom_25 : decode b_Unifier_makeRoom 25 = .ok (.newarray .int, 2) := by decide +kernel
theorem d_Unifier_makeRoom_27 : decode b_Unifier_makeRoom 27 = .ok (.putfield 9, 3) := by decide +kernel
theorem d_Unifier_makeRoom_30 : decode b_Unifier_makeRoom 30 = .ok (.aload_n 0, 1) := by decide +kernel
theorem d_Unifier_makeRoom_31 : decode b_Unifier_makeRoom 31 = .ok (.iconst 2, 1) := by decide +kernel
theorem d_Unifier_makeRoom_32 : decode b_Unifier_makeRoom 32 = .ok (.aload_n 0, 1) := by decide +kernel
theorem d_Unifier_makeRoom_33 : decode b_Unifier_makeRoom 33 = .ok (.getfield 34, 3) := by decide +kernel
theorem d_Unifier_makeRoom_36 : decode b_Unifier_makeRoom 36 = .ok (.invokevirtual 55, 3) := by decide +kernel
theorem d_Unifier_makeRoom_39 : decode b_Unifier_makeRoom 39 = .ok (.imul, 1) := by decide +kernel
theorem d_Unifier_makeRoom_40 : decode b_Unifier_makeRoom 40 = .ok (.newarray .int, 2) := by decide +kernel
theorem d_Unifier_makeRoom_42 : decode b_Unifier_makeRoom 42 = .ok (.putfield 15, 3) := by decide +kernel
theorem d_Unifier_makeRoom_45 : decode b_Unifier_makeRoom 45 = .ok (.return_, 1) := by decide +kernel
def p_Unifier_makeRoom (a_terms_nodes : Int32) (a_terms_variables : Int32) (a_terms_variablesLack : Int32) (a_terms_symbols : Int32) (a_terms_nodesBefore : Int32) (a_terms_partsBefore : Int32) (a_terms_variablesBefore : Int32) (a_links_n : Nat) (a_links_f : Nat → Int32) (a_states_n : Nat) (a_states_f : Nat → Int32) : Option ((Nat × (Nat → Int32) × Nat × (Nat → Int32)) × Nat × Nat) := (p_Terms_nodes a_terms_nodes a_terms_variables a_terms_variablesLack a_terms_symbols a_terms_nodesBefore a_terms_partsBefore a_terms_variablesBefore).bind (fun r1 => if r1 ≤ (Int32.ofNat a_links_n) then (some ((a_links_n, a_links_f, a_states_n, a_states_f), 0, 0)) else ((p_Terms_nodes a_terms_nodes a_terms_variables a_terms_variablesLack a_terms_symbols a_terms_nodesBefore a_terms_partsBefore a_terms_variablesBefore).bind (fun r3 => ck (nab (2 * r3) 4) (al 1 ((2 * r3).toNatClampNeg) ((p_Terms_nodes a_terms_nodes a_terms_variables a_terms_variablesLack a_terms_symbols a_terms_nodesBefore a_terms_partsBefore a_terms_variablesBefore).bind (fun r5 => ck (nab (2 * r5) 4) (al 1 ((2 * r5).toNatClampNeg) (some ((((2 * r3).toNatClampNeg), (fun _ => 0 : Nat → Int32), ((2 * r5).toNatClampNeg), (fun _ => 0 : Nat → Int32)), 0, 0)))))))))
set_option maxHeartbeats 4000000 in
set_option maxRecDepth 100000 in
theorem c_Unifier_makeRoom (l : Launch) (g : va_G) (cs : Nat → ClassId) (ka : Nat → Nat) (a_pairs : Nat) (a_joined : Nat) (a_seen : Nat) (a_path : Nat) (a_terms_shapes : Nat) (a_terms_values : Nat) (a_terms_firstParts : Nat) (a_terms_parts : Nat) (a_terms_variableNames : Nat) (a_terms_became : Nat) (a a_terms a_links a_states : Nat) (sz : Nat) (a_terms_nodes : Int32) (a_terms_variables : Int32) (a_terms_variablesLack : Int32) (a_terms_symbols : Int32) (a_terms_nodesBefore : Int32) (a_terms_partsBefore : Int32) (a_terms_variablesBefore : Int32) (a_links_n : Nat) (a_links_f : Nat → Int32) (a_states_n : Nat) (a_states_f : Nat → Int32) (o_a_links_n : Nat) (o_a_links_f : Nat → Int32) (o_a_states_n : Nat) (o_a_states_f : Nat → Int32) (mc ms : Nat) (hok : p_Unifier_makeRoom a_terms_nodes a_terms_variables a_terms_variablesLack a_terms_symbols a_terms_nodesBefore a_terms_partsBefore a_terms_variablesBefore a_links_n a_links_f a_states_n a_states_f = some ((o_a_links_n, o_a_links_f, o_a_states_n, o_a_states_f), mc, ms)) : Met l y_Unifier_makeRoom (.code y_Unifier_makeRoom b_Unifier_makeRoom 1 none :: GW) { frames := 1, cells := mc, slots := ms, locals := 20 } (va_Pc [.ref a] (gP g cs ka [(a, .inr (8, [.ref a_terms, .ref a_links, .ref a_states, .ref a_pairs, .ref a_joined, .ref a_seen, .ref a_path])), (a_terms, .inr (7, [.ref a_terms_shapes, .ref a_terms_values, .ref a_terms_firstParts, .int a_terms_nodes, .ref a_terms_parts, .ref a_terms_variableNames, .ref a_terms_became, .int a_terms_variables, .int a_terms_variablesLack, .int a_terms_symbols, .int a_terms_nodesBefore, .int a_terms_partsBefore, .int a_terms_variablesBefore])), (a_links, .inl (cs 0, a_links_n, .inl a_links_f)), (a_states, .inl (cs 0, a_states_n, .inl a_states_f))] sz)) (va_Qv (fun _ : Unit => True) (fun _ t => ∃ b_a_links b_a_states : Nat, va_P g classes [(a, .inr (8, [.ref a_terms, .ref b_a_links, .ref b_a_states, .ref a_pairs, .ref a_joined, .ref a_seen, .ref a_path])), (a_terms, .inr (7, [.ref a_terms_shapes, .ref a_terms_values, .ref a_terms_firstParts, .int a_terms_nodes, .ref a_terms_parts, .ref a_terms_variableNames, .ref a_terms_became, .int a_terms_variables, .int a_terms_variablesLack, .int a_terms_symbols, .int a_terms_nodesBefore, .int a_terms_partsBefore, .int a_terms_variablesBefore])), (b_a_links, .inl (cs 0, o_a_links_n, .inl o_a_links_f)), (b_a_states, .inl (cs 0, o_a_states_n, .inl o_a_states_f))] t.heap ∧ va_D (va_A [(a, .inr (8, [.ref a_terms, .ref a_links, .ref a_states, .ref a_pairs, .ref a_joined, .ref a_seen, .ref a_path])), (a_terms, .inr (7, [.ref a_terms_shapes, .ref a_terms_values, .ref a_terms_firstParts, .int a_terms_nodes, .ref a_terms_parts, .ref a_terms_variableNames, .ref a_terms_became, .int a_terms_variables, .int a_terms_variablesLack, .int a_terms_symbols, .int a_terms_nodesBefore, .int a_terms_partsBefore, .int a_terms_variablesBefore])), (a_links, .inl (cs 0, a_links_n, .inl a_links_f)), (a_states, .inl (cs 0, a_states_n, .inl a_states_f))] sz) [(a, .inr (8, [.ref a_terms, .ref b_a_links, .ref b_a_states, .ref a_pairs, .ref a_joined, .ref a_seen, .ref a_path])), (a_terms, .inr (7, [.ref a_terms_shapes, .ref a_terms_values, .ref a_terms_firstParts, .int a_terms_nodes, .ref a_terms_parts, .ref a_terms_variableNames, .ref a_terms_became, .int a_terms_variables, .int a_terms_variablesLack, .int a_terms_symbols, .int a_terms_nodesBefore, .int a_terms_partsBefore, .int a_terms_variablesBefore])), (b_a_links, .inl (cs 0, o_a_links_n, .inl o_a_links_f)), (b_a_states, .inl (cs 0, o_a_states_n, .inl o_a_states_f))]) (va_A [(a, .inr (8, [.ref a_terms, .ref a_links, .ref a_states, .ref a_pairs, .ref a_joined, .ref a_seen, .ref a_path])), (a_terms, .inr (7, [.ref a_terms_shapes, .ref a_terms_values, .ref a_terms_firstParts, .int a_terms_nodes, .ref a_terms_parts, .ref a_terms_variableNames, .ref a_terms_became, .int a_terms_variables, .int a_terms_variablesLack, .int a_terms_symbols, .int a_terms_nodesBefore, .int a_terms_partsBefore, .int a_terms_variablesBefore])), (a_links, .inl (cs 0, a_links_n, .inl a_links_f)), (a_states, .inl (cs 0, a_states_n, .inl a_states_f))] sz)) mc ms (va_A [(a, .inr (8, [.ref a_terms, .ref a_links, .ref a_states, .ref a_pairs, .ref a_joined, .ref a_seen, .ref a_path])), (a_terms, .inr (7, [.ref a_terms_shapes, .ref a_terms_values, .ref a_terms_firstParts, .int a_terms_nodes, .ref a_terms_parts, .ref a_terms_variableNames, .ref a_terms_became, .int a_terms_variables, .int a_terms_variablesLack, .int a_terms_symbols, .int a_terms_nodesBefore, .int a_terms_partsBefore, .int a_terms_variablesBefore])), (a_links, .inl (cs 0, a_links_n, .inl a_links_f)), (a_states, .inl (cs 0, a_states_n, .inl a_states_f))] sz) := by
  refine Met.ofW (cc := b_Unifier_makeRoom) (maxL := 1) (ret := none) (by decide) rfl ?_
  intro p e s m args below meth c s₁ B hml hv
  obtain ⟨rfl, hsz, hP, hK, hD0, hgl, hkn, hkr⟩ := hv
  have hx := B.exec
  have hb := B.bytes
  have hr := B.returns
  have hg : ∀ w ∈ GW, w.before ([.ref a] : List Value).toArray s = true := fun w hw => atoms_spec (ws := .code y_Unifier_makeRoom b_Unifier_makeRoom 1 none :: GW) B.pre w (List.mem_cons_of_mem _ hw)
  have hown : s.vm.findClass R_Unifier = some m.cls := findClass_of_methodNamed B.named
  have hlocks := B.notSynchronized
  subst hsz
  have hD := hD0.self (sz := s.heap.size)
  generalize hAe : va_A [(a, .inr (8, [.ref a_terms, .ref a_links, .ref a_states, .ref a_pairs, .ref a_joined, .ref a_seen, .ref a_path])), (a_terms, .inr (7, [.ref a_terms_shapes, .ref a_terms_values, .ref a_terms_firstParts, .int a_terms_nodes, .ref a_terms_parts, .ref a_terms_variableNames, .ref a_terms_became, .int a_terms_variables, .int a_terms_variablesLack, .int a_terms_symbols, .int a_terms_nodesBefore, .int a_terms_partsBefore, .int a_terms_variablesBefore])), (a_links, .inl (cs 0, a_links_n, .inl a_links_f)), (a_states, .inl (cs 0, a_states_n, .inl a_states_f))] s.heap.size = A at hD hkn ⊢
  have hA : ∀ q : Nat, s.heap.size ≤ q → A q := fun q h => by rw [← hAe]; exact Or.inr h
  have hS : va_S A s.heap s.heap [] := va_S.rf
  have hP : va_P g classes [(a, .inr (8, [.ref a_terms, .ref a_links, .ref a_states, .ref a_pairs, .ref a_joined, .ref a_seen, .ref a_path])), (a_terms, .inr (7, [.ref a_terms_shapes, .ref a_terms_values, .ref a_terms_firstParts, .int a_terms_nodes, .ref a_terms_parts, .ref a_terms_variableNames, .ref a_terms_became, .int a_terms_variables, .int a_terms_variablesLack, .int a_terms_symbols, .int a_terms_nodesBefore, .int a_terms_partsBefore, .int a_terms_variablesBefore])), (a_links, .inl (cs 0, a_links_n, .inl a_links_f)), (a_states, .inl (cs 0, a_states_n, .inl a_states_f))] s.heap := hP
  have hl := lv_entry ([.ref a]) (n := 1) (Nat.le_of_ble_eq_true rfl)
  rw [lg_entry_eq]
  generalize (lg_sl ([.ref a]) ++ List.replicate (1 - (lg_sl ([.ref a])).length) Slot.unset).toArray = ls at hl ⊢
  have hl : lv_has ls 1 [(0, .ref a)] := hl
  refine gq (fun Q hQ => ?_)
  obtain ⟨H, hH⟩ : ∃ H : Heap, H = s.heap := ⟨_, rfl⟩
  rw [← hH] at hP
  have hS : va_S A s.heap H [] := by rw [hH]; exact hS
  refine W.eqH hH ?_
  obtain ⟨locs, hlc⟩ : ∃ L : List Loc, L = [] := ⟨_, rfl⟩
  rw [← hlc] at hS ⊢
  unfold p_Unifier_makeRoom at hok
  refine lv_aload_n hx hb d_Unifier_makeRoom_0 rfl (lv_at hl 0 rfl) ?_
  refine va_get (D := g) (ci := 8) (v := .ref a_links) (C := R_Unifier) (T := F_Unifier) (N := 7) hx hb hg ul_Unifier hown hK hP 0 rfl rfl 1 (by decide) (hg _ wd_319) (fun _ h9 => h9) rfl d_Unifier_makeRoom_1 ?_
  refine va_alen (v := Int32.ofNat a_links_n) hx hb hK hP 2 0 rfl rfl rfl d_Unifier_makeRoom_4 ?_
  refine lv_aload_n hx hb d_Unifier_makeRoom_5 rfl (lv_at hl 0 rfl) ?_
  refine va_get (D := g) (ci := 8) (v := .ref a_terms) (C := R_Unifier) (T := F_Unifier) (N := 7) hx hb hg ul_Unifier hown hK hP 0 rfl rfl 0 (by decide) (hg _ wd_327) (fun _ h9 => h9) rfl d_Unifier_makeRoom_6 ?_
  obtain ⟨r1, hc1, hok⟩ := bd_some hok
  obtain ⟨hPc, hDc, hFc⟩ := cut0 (wc := [(a_terms, .inr (7, [.ref a_terms_shapes, .ref a_terms_values, .ref a_terms_firstParts, .int a_terms_nodes, .ref a_terms_parts, .ref a_terms_variableNames, .ref a_terms_became, .int a_terms_variables, .int a_terms_variablesLack, .int a_terms_symbols, .int a_terms_nodesBefore, .int a_terms_partsBefore, .int a_terms_variablesBefore]))]) hP hD hS hA [1] (by decide) rfl
  refine va_calli (va_runV (As := []) (rest := [.int (Int32.ofNat a_links_n)]) ⟨hx, hb, hml, hown, hg⟩ (c_Terms_nodes l g cs ka a_terms_shapes a_terms_values a_terms_firstParts a_terms_parts a_terms_variableNames a_terms_became a_terms H.size a_terms_nodes a_terms_variables a_terms_variablesLack a_terms_symbols a_terms_nodesBefore a_terms_partsBefore a_terms_variablesBefore r1 hc1) (cwV (C := R_Terms) 0 hg (gw_V wd_329 wd_330 wd_331 wd_264 wd_328) rfl rfl rfl (by decide +kernel) ⟨Nat.le_of_ble_eq_true rfl, Nat.le_of_ble_eq_true rfl⟩) ⟨gP_blind, va_recv (q0 := 1) (ci := 7) (q := (R_Terms, F_Terms, 13)) hK hP rfl rfl, gP_pre hPc hDc hK hgl hkn hkr hS hFc⟩ rfl rfl hl.1 rfl (lv_room (Nat.le_of_ble_eq_true rfl)) d_Unifier_makeRoom_9 ⟨show 0 + 0 ≤ mc from by omega, show 0 + 0 ≤ ms from by omega⟩) hS (fun q _ h => hFc q h) hFc (fun r1' u t H locs ht hvm hr1 hB hz1 hk1 hS => ?_)
  subst hr1
  rw [ht] at hB
  obtain ⟨hP1, hD1⟩ := hB
  obtain ⟨hP, hD⟩ := jn_A hP hD [1] [0, 2, 3] rfl rfl (by decide) (by decide) hk1 hFc hP1 hD1
  obtain ⟨hP, hD⟩ : PD g A H [(a, .inr (8, [.ref a_terms, .ref a_links, .ref a_states, .ref a_pairs, .ref a_joined, .ref a_seen, .ref a_path])), (a_links, .inl (cs 0, a_links_n, .inl a_links_f)), (a_states, .inl (cs 0, a_states_n, .inl a_states_f)), (a_terms, .inr (7, [.ref a_terms_shapes, .ref a_terms_values, .ref a_terms_firstParts, .int a_terms_nodes, .ref a_terms_parts, .ref a_terms_variableNames, .ref a_terms_became, .int a_terms_variables, .int a_terms_variablesLack, .int a_terms_symbols, .int a_terms_nodesBefore, .int a_terms_partsBefore, .int a_terms_variablesBefore]))] := ⟨hP, hD⟩
  refine lv_icmp_ge hx hb d_Unifier_makeRoom_12 rfl (fun h2 => ?_) (fun h2 => ?_)
  · rw [if_pos h2] at hok
    obtain ⟨hq, hw⟩ := Prod.mk.inj (Option.some.inj hok)
    obtain ⟨hmc0, hms0⟩ := Prod.mk.inj hw
    obtain ⟨hq0, hq⟩ := Prod.mk.inj hq
    obtain ⟨hq1, hq⟩ := Prod.mk.inj hq
    obtain ⟨hq2, hq⟩ := Prod.mk.inj hq
    have hq3 := hq
    subst hq0
    subst hq1
    subst hq2
    subst hq3
    obtain ⟨hP9, hD9⟩ := sub2 (ws' := [(a, .inr (8, [.ref a_terms, .ref a_links, .ref a_states, .ref a_pairs, .ref a_joined, .ref a_seen, .ref a_path])), (a_terms, .inr (7, [.ref a_terms_shapes, .ref a_terms_values, .ref a_terms_firstParts, .int a_terms_nodes, .ref a_terms_parts, .ref a_terms_variableNames, .ref a_terms_became, .int a_terms_variables, .int a_terms_variablesLack, .int a_terms_symbols, .int a_terms_nodesBefore, .int a_terms_partsBefore, .int a_terms_variablesBefore])), (a_links, .inl (cs 0, a_links_n, .inl a_links_f)), (a_states, .inl (cs 0, a_states_n, .inl a_states_f))]) hP hD [0, 3, 1, 2] rfl (by decide) rfl
    refine W.widen (k := mc) (n := ms) (by omega) (by omega) ?_
    rw [hQ]
    exact W.vret hx hb hr (fun t ht hW => ⟨⟨(), rfl, trivial, a_links, a_states, by rw [ht]; exact hP9, hD9⟩, hS.F ht⟩) hS.2.2 d_Unifier_makeRoom_45
  · rw [if_neg h2] at hok
    refine lv_aload_n hx hb d_Unifier_makeRoom_15 rfl (lv_at hl 0 rfl) ?_
    refine lv_iconst (v := 2) hx hb d_Unifier_makeRoom_16 (by decide) ?_
    refine lv_aload_n hx hb d_Unifier_makeRoom_17 rfl (lv_at hl 0 rfl) ?_
    refine va_get (D := g) (ci := 8) (v := .ref a_terms) (C := R_Unifier) (T := F_Unifier) (N := 7) hx hb hg ul_Unifier hown hK hP 0 rfl rfl 0 (by decide) (hg _ wd_327) (fun _ h9 => h9) rfl d_Unifier_makeRoom_18 ?_
    obtain ⟨r3, hc3, hok⟩ := bd_some hok
    obtain ⟨hPc, hDc, hFc⟩ := cut0 (wc := [(a_terms, .inr (7, [.ref a_terms_shapes, .ref a_terms_values, .ref a_terms_firstParts, .int a_terms_nodes, .ref a_terms_parts, .ref a_terms_variableNames, .ref a_terms_became, .int a_terms_variables, .int a_terms_variablesLack, .int a_terms_symbols, .int a_terms_nodesBefore, .int a_terms_partsBefore, .int a_terms_variablesBefore]))]) hP hD hS hA [3] (by decide) rfl
    refine va_calli (va_runV (As := []) (rest := [.int 2, .ref a]) ⟨hx, hb, hml, hown, hg⟩ (c_Terms_nodes l g cs ka a_terms_shapes a_terms_values a_terms_firstParts a_terms_parts a_terms_variableNames a_terms_became a_terms H.size a_terms_nodes a_terms_variables a_terms_variablesLack a_terms_symbols a_terms_nodesBefore a_terms_partsBefore a_terms_variablesBefore r3 hc3) (cwV (C := R_Terms) 0 hg (gw_V wd_329 wd_330 wd_331 wd_264 wd_328) rfl rfl rfl (by decide +kernel) ⟨Nat.le_of_ble_eq_true rfl, Nat.le_of_ble_eq_true rfl⟩) ⟨gP_blind, va_recv (q0 := 3) (ci := 7) (q := (R_Terms, F_Terms, 13)) hK hP rfl rfl, gP_pre hPc hDc hK hgl hkn hkr hS hFc⟩ rfl rfl hl.1 rfl (lv_room (Nat.le_of_ble_eq_true rfl)) d_Unifier_makeRoom_21 ⟨show 0 + 0 + 0 ≤ mc from by omega, show 0 + 0 + 0 ≤ ms from by omega⟩) hS (fun q _ h => hFc q h) hFc (fun r3' u t H locs ht hvm hr3 hB hz1 hk1 hS => ?_)
    subst hr3
    rw [ht] at hB
    obtain ⟨hP1, hD1⟩ := hB
    obtain ⟨hP, hD⟩ := jn_A hP hD [3] [0, 1, 2] rfl rfl (by decide) (by decide) hk1 hFc hP1 hD1
    obtain ⟨hP, hD⟩ : PD g A H [(a, .inr (8, [.ref a_terms, .ref a_links, .ref a_states, .ref a_pairs, .ref a_joined, .ref a_seen, .ref a_path])), (a_links, .inl (cs 0, a_links_n, .inl a_links_f)), (a_states, .inl (cs 0, a_states_n, .inl a_states_f)), (a_terms, .inr (7, [.ref a_terms_shapes, .ref a_terms_values, .ref a_terms_firstParts, .int a_terms_nodes, .ref a_terms_parts, .ref a_terms_variableNames, .ref a_terms_became, .int a_terms_variables, .int a_terms_variablesLack, .int a_terms_symbols, .int a_terms_nodesBefore, .int a_terms_partsBefore, .int a_terms_variablesBefore]))] := ⟨hP, hD⟩
    refine lv_imul hx hb d_Unifier_makeRoom_24 ?_
    obtain ⟨hi4, hok⟩ := ck_some hok
    obtain ⟨m4, s4, hok, hmc4, hms4⟩ := al_some hok
    refine g_newI hx hb (hg _ wd_142) hK hP hD hS hA ((2 * r3).toNatClampNeg) (nab_in hi4).1 rfl (nab_in hi4).2 (show 0 + 0 + 0 + 1 ≤ mc from by omega) (show 0 + 0 + 0 + ((2 * r3).toNatClampNeg) ≤ ms from by omega) d_Unifier_makeRoom_25 (fun q4 H hP hD hS => ?_)
    obtain ⟨hP, hD⟩ : PD g A H [(a, .inr (8, [.ref a_terms, .ref a_links, .ref a_states, .ref a_pairs, .ref a_joined, .ref a_seen, .ref a_path])), (a_links, .inl (cs 0, a_links_n, .inl a_links_f)), (a_states, .inl (cs 0, a_states_n, .inl a_states_f)), (a_terms, .inr (7, [.ref a_terms_shapes, .ref a_terms_values, .ref a_terms_firstParts, .int a_terms_nodes, .ref a_terms_parts, .ref a_terms_variableNames, .ref a_terms_became, .int a_terms_variables, .int a_terms_variablesLack, .int a_terms_symbols, .int a_terms_nodesBefore, .int a_terms_partsBefore, .int a_terms_variablesBefore])), (q4, .inl (cs 0, ((2 * r3).toNatClampNeg), .inl (fun _ => 0)))] := ⟨hP, hD⟩
    refine va_put (D := g) (ci := 8) (v := .ref q4) (ty := .array .int) (C := R_Unifier) (T := F_Unifier) (N := 7) hx hb hg ul_Unifier t_Unifier tk_Unifier n_Unifier hown hK hP hD hS 0 rfl rfl 1 (by decide) (hg _ wd_319) (fun _ h9 => h9) rfl (by decide +kernel) rfl rfl (Nat.le_of_ble_eq_true rfl) d_Unifier_makeRoom_27 (fun H locs hP hD hS => ?_)
    obtain ⟨hP, hD⟩ : PD g A H [(a, .inr (8, [.ref a_terms, .ref q4, .ref a_states, .ref a_pairs, .ref a_joined, .ref a_seen, .ref a_path])), (a_links, .inl (cs 0, a_links_n, .inl a_links_f)), (a_states, .inl (cs 0, a_states_n, .inl a_states_f)), (a_terms, .inr (7, [.ref a_terms_shapes, .ref a_terms_values, .ref a_terms_firstParts, .int a_terms_nodes, .ref a_terms_parts, .ref a_terms_variableNames, .ref a_terms_became, .int a_terms_variables, .int a_terms_variablesLack, .int a_terms_symbols, .int a_terms_nodesBefore, .int a_terms_partsBefore, .int a_terms_variablesBefore])), (q4, .inl (cs 0, ((2 * r3).toNatClampNeg), .inl (fun _ => 0)))] := ⟨hP, hD⟩
    refine lv_aload_n hx hb d_Unifier_makeRoom_30 rfl (lv_at hl 0 rfl) ?_
    refine lv_iconst (v := 2) hx hb d_Unifier_makeRoom_31 (by decide) ?_
    refine lv_aload_n hx hb d_Unifier_makeRoom_32 rfl (lv_at hl 0 rfl) ?_
    refine va_get (D := g) (ci := 8) (v := .ref a_terms) (C := R_Unifier) (T := F_Unifier) (N := 7) hx hb hg ul_Unifier hown hK hP 0 rfl rfl 0 (by decide) (hg _ wd_327) (fun _ h9 => h9) rfl d_Unifier_makeRoom_33 ?_
    obtain ⟨r5, hc5, hok⟩ := bd_some hok
    obtain ⟨hPc, hDc, hFc⟩ := cut0 (wc := [(a_terms, .inr (7, [.ref a_terms_shapes, .ref a_terms_values, .ref a_terms_firstParts, .int a_terms_nodes, .ref a_terms_parts, .ref a_terms_variableNames, .ref a_terms_became, .int a_terms_variables, .int a_terms_variablesLack, .int a_terms_symbols, .int a_terms_nodesBefore, .int a_terms_partsBefore, .int a_terms_variablesBefore]))]) hP hD hS hA [3] (by decide) rfl
    refine va_calli (va_runV (As := []) (rest := [.int 2, .ref a]) ⟨hx, hb, hml, hown, hg⟩ (c_Terms_nodes l g cs ka a_terms_shapes a_terms_values a_terms_firstParts a_terms_parts a_terms_variableNames a_terms_became a_terms H.size a_terms_nodes a_terms_variables a_terms_variablesLack a_terms_symbols a_terms_nodesBefore a_terms_partsBefore a_terms_variablesBefore r5 hc5) (cwV (C := R_Terms) 0 hg (gw_V wd_329 wd_330 wd_331 wd_264 wd_328) rfl rfl rfl (by decide +kernel) ⟨Nat.le_of_ble_eq_true rfl, Nat.le_of_ble_eq_true rfl⟩) ⟨gP_blind, va_recv (q0 := 3) (ci := 7) (q := (R_Terms, F_Terms, 13)) hK hP rfl rfl, gP_pre hPc hDc hK hgl hkn hkr hS hFc⟩ rfl rfl hl.1 rfl (lv_room (Nat.le_of_ble_eq_true rfl)) d_Unifier_makeRoom_36 ⟨show 0 + 0 + 0 + 1 + 0 ≤ mc from by omega, show 0 + 0 + 0 + ((2 * r3).toNatClampNeg) + 0 ≤ ms from by omega⟩) hS (fun q _ h => hFc q h) hFc (fun r5' u t H locs ht hvm hr5 hB hz1 hk1 hS => ?_)
    subst hr5
    rw [ht] at hB
    obtain ⟨hP1, hD1⟩ := hB
    obtain ⟨hP, hD⟩ := jn_A hP hD [3] [0, 1, 2, 4] rfl rfl (by decide) (by decide) hk1 hFc hP1 hD1
    obtain ⟨hP, hD⟩ : PD g A H [(a, .inr (8, [.ref a_terms, .ref q4, .ref a_states, .ref a_pairs, .ref a_joined, .ref a_seen, .ref a_path])), (a_links, .inl (cs 0, a_links_n, .inl a_links_f)), (a_states, .inl (cs 0, a_states_n, .inl a_states_f)), (q4, .inl (cs 0, ((2 * r3).toNatClampNeg), .inl (fun _ => 0))), (a_terms, .inr (7, [.ref a_terms_shapes, .ref a_terms_values, .ref a_terms_firstParts, .int a_terms_nodes, .ref a_terms_parts, .ref a_terms_variableNames, .ref a_terms_became, .int a_terms_variables, .int a_terms_variablesLack, .int a_terms_symbols, .int a_terms_nodesBefore, .int a_terms_partsBefore, .int a_terms_variablesBefore]))] := ⟨hP, hD⟩
    refine lv_imul hx hb d_Unifier_makeRoom_39 ?_
    obtain ⟨hi6, hok⟩ := ck_some hok
    obtain ⟨m6, s6, hok, hmc6, hms6⟩ := al_some hok
    refine g_newI hx hb (hg _ wd_142) hK hP hD hS hA ((2 * r5).toNatClampNeg) (nab_in hi6).1 rfl (nab_in hi6).2 (show 0 + 0 + 0 + 1 + 0 + 1 ≤ mc from by omega) (show 0 + 0 + 0 + ((2 * r3).toNatClampNeg) + 0 + ((2 * r5).toNatClampNeg) ≤ ms from by omega) d_Unifier_makeRoom_40 (fun q6 H hP hD hS => ?_)
    obtain ⟨hP, hD⟩ : PD g A H [(a, .inr (8, [.ref a_terms, .ref q4, .ref a_states, .ref a_pairs, .ref a_joined, .ref a_seen, .ref a_path])), (a_links, .inl (cs 0, a_links_n, .inl a_links_f)), (a_states, .inl (cs 0, a_states_n, .inl a_states_f)), (q4, .inl (cs 0, ((2 * r3).toNatClampNeg), .inl (fun _ => 0))), (a_terms, .inr (7, [.ref a_terms_shapes, .ref a_terms_values, .ref a_terms_firstParts, .int a_terms_nodes, .ref a_terms_parts, .ref a_terms_variableNames, .ref a_terms_became, .int a_terms_variables, .int a_terms_variablesLack, .int a_terms_symbols, .int a_terms_nodesBefore, .int a_terms_partsBefore, .int a_terms_variablesBefore])), (q6, .inl (cs 0, ((2 * r5).toNatClampNeg), .inl (fun _ => 0)))] := ⟨hP, hD⟩
    refine va_put (D := g) (ci := 8) (v := .ref q6) (ty := .array .int) (C := R_Unifier) (T := F_Unifier) (N := 7) hx hb hg ul_Unifier t_Unifier tk_Unifier n_Unifier hown hK hP hD hS 0 rfl rfl 2 (by decide) (hg _ wd_320) (fun _ h9 => h9) rfl (by decide +kernel) rfl rfl (Nat.le_of_ble_eq_true rfl) d_Unifier_makeRoom_42 (fun H locs hP hD hS => ?_)
    obtain ⟨hP, hD⟩ : PD g A H [(a, .inr (8, [.ref a_terms, .ref q4, .ref q6, .ref a_pairs, .ref a_joined, .ref a_seen, .ref a_path])), (a_links, .inl (cs 0, a_links_n, .inl a_links_f)), (a_states, .inl (cs 0, a_states_n, .inl a_states_f)), (q4, .inl (cs 0, ((2 * r3).toNatClampNeg), .inl (fun _ => 0))), (a_terms, .inr (7, [.ref a_terms_shapes, .ref a_terms_values, .ref a_terms_firstParts, .int a_terms_nodes, .ref a_terms_parts, .ref a_terms_variableNames, .ref a_terms_became, .int a_terms_variables, .int a_terms_variablesLack, .int a_terms_symbols, .int a_terms_nodesBefore, .int a_terms_partsBefore, .int a_terms_variablesBefore])), (q6, .inl (cs 0, ((2 * r5).toNatClampNeg), .inl (fun _ => 0)))] := ⟨hP, hD⟩
    obtain ⟨hq, hw⟩ := Prod.mk.inj (Option.some.inj hok)
    obtain ⟨hmc0, hms0⟩ := Prod.mk.inj hw
    obtain ⟨hq0, hq⟩ := Prod.mk.inj hq
    obtain ⟨hq1, hq⟩ := Prod.mk.inj hq
    obtain ⟨hq2, hq⟩ := Prod.mk.inj hq
    have hq3 := hq
    subst hq0
    subst hq1
    subst hq2
    subst hq3
    obtain ⟨hP9, hD9⟩ := sub2 (ws' := [(a, .inr (8, [.ref a_terms, .ref q4, .ref q6, .ref a_pairs, .ref a_joined, .ref a_seen, .ref a_path])), (a_terms, .inr (7, [.ref a_terms_shapes, .ref a_terms_values, .ref a_terms_firstParts, .int a_terms_nodes, .ref a_terms_parts, .ref a_terms_variableNames, .ref a_terms_became, .int a_terms_variables, .int a_terms_variablesLack, .int a_terms_symbols, .int a_terms_nodesBefore, .int a_terms_partsBefore, .int a_terms_variablesBefore])), (q4, .inl (cs 0, ((2 * r3).toNatClampNeg), .inl (fun _ => 0))), (q6, .inl (cs 0, ((2 * r5).toNatClampNeg), .inl (fun _ => 0)))]) hP hD [0, 4, 3, 5] rfl (by decide) rfl
    refine W.widen (k := mc) (n := ms) (by omega) (by omega) ?_
    rw [hQ]
    exact W.vret hx hb hr (fun t ht hW => ⟨⟨(), rfl, trivial, q4, q6, by rw [ht]; exact hP9, hD9⟩, hS.F ht⟩) hS.2.2 d_Unifier_makeRoom_45

theorem d_Unifier_clear_0 : decode b_Unifier_clear 0 = .ok (.iconst 0, 1) := by decide +kernel
theorem d_Unifier_clear_1 : decode b_Unifier_clear 1 = .ok (.istore_n 1, 1) := by decide +kernel
theorem d_Unifier_clear_2 : decode b_Unifier_clear 2 = .ok (.iload_n 1, 1) := by decide +kernel
theorem d_Unifier_clear_3 : decode b_Unifier_clear 3 = .ok (.aload_n 0, 1) := by decide +kernel
theorem d_Unifier_clear_4 : decode b_Unifier_clear 4 = .ok (.getfield 25, 3) := by decide +kernel
theorem d_Unifier_clear_7 : decode b_Unifier_clear 7 = .ok (.invokevirtual 61, 3) := by decide +kernel
theorem d_Unifier_clear_10 : decode b_Unifier_clear 10 = .ok (.if_icmp .ge 23, 3) := by decide +kernel
theorem d_Unifier_clear_13 : decode b_Unifier_clear 13 = .ok (.aload_n 0, 1) := by decide +kernel
theorem d_Unifier_clear_14 : decode b_Unifier_clear 14 = .ok (.getfield 9, 3) := by decide +kernel
theorem d_Unifier_clear_17 : decode b_Unifier_clear 17 = .ok (.aload_n 0, 1) := by decide +kernel
theorem d_Unifier_clear_18 : decode b_Unifier_clear 18 = .ok (.getfield 25, 3) := by decide +kernel
theorem d_Unifier_clear_21 : decode b_Unifier_clear 21 = .ok (.iload_n 1, 1) := by decide +kernel
theorem d_Unifier_clear_22 : decode b_Unifier_clear 22 = .ok (.invokevirtual 64, 3) := by decide +kernel
theorem d_Unifier_clear_25 : decode b_Unifier_clear 25 = .ok (.iconst 0, 1) := by decide +kernel
theorem d_Unifier_clear_26 : decode b_Unifier_clear 26 = .ok (.iastore, 1) := by decide +kernel
theorem d_Unifier_clear_27 : decode b_Unifier_clear 27 = .ok (.iinc 1 1, 3) := by decide +kernel
theorem d_Unifier_clear_30 : decode b_Unifier_clear 30 = .ok (.goto (-28), 3) := by decide +kernel
theorem d_Unifier_clear_33 : decode b_Unifier_clear 33 = .ok (.iconst 0, 1) := by decide +kernel
theorem d_Unifier_clear_34 : decode b_Unifier_clear 34 = .ok (.istore_n 1, 1) := by decide +kernel
theorem d_Unifier_clear_35 : decode b_Unifier_clear 35 = .ok (.iload_n 1, 1) := by decide +kernel
theorem d_Unifier_clear_36 : decode b_Unifier_clear 36 = .ok (.aload_n 0, 1) := by decide +kernel
theorem d_Unifier_clear_37 : decode b_Unifier_clear 37 = .ok (.getfield 28, 3) := by decide +kernel
theorem d_Unifier_clear_40 : decode b_Unifier_clear 40 = .ok (.invokevirtual 61, 3) := by decide +kernel
theorem d_Unifier_clear_43 : decode b_Unifier_clear 43 = .ok (.if_icmp .ge 23, 3) := by decide +kernel
theorem d_Unifier_clear_46 : decode b_Unifier_clear 46 = .ok (.aload_n 0, 1) := by decide +kernel
theorem d_Unifier_clear_47 : decode b_Unifier_clear 47 = .ok (.getfield 15, 3) := by decide +kernel
theorem d_Unifier_clear_50 : decode b_Unifier_clear 50 = .ok (.aload_n 0, 1) := by decide +kernel
theorem d_Unifier_clear_51 : decode b_Unifier_clear 51 = .ok (.getfield 28, 3) := by decide +kernel
theorem d_Unifier_clear_54 : decode b_Unifier_clear 54 = .ok (.iload_n 1, 1) := by decide +kernel
theorem d_Unifier_clear_55 : decode b_Unifier_clear 55 = .ok (.invokevirtual 64, 3) := by decide +kernel
theorem d_Unifier_clear_58 : decode b_Unifier_clear 58 = .ok (.iconst 0, 1) := by decide +kernel
theorem d_Unifier_clear_59 : decode b_Unifier_clear 59 = .ok (.iastore, 1) := by decide +kernel
theorem d_Unifier_clear_60 : decode b_Unifier_clear 60 = .ok (.iinc 1 1, 3) := by decide +kernel
theorem d_Unifier_clear_63 : decode b_Unifier_clear 63 = .ok (.goto (-28), 3) := by decide +kernel
theorem d_Unifier_clear_66 : decode b_Unifier_clear 66 = .ok (.aload_n 0, 1) := by decide +kernel
theorem d_Unifier_clear_67 : decode b_Unifier_clear 67 = .ok (.getfield 25, 3) := by decide +kernel
theorem d_Unifier_clear_70 : decode b_Unifier_clear 70 = .ok (.iconst 0, 1) := by decide +kernel
theorem d_Unifier_clear_71 : decode b_Unifier_clear 71 = .ok (.invokevirtual 68, 3) := by decide +kernel
theorem d_Unifier_clear_74 : decode b_Unifier_clear 74 = .ok (.aload_n 0, 1) := by decide +kernel
theorem d_Unifier_clear_75 : decode b_Unifier_clear 75 = .ok (.getfield 28, 3) := by decide +kernel
theorem d_Unifier_clear_78 : decode b_Unifier_clear 78 = .ok (.iconst 0, 1) := by decide +kernel
theorem d_Unifier_clear_79 : decode b_Unifier_clear 79 = .ok (.invokevirtual 68, 3) := by decide +kernel
theorem d_Unifier_clear_82 : decode b_Unifier_clear 82 = .ok (.aload_n 0, 1) := by decide +kernel
theorem d_Unifier_clear_83 : decode b_Unifier_clear 83 = .ok (.getfield 21, 3) := by decide +kernel
theorem d_Unifier_clear_86 : decode b_Unifier_clear 86 = .ok (.iconst 0, 1) := by decide +kernel
theorem d_Unifier_clear_87 : decode b_Unifier_clear 87 = .ok (.invokevirtual 68, 3) := by decide +kernel
theorem d_Unifier_clear_90 : decode b_Unifier_clear 90 = .ok (.aload_n 0, 1) := by decide +kernel
theorem d_Unifier_clear_91 : decode b_Unifier_clear 91 = .ok (.getfield 31, 3) := by decide +kernel
theorem d_Unifier_clear_94 : decode b_Unifier_clear 94 = .ok (.iconst 0, 1) := by decide +kernel
theorem d_Unifier_clear_95 : decode b_Unifier_clear 95 = .ok (.invokevirtual 68, 3) := by decide +kernel
theorem d_Unifier_clear_98 : decode b_Unifier_clear 98 = .ok (.return_, 1) := by decide +kernel
def p_Unifier_clear_35 (n : Nat) (a_states_n : Nat) (a_pairs_size : Int32) (a_joined_size : Int32) (a_seen_size : Int32) (a_seen_items_n : Nat) (a_seen_items_f : Nat → Int32) (a_path_size : Int32) (a_links_1f : Nat → Int32) (kf4 : Nat) (x1_4 : Int32) (a_states_4f : Nat → Int32) : Option ((Nat → Int32) × (Nat → Int32) × Int32 × Int32 × Int32 × Int32) := match kf4 with
  | 0 => none
  | kf4 + 1 => (p_Ints_size a_seen_size).bind (fun r5 => if r5 ≤ x1_4 then ((p_Ints_cut (0 : Int32) a_joined_size).bind (fun a_size_7 => (p_Ints_cut (0 : Int32) a_seen_size).bind (fun a_size_8 => (p_Ints_cut (0 : Int32) a_pairs_size).bind (fun a_size_9 => (p_Ints_cut (0 : Int32) a_path_size).bind (fun a_size_10 => some (a_links_1f, a_states_4f, a_size_9, a_size_7, a_size_8, a_size_10)))))) else ((p_Ints_at x1_4 a_seen_size a_seen_items_n a_seen_items_f).bind (fun r11 => ck (ixb r11 a_states_n) (p_Unifier_clear_35 n a_states_n a_pairs_size a_joined_size a_seen_size a_seen_items_n a_seen_items_f a_path_size a_links_1f kf4 (x1_4 + 1) (upd a_states_4f r11.toNatClampNeg 0)))))
def p_Unifier_clear_2 (n : Nat) (a_links_n : Nat) (a_states_n : Nat) (a_states_f : Nat → Int32) (a_pairs_size : Int32) (a_joined_size : Int32) (a_joined_items_n : Nat) (a_joined_items_f : Nat → Int32) (a_seen_size : Int32) (a_seen_items_n : Nat) (a_seen_items_f : Nat → Int32) (a_path_size : Int32) (kf1 : Nat) (x1_1 : Int32) (a_links_1f : Nat → Int32) : Option ((Nat → Int32) × (Nat → Int32) × Int32 × Int32 × Int32 × Int32) := match kf1 with
  | 0 => none
  | kf1 + 1 => (p_Ints_size a_joined_size).bind (fun r2 => if r2 ≤ x1_1 then (p_Unifier_clear_35 n a_states_n a_pairs_size a_joined_size a_seen_size a_seen_items_n a_seen_items_f a_path_size a_links_1f n (0 : Int32) a_states_f) else ((p_Ints_at x1_1 a_joined_size a_joined_items_n a_joined_items_f).bind (fun r13 => ck (ixb r13 a_links_n) (p_Unifier_clear_2 n a_links_n a_states_n a_states_f a_pairs_size a_joined_size a_joined_items_n a_joined_items_f a_seen_size a_seen_items_n a_seen_items_f a_path_size kf1 (x1_1 + 1) (upd a_links_1f r13.toNatClampNeg 0)))))
def p_Unifier_clear (n : Nat) (a_links_n : Nat) (a_links_f : Nat → Int32) (a_states_n : Nat) (a_states_f : Nat → Int32) (a_pairs_size : Int32) (a_joined_size : Int32) (a_joined_items_n : Nat) (a_joined_items_f : Nat → Int32) (a_seen_size : Int32) (a_seen_items_n : Nat) (a_seen_items_f : Nat → Int32) (a_path_size : Int32) : Option ((Nat → Int32) × (Nat → Int32) × Int32 × Int32 × Int32 × Int32) := p_Unifier_clear_2 n a_links_n a_states_n a_states_f a_pairs_size a_joined_size a_joined_items_n a_joined_items_f a_seen_size a_seen_items_n a_seen_items_f a_path_size n (0 : Int32) a_links_f
set_option maxHeartbeats 4000000 in
set_option maxRecDepth 100000 in
theorem c_Unifier_clear (l : Launch) (g : va_G) (cs : Nat → ClassId) (ka : Nat → Nat) (a_terms : Nat) (a_pairs_items : Nat) (a_path_items : Nat) (a a_links a_states a_pairs a_joined a_joined_items a_seen a_seen_items a_path : Nat) (sz : Nat) (n : Nat) (a_links_n : Nat) (a_links_f : Nat → Int32) (a_states_n : Nat) (a_states_f : Nat → Int32) (a_pairs_size : Int32) (a_joined_size : Int32) (a_joined_items_n : Nat) (a_joined_items_f : Nat → Int32) (a_seen_size : Int32) (a_seen_items_n : Nat) (a_seen_items_f : Nat → Int32) (a_path_size : Int32) (o_a_links_f : Nat → Int32) (o_a_states_f : Nat → Int32) (o_a_pairs_size : Int32) (o_a_joined_size : Int32) (o_a_seen_size : Int32) (o_a_path_size : Int32) (hok : p_Unifier_clear n a_links_n a_links_f a_states_n a_states_f a_pairs_size a_joined_size a_joined_items_n a_joined_items_f a_seen_size a_seen_items_n a_seen_items_f a_path_size = some (o_a_links_f, o_a_states_f, o_a_pairs_size, o_a_joined_size, o_a_seen_size, o_a_path_size)) : Met l y_Unifier_clear (.code y_Unifier_clear b_Unifier_clear 2 none :: GW) { frames := 1, cells := 0, slots := 0, locals := 21 } (va_Pc [.ref a] (gP g cs ka [(a, .inr (8, [.ref a_terms, .ref a_links, .ref a_states, .ref a_pairs, .ref a_joined, .ref a_seen, .ref a_path])), (a_links, .inl (cs 0, a_links_n, .inl a_links_f)), (a_states, .inl (cs 0, a_states_n, .inl a_states_f)), (a_pairs, .inr (1, [.ref a_pairs_items, .int a_pairs_size])), (a_joined, .inr (1, [.ref a_joined_items, .int a_joined_size])), (a_joined_items, .inl (cs 0, a_joined_items_n, .inl a_joined_items_f)), (a_seen, .inr (1, [.ref a_seen_items, .int a_seen_size])), (a_seen_items, .inl (cs 0, a_seen_items_n, .inl a_seen_items_f)), (a_path, .inr (1, [.ref a_path_items, .int a_path_size]))] sz)) (va_Qv (fun _ : Unit => True) (fun _ t => va_P g classes [(a, .inr (8, [.ref a_terms, .ref a_links, .ref a_states, .ref a_pairs, .ref a_joined, .ref a_seen, .ref a_path])), (a_links, .inl (cs 0, a_links_n, .inl o_a_links_f)), (a_states, .inl (cs 0, a_states_n, .inl o_a_states_f)), (a_pairs, .inr (1, [.ref a_pairs_items, .int o_a_pairs_size])), (a_joined, .inr (1, [.ref a_joined_items, .int o_a_joined_size])), (a_joined_items, .inl (cs 0, a_joined_items_n, .inl a_joined_items_f)), (a_seen, .inr (1, [.ref a_seen_items, .int o_a_seen_size])), (a_seen_items, .inl (cs 0, a_seen_items_n, .inl a_seen_items_f)), (a_path, .inr (1, [.ref a_path_items, .int o_a_path_size]))] t.heap ∧ va_D (va_A [(a, .inr (8, [.ref a_terms, .ref a_links, .ref a_states, .ref a_pairs, .ref a_joined, .ref a_seen, .ref a_path])), (a_links, .inl (cs 0, a_links_n, .inl a_links_f)), (a_states, .inl (cs 0, a_states_n, .inl a_states_f)), (a_pairs, .inr (1, [.ref a_pairs_items, .int a_pairs_size])), (a_joined, .inr (1, [.ref a_joined_items, .int a_joined_size])), (a_joined_items, .inl (cs 0, a_joined_items_n, .inl a_joined_items_f)), (a_seen, .inr (1, [.ref a_seen_items, .int a_seen_size])), (a_seen_items, .inl (cs 0, a_seen_items_n, .inl a_seen_items_f)), (a_path, .inr (1, [.ref a_path_items, .int a_path_size]))] sz) [(a, .inr (8, [.ref a_terms, .ref a_links, .ref a_states, .ref a_pairs, .ref a_joined, .ref a_seen, .ref a_path])), (a_links, .inl (cs 0, a_links_n, .inl o_a_links_f)), (a_states, .inl (cs 0, a_states_n, .inl o_a_states_f)), (a_pairs, .inr (1, [.ref a_pairs_items, .int o_a_pairs_size])), (a_joined, .inr (1, [.ref a_joined_items, .int o_a_joined_size])), (a_joined_items, .inl (cs 0, a_joined_items_n, .inl a_joined_items_f)), (a_seen, .inr (1, [.ref a_seen_items, .int o_a_seen_size])), (a_seen_items, .inl (cs 0, a_seen_items_n, .inl a_seen_items_f)), (a_path, .inr (1, [.ref a_path_items, .int o_a_path_size]))]) (va_A [(a, .inr (8, [.ref a_terms, .ref a_links, .ref a_states, .ref a_pairs, .ref a_joined, .ref a_seen, .ref a_path])), (a_links, .inl (cs 0, a_links_n, .inl a_links_f)), (a_states, .inl (cs 0, a_states_n, .inl a_states_f)), (a_pairs, .inr (1, [.ref a_pairs_items, .int a_pairs_size])), (a_joined, .inr (1, [.ref a_joined_items, .int a_joined_size])), (a_joined_items, .inl (cs 0, a_joined_items_n, .inl a_joined_items_f)), (a_seen, .inr (1, [.ref a_seen_items, .int a_seen_size])), (a_seen_items, .inl (cs 0, a_seen_items_n, .inl a_seen_items_f)), (a_path, .inr (1, [.ref a_path_items, .int a_path_size]))] sz)) 0 0 (va_A [(a, .inr (8, [.ref a_terms, .ref a_links, .ref a_states, .ref a_pairs, .ref a_joined, .ref a_seen, .ref a_path])), (a_links, .inl (cs 0, a_links_n, .inl a_links_f)), (a_states, .inl (cs 0, a_states_n, .inl a_states_f)), (a_pairs, .inr (1, [.ref a_pairs_items, .int a_pairs_size])), (a_joined, .inr (1, [.ref a_joined_items, .int a_joined_size])), (a_joined_items, .inl (cs 0, a_joined_items_n, .inl a_joined_items_f)), (a_seen, .inr (1, [.ref a_seen_items, .int a_seen_size])), (a_seen_items, .inl (cs 0, a_seen_items_n, .inl a_seen_items_f)), (a_path, .inr (1, [.ref a_path_items, .int a_path_size]))] sz) := by
  refine Met.ofW (cc := b_Unifier_clear) (maxL := 2) (ret := none) (by decide) rfl ?_
  intro p e s m args below meth c s₁ B hml hv
  obtain ⟨rfl, hsz, hP, hK, hD0, hgl, hkn, hkr⟩ := hv
  have hx := B.exec
  have hb := B.bytes
  have hr := B.returns
  have hg : ∀ w ∈ GW, w.before ([.ref a] : List Value).toArray s = true := fun w hw => atoms_spec (ws := .code y_Unifier_clear b_Unifier_clear 2 none :: GW) B.pre w (List.mem_cons_of_mem _ hw)
  have hown : s.vm.findClass R_Unifier = some m.cls := findClass_of_methodNamed B.named
  have hlocks := B.notSynchronized
  subst hsz
  have hD := hD0.self (sz := s.heap.size)
  generalize hAe : va_A [(a, .inr (8, [.ref a_terms, .ref a_links, .ref a_states, .ref a_pairs, .ref a_joined, .ref a_seen, .ref a_path])), (a_links, .inl (cs 0, a_links_n, .inl a_links_f)), (a_states, .inl (cs 0, a_states_n, .inl a_states_f)), (a_pairs, .inr (1, [.ref a_pairs_items, .int a_pairs_size])), (a_joined, .inr (1, [.ref a_joined_items, .int a_joined_size])), (a_joined_items, .inl (cs 0, a_joined_items_n, .inl a_joined_items_f)), (a_seen, .inr (1, [.ref a_seen_items, .int a_seen_size])), (a_seen_items, .inl (cs 0, a_seen_items_n, .inl a_seen_items_f)), (a_path, .inr (1, [.ref a_path_items, .int a_path_size]))] s.heap.size = A at hD hkn ⊢
  have hA : ∀ q : Nat, s.heap.size ≤ q → A q := fun q h => by rw [← hAe]; exact Or.inr h
  have hS : va_S A s.heap s.heap [] := va_S.rf
  have hP : va_P g classes [(a, .inr (8, [.ref a_terms, .ref a_links, .ref a_states, .ref a_pairs, .ref a_joined, .ref a_seen, .ref a_path])), (a_links, .inl (cs 0, a_links_n, .inl a_links_f)), (a_states, .inl (cs 0, a_states_n, .inl a_states_f)), (a_pairs, .inr (1, [.ref a_pairs_items, .int a_pairs_size])), (a_joined, .inr (1, [.ref a_joined_items, .int a_joined_size])), (a_joined_items, .inl (cs 0, a_joined_items_n, .inl a_joined_items_f)), (a_seen, .inr (1, [.ref a_seen_items, .int a_seen_size])), (a_seen_items, .inl (cs 0, a_seen_items_n, .inl a_seen_items_f)), (a_path, .inr (1, [.ref a_path_items, .int a_path_size]))] s.heap := hP
  have hl := lv_entry ([.ref a]) (n := 2) (Nat.le_of_ble_eq_true rfl)
  rw [lg_entry_eq]
  generalize (lg_sl ([.ref a]) ++ List.replicate (2 - (lg_sl ([.ref a])).length) Slot.unset).toArray = ls at hl ⊢
  have hl : lv_has ls 2 [(0, .ref a)] := hl
  refine gq (fun Q hQ => ?_)
  obtain ⟨H, hH⟩ : ∃ H : Heap, H = s.heap := ⟨_, rfl⟩
  rw [← hH] at hP
  have hS : va_S A s.heap H [] := by rw [hH]; exact hS
  refine W.eqH hH ?_
  obtain ⟨locs, hlc⟩ : ∃ L : List Loc, L = [] := ⟨_, rfl⟩
  rw [← hlc] at hS ⊢
  unfold p_Unifier_clear at hok
  refine lv_iconst (v := 0) hx hb d_Unifier_clear_0 (by decide) ?_
  refine lv_istore_n hx hb d_Unifier_clear_1 rfl hl (by decide) rfl (fun ls hl => ?_)
  have hl : lv_has ls 2 [(1, .int 0), (0, .ref a)] := hl
  have J1 : ∀ (kf1 : Nat) (H : Heap) (locs : List Loc) (ls : Array Slot) (x1_1 : Int32) (a_links_1f : Nat → Int32), lv_has ls 2 [(1, .int x1_1), (0, .ref a)] → PD g A H [(a, .inr (8, [.ref a_terms, .ref a_links, .ref a_states, .ref a_pairs, .ref a_joined, .ref a_seen, .ref a_path])), (a_links, .inl (cs 0, a_links_n, .inl a_links_1f)), (a_states, .inl (cs 0, a_states_n, .inl a_states_f)), (a_pairs, .inr (1, [.ref a_pairs_items, .int a_pairs_size])), (a_joined, .inr (1, [.ref a_joined_items, .int a_joined_size])), (a_joined_items, .inl (cs 0, a_joined_items_n, .inl a_joined_items_f)), (a_seen, .inr (1, [.ref a_seen_items, .int a_seen_size])), (a_seen_items, .inl (cs 0, a_seen_items_n, .inl a_seen_items_f)), (a_path, .inr (1, [.ref a_path_items, .int a_path_size]))] → va_S A s.heap H locs → p_Unifier_clear_2 n a_links_n a_states_n a_states_f a_pairs_size a_joined_size a_joined_items_n a_joined_items_f a_seen_size a_seen_items_n a_seen_items_f a_path_size kf1 x1_1 a_links_1f = some (o_a_links_f, o_a_states_f, o_a_pairs_size, o_a_joined_size, o_a_seen_size, o_a_path_size) → W p l e (headSpec (.code y_Unifier_clear b_Unifier_clear 2 none :: GW) { frames := 1, cells := 0, slots := 0, locals := 21 }).room s m ([.ref a] : List Value).toArray below meth c H locs 0 0 Q (F0 m 2 ls []) := by
    intro kf1
    induction kf1 with
    | zero => intro H locs ls x1_1 a_links_1f hl ⟨hP, hD⟩ hS hok; rw [p_Unifier_clear_2] at hok; cases hok
    | succ kf1 ih1 =>
      intro H locs ls x1_1 a_links_1f hl ⟨hP, hD⟩ hS hok
      rw [p_Unifier_clear_2] at hok
      refine lv_iload_n hx hb d_Unifier_clear_2 rfl (lv_at hl 0 rfl) ?_
      refine lv_aload_n hx hb d_Unifier_clear_3 rfl (lv_at hl 1 rfl) ?_
      refine va_get (D := g) (ci := 8) (v := .ref a_joined) (C := R_Unifier) (T := F_Unifier) (N := 7) hx hb hg ul_Unifier hown hK hP 0 rfl rfl 4 (by decide) (hg _ wd_324) (fun _ h9 => h9) rfl d_Unifier_clear_4 ?_
      obtain ⟨r2, hc2, hok⟩ := bd_some hok
      obtain ⟨hPc, hDc, hFc⟩ := cut0 (wc := [(a_joined, .inr (1, [.ref a_joined_items, .int a_joined_size]))]) hP hD hS hA [4] (by decide) rfl
      refine va_calli (va_runV (As := []) (rest := [.int x1_1]) ⟨hx, hb, hml, hown, hg⟩ (c_Ints_size l g cs ka a_joined_items a_joined H.size a_joined_size r2 hc2) (cwV (C := R_Ints) 0 hg (gw_V wd_332 wd_249 wd_250 wd_234 wd_247) rfl rfl rfl (by decide +kernel) ⟨Nat.le_of_ble_eq_true rfl, Nat.le_of_ble_eq_true rfl⟩) ⟨gP_blind, va_recv (q0 := 4) (ci := 1) (q := (R_Ints, F_Ints, 2)) hK hP rfl rfl, gP_pre hPc hDc hK hgl hkn hkr hS hFc⟩ rfl rfl hl.1 rfl (lv_room (Nat.le_of_ble_eq_true rfl)) d_Unifier_clear_7 ⟨Nat.le_of_ble_eq_true rfl, Nat.le_of_ble_eq_true rfl⟩) hS (fun q _ h => hFc q h) hFc (fun r2' u t H locs ht hvm hr2 hB hz1 hk1 hS => ?_)
      subst hr2
      rw [ht] at hB
      obtain ⟨hP1, hD1⟩ := hB
      obtain ⟨hP, hD⟩ := jn_A hP hD [4] [0, 1, 2, 3, 5, 6, 7, 8] rfl rfl (by decide) (by decide) hk1 hFc hP1 hD1
      obtain ⟨hP, hD⟩ : PD g A H [(a, .inr (8, [.ref a_terms, .ref a_links, .ref a_states, .ref a_pairs, .ref a_joined, .ref a_seen, .ref a_path])), (a_links, .inl (cs 0, a_links_n, .inl a_links_1f)), (a_states, .inl (cs 0, a_states_n, .inl a_states_f)), (a_pairs, .inr (1, [.ref a_pairs_items, .int a_pairs_size])), (a_joined_items, .inl (cs 0, a_joined_items_n, .inl a_joined_items_f)), (a_seen, .inr (1, [.ref a_seen_items, .int a_seen_size])), (a_seen_items, .inl (cs 0, a_seen_items_n, .inl a_seen_items_f)), (a_path, .inr (1, [.ref a_path_items, .int a_path_size])), (a_joined, .inr (1, [.ref a_joined_items, .int a_joined_size]))] := ⟨hP, hD⟩
      refine lv_icmp_ge hx hb d_Unifier_clear_10 rfl (fun h3 => ?_) (fun h3 => ?_)
      · rw [if_pos h3] at hok
        refine lv_iconst (v := 0) hx hb d_Unifier_clear_33 (by decide) ?_
        refine lv_istore_n hx hb d_Unifier_clear_34 rfl hl (by decide) rfl (fun ls hl => ?_)
        have hl : lv_has ls 2 [(1, .int 0), (0, .ref a)] := hl
        have J4 : ∀ (kf4 : Nat) (H : Heap) (locs : List Loc) (ls : Array Slot) (x1_4 : Int32) (a_states_4f : Nat → Int32), lv_has ls 2 [(1, .int x1_4), (0, .ref a)] → PD g A H [(a, .inr (8, [.ref a_terms, .ref a_links, .ref a_states, .ref a_pairs, .ref a_joined, .ref a_seen, .ref a_path])), (a_links, .inl (cs 0, a_links_n, .inl a_links_1f)), (a_states, .inl (cs 0, a_states_n, .inl a_states_4f)), (a_pairs, .inr (1, [.ref a_pairs_items, .int a_pairs_size])), (a_joined_items, .inl (cs 0, a_joined_items_n, .inl a_joined_items_f)), (a_seen, .inr (1, [.ref a_seen_items, .int a_seen_size])), (a_seen_items, .inl (cs 0, a_seen_items_n, .inl a_seen_items_f)), (a_path, .inr (1, [.ref a_path_items, .int a_path_size])), (a_joined, .inr (1, [.ref a_joined_items, .int a_joined_size]))] → va_S A s.heap H locs → p_Unifier_clear_35 n a_states_n a_pairs_size a_joined_size a_seen_size a_seen_items_n a_seen_items_f a_path_size a_links_1f kf4 x1_4 a_states_4f = some (o_a_links_f, o_a_states_f, o_a_pairs_size, o_a_joined_size, o_a_seen_size, o_a_path_size) → W p l e (headSpec (.code y_Unifier_clear b_Unifier_clear 2 none :: GW) { frames := 1, cells := 0, slots := 0, locals := 21 }).room s m ([.ref a] : List Value).toArray below meth c H locs 0 0 Q (F0 m 35 ls []) := by
          intro kf4
          induction kf4 with
          | zero => intro H locs ls x1_4 a_states_4f hl ⟨hP, hD⟩ hS hok; rw [p_Unifier_clear_35] at hok; cases hok
          | succ kf4 ih4 =>
            intro H locs ls x1_4 a_states_4f hl ⟨hP, hD⟩ hS hok
            rw [p_Unifier_clear_35] at hok
            refine lv_iload_n hx hb d_Unifier_clear_35 rfl (lv_at hl 0 rfl) ?_
            refine lv_aload_n hx hb d_Unifier_clear_36 rfl (lv_at hl 1 rfl) ?_
            refine va_get (D := g) (ci := 8) (v := .ref a_seen) (C := R_Unifier) (T := F_Unifier) (N := 7) hx hb hg ul_Unifier hown hK hP 0 rfl rfl 5 (by decide) (hg _ wd_325) (fun _ h9 => h9) rfl d_Unifier_clear_37 ?_
            obtain ⟨r5, hc5, hok⟩ := bd_some hok
            obtain ⟨hPc, hDc, hFc⟩ := cut0 (wc := [(a_seen, .inr (1, [.ref a_seen_items, .int a_seen_size]))]) hP hD hS hA [5] (by decide) rfl
            refine va_calli (va_runV (As := []) (rest := [.int x1_4]) ⟨hx, hb, hml, hown, hg⟩ (c_Ints_size l g cs ka a_seen_items a_seen H.size a_seen_size r5 hc5) (cwV (C := R_Ints) 0 hg (gw_V wd_332 wd_249 wd_250 wd_234 wd_247) rfl rfl rfl (by decide +kernel) ⟨Nat.le_of_ble_eq_true rfl, Nat.le_of_ble_eq_true rfl⟩) ⟨gP_blind, va_recv (q0 := 5) (ci := 1) (q := (R_Ints, F_Ints, 2)) hK hP rfl rfl, gP_pre hPc hDc hK hgl hkn hkr hS hFc⟩ rfl rfl hl.1 rfl (lv_room (Nat.le_of_ble_eq_true rfl)) d_Unifier_clear_40 ⟨Nat.le_of_ble_eq_true rfl, Nat.le_of_ble_eq_true rfl⟩) hS (fun q _ h => hFc q h) hFc (fun r5' u t H locs ht hvm hr5 hB hz1 hk1 hS => ?_)
            subst hr5
            rw [ht] at hB
            obtain ⟨hP1, hD1⟩ := hB
            obtain ⟨hP, hD⟩ := jn_A hP hD [5] [0, 1, 2, 3, 4, 6, 7, 8] rfl rfl (by decide) (by decide) hk1 hFc hP1 hD1
            obtain ⟨hP, hD⟩ : PD g A H [(a, .inr (8, [.ref a_terms, .ref a_links, .ref a_states, .ref a_pairs, .ref a_joined, .ref a_seen, .ref a_path])), (a_links, .inl (cs 0, a_links_n, .inl a_links_1f)), (a_states, .inl (cs 0, a_states_n, .inl a_states_4f)), (a_pairs, .inr (1, [.ref a_pairs_items, .int a_pairs_size])), (a_joined_items, .inl (cs 0, a_joined_items_n, .inl a_joined_items_f)), (a_seen_items, .inl (cs 0, a_seen_items_n, .inl a_seen_items_f)), (a_path, .inr (1, [.ref a_path_items, .int a_path_size])), (a_joined, .inr (1, [.ref a_joined_items, .int a_joined_size])), (a_seen, .inr (1, [.ref a_seen_items, .int a_seen_size]))] := ⟨hP, hD⟩
            refine lv_icmp_ge hx hb d_Unifier_clear_43 rfl (fun h6 => ?_) (fun h6 => ?_)
            · rw [if_pos h6] at hok
              refine lv_aload_n hx hb d_Unifier_clear_66 rfl (lv_at hl 1 rfl) ?_
              refine va_get (D := g) (ci := 8) (v := .ref a_joined) (C := R_Unifier) (T := F_Unifier) (N := 7) hx hb hg ul_Unifier hown hK hP 0 rfl rfl 4 (by decide) (hg _ wd_324) (fun _ h9 => h9) rfl d_Unifier_clear_67 ?_
              refine lv_iconst (v := 0) hx hb d_Unifier_clear_70 (by decide) ?_
              obtain ⟨a_size_7, hc7, hok⟩ := bd_some hok
              obtain ⟨hPc, hDc, hFc⟩ := cut0 (wc := [(a_joined, .inr (1, [.ref a_joined_items, .int a_joined_size]))]) hP hD hS hA [7] (by decide) rfl
              refine va_callv (va_runV (As := [.int 0]) (rest := []) ⟨hx, hb, hml, hown, hg⟩ (c_Ints_cut l g cs ka a_joined_items a_joined H.size (0 : Int32) a_joined_size a_size_7 hc7) (cwV (C := R_Ints) 1 hg (gw_V wd_333 wd_253 wd_254 wd_234 wd_251) rfl rfl rfl (by decide +kernel) ⟨Nat.le_of_ble_eq_true rfl, Nat.le_of_ble_eq_true rfl⟩) ⟨gP_blind, va_recv (q0 := 7) (ci := 1) (q := (R_Ints, F_Ints, 2)) hK hP rfl rfl, gP_pre hPc hDc hK hgl hkn hkr hS hFc⟩ rfl rfl hl.1 rfl (lv_room (Nat.le_of_ble_eq_true rfl)) d_Unifier_clear_71 ⟨Nat.le_of_ble_eq_true rfl, Nat.le_of_ble_eq_true rfl⟩) hS (fun q _ h => hFc q h) hFc (fun u t H locs ht hvm hr7 hB hz1 hk1 hS => ?_)
              rw [ht] at hB
              obtain ⟨hP1, hD1⟩ := hB
              obtain ⟨hP, hD⟩ := jn_A hP hD [7] [0, 1, 2, 3, 4, 5, 6, 8] rfl rfl (by decide) (by decide) hk1 hFc hP1 hD1
              obtain ⟨hP, hD⟩ : PD g A H [(a, .inr (8, [.ref a_terms, .ref a_links, .ref a_states, .ref a_pairs, .ref a_joined, .ref a_seen, .ref a_path])), (a_links, .inl (cs 0, a_links_n, .inl a_links_1f)), (a_states, .inl (cs 0, a_states_n, .inl a_states_4f)), (a_pairs, .inr (1, [.ref a_pairs_items, .int a_pairs_size])), (a_joined_items, .inl (cs 0, a_joined_items_n, .inl a_joined_items_f)), (a_seen_items, .inl (cs 0, a_seen_items_n, .inl a_seen_items_f)), (a_path, .inr (1, [.ref a_path_items, .int a_path_size])), (a_seen, .inr (1, [.ref a_seen_items, .int a_seen_size])), (a_joined, .inr (1, [.ref a_joined_items, .int a_size_7]))] := ⟨hP, hD⟩
              refine lv_aload_n hx hb d_Unifier_clear_74 rfl (lv_at hl 1 rfl) ?_
              refine va_get (D := g) (ci := 8) (v := .ref a_seen) (C := R_Unifier) (T := F_Unifier) (N := 7) hx hb hg ul_Unifier hown hK hP 0 rfl rfl 5 (by decide) (hg _ wd_325) (fun _ h9 => h9) rfl d_Unifier_clear_75 ?_
              refine lv_iconst (v := 0) hx hb d_Unifier_clear_78 (by decide) ?_
              obtain ⟨a_size_8, hc8, hok⟩ := bd_some hok
              obtain ⟨hPc, hDc, hFc⟩ := cut0 (wc := [(a_seen, .inr (1, [.ref a_seen_items, .int a_seen_size]))]) hP hD hS hA [7] (by decide) rfl
              refine va_callv (va_runV (As := [.int 0]) (rest := []) ⟨hx, hb, hml, hown, hg⟩ (c_Ints_cut l g cs ka a_seen_items a_seen H.size (0 : Int32) a_seen_size a_size_8 hc8) (cwV (C := R_Ints) 1 hg (gw_V wd_333 wd_253 wd_254 wd_234 wd_251) rfl rfl rfl (by decide +kernel) ⟨Nat.le_of_ble_eq_true rfl, Nat.le_of_ble_eq_true rfl⟩) ⟨gP_blind, va_recv (q0 := 7) (ci := 1) (q := (R_Ints, F_Ints, 2)) hK hP rfl rfl, gP_pre hPc hDc hK hgl hkn hkr hS hFc⟩ rfl rfl hl.1 rfl (lv_room (Nat.le_of_ble_eq_true rfl)) d_Unifier_clear_79 ⟨Nat.le_of_ble_eq_true rfl, Nat.le_of_ble_eq_true rfl⟩) hS (fun q _ h => hFc q h) hFc (fun u t H locs ht hvm hr8 hB hz1 hk1 hS => ?_)
              rw [ht] at hB
              obtain ⟨hP1, hD1⟩ := hB
              obtain ⟨hP, hD⟩ := jn_A hP hD [7] [0, 1, 2, 3, 4, 5, 6, 8] rfl rfl (by decide) (by decide) hk1 hFc hP1 hD1
              obtain ⟨hP, hD⟩ : PD g A H [(a, .inr (8, [.ref a_terms, .ref a_links, .ref a_states, .ref a_pairs, .ref a_joined, .ref a_seen, .ref a_path])), (a_links, .inl (cs 0, a_links_n, .inl a_links_1f)), (a_states, .inl (cs 0, a_states_n, .inl a_states_4f)), (a_pairs, .inr (1, [.ref a_pairs_items, .int a_pairs_size])), (a_joined_items, .inl (cs 0, a_joined_items_n, .inl a_joined_items_f)), (a_seen_items, .inl (cs 0, a_seen_items_n, .inl a_seen_items_f)), (a_path, .inr (1, [.ref a_path_items, .int a_path_size])), (a_joined, .inr (1, [.ref a_joined_items, .int a_size_7])), (a_seen, .inr (1, [.ref a_seen_items, .int a_size_8]))] := ⟨hP, hD⟩
              refine lv_aload_n hx hb d_Unifier_clear_82 rfl (lv_at hl 1 rfl) ?_
              refine va_get (D := g) (ci := 8) (v := .ref a_pairs) (C := R_Unifier) (T := F_Unifier) (N := 7) hx hb hg ul_Unifier hown hK hP 0 rfl rfl 3 (by decide) (hg _ wd_323) (fun _ h9 => h9) rfl d_Unifier_clear_83 ?_
              refine lv_iconst (v := 0) hx hb d_Unifier_clear_86 (by decide) ?_
              obtain ⟨a_size_9, hc9, hok⟩ := bd_some hok
              obtain ⟨hPc, hDc, hFc⟩ := cut0 (wc := [(a_pairs, .inr (1, [.ref a_pairs_items, .int a_pairs_size]))]) hP hD hS hA [3] (by decide) rfl
              refine va_callv (va_runV (As := [.int 0]) (rest := []) ⟨hx, hb, hml, hown, hg⟩ (c_Ints_cut l g cs ka a_pairs_items a_pairs H.size (0 : Int32) a_pairs_size a_size_9 hc9) (cwV (C := R_Ints) 1 hg (gw_V wd_333 wd_253 wd_254 wd_234 wd_251) rfl rfl rfl (by decide +kernel) ⟨Nat.le_of_ble_eq_true rfl, Nat.le_of_ble_eq_true rfl⟩) ⟨gP_blind, va_recv (q0 := 3) (ci := 1) (q := (R_Ints, F_Ints, 2)) hK hP rfl rfl, gP_pre hPc hDc hK hgl hkn hkr hS hFc⟩ rfl rfl hl.1 rfl (lv_room (Nat.le_of_ble_eq_true rfl)) d_Unifier_clear_87 ⟨Nat.le_of_ble_eq_true rfl, Nat.le_of_ble_eq_true rfl⟩) hS (fun q _ h => hFc q h) hFc (fun u t H locs ht hvm hr9 hB hz1 hk1 hS => ?_)
              rw [ht] at hB
              obtain ⟨hP1, hD1⟩ := hB
              obtain ⟨hP, hD⟩ := jn_A hP hD [3] [0, 1, 2, 4, 5, 6, 7, 8] rfl rfl (by decide) (by decide) hk1 hFc hP1 hD1
              obtain ⟨hP, hD⟩ : PD g A H [(a, .inr (8, [.ref a_terms, .ref a_links, .ref a_states, .ref a_pairs, .ref a_joined, .ref a_seen, .ref a_path])), (a_links, .inl (cs 0, a_links_n, .inl a_links_1f)), (a_states, .inl (cs 0, a_states_n, .inl a_states_4f)), (a_joined_items, .inl (cs 0, a_joined_items_n, .inl a_joined_items_f)), (a_seen_items, .inl (cs 0, a_seen_items_n, .inl a_seen_items_f)), (a_path, .inr (1, [.ref a_path_items, .int a_path_size])), (a_joined, .inr (1, [.ref a_joined_items, .int a_size_7])), (a_seen, .inr (1, [.ref a_seen_items, .int a_size_8])), (a_pairs, .inr (1, [.ref a_pairs_items, .int a_size_9]))] := ⟨hP, hD⟩
              refine lv_aload_n hx hb d_Unifier_clear_90 rfl (lv_at hl 1 rfl) ?_
              refine va_get (D := g) (ci := 8) (v := .ref a_path) (C := R_Unifier) (T := F_Unifier) (N := 7) hx hb hg ul_Unifier hown hK hP 0 rfl rfl 6 (by decide) (hg _ wd_326) (fun _ h9 => h9) rfl d_Unifier_clear_91 ?_
              refine lv_iconst (v := 0) hx hb d_Unifier_clear_94 (by decide) ?_
              obtain ⟨a_size_10, hc10, hok⟩ := bd_some hok
              obtain ⟨hPc, hDc, hFc⟩ := cut0 (wc := [(a_path, .inr (1, [.ref a_path_items, .int a_path_size]))]) hP hD hS hA [5] (by decide) rfl
              refine va_callv (va_runV (As := [.int 0]) (rest := []) ⟨hx, hb, hml, hown, hg⟩ (c_Ints_cut l g cs ka a_path_items a_path H.size (0 : Int32) a_path_size a_size_10 hc10) (cwV (C := R_Ints) 1 hg (gw_V wd_333 wd_253 wd_254 wd_234 wd_251) rfl rfl rfl (by decide +kernel) ⟨Nat.le_of_ble_eq_true rfl, Nat.le_of_ble_eq_true rfl⟩) ⟨gP_blind, va_recv (q0 := 5) (ci := 1) (q := (R_Ints, F_Ints, 2)) hK hP rfl rfl, gP_pre hPc hDc hK hgl hkn hkr hS hFc⟩ rfl rfl hl.1 rfl (lv_room (Nat.le_of_ble_eq_true rfl)) d_Unifier_clear_95 ⟨Nat.le_of_ble_eq_true rfl, Nat.le_of_ble_eq_true rfl⟩) hS (fun q _ h => hFc q h) hFc (fun u t H locs ht hvm hr10 hB hz1 hk1 hS => ?_)
              rw [ht] at hB
              obtain ⟨hP1, hD1⟩ := hB
              obtain ⟨hP, hD⟩ := jn_A hP hD [5] [0, 1, 2, 3, 4, 6, 7, 8] rfl rfl (by decide) (by decide) hk1 hFc hP1 hD1
              obtain ⟨hP, hD⟩ : PD g A H [(a, .inr (8, [.ref a_terms, .ref a_links, .ref a_states, .ref a_pairs, .ref a_joined, .ref a_seen, .ref a_path])), (a_links, .inl (cs 0, a_links_n, .inl a_links_1f)), (a_states, .inl (cs 0, a_states_n, .inl a_states_4f)), (a_joined_items, .inl (cs 0, a_joined_items_n, .inl a_joined_items_f)), (a_seen_items, .inl (cs 0, a_seen_items_n, .inl a_seen_items_f)), (a_joined, .inr (1, [.ref a_joined_items, .int a_size_7])), (a_seen, .inr (1, [.ref a_seen_items, .int a_size_8])), (a_pairs, .inr (1, [.ref a_pairs_items, .int a_size_9])), (a_path, .inr (1, [.ref a_path_items, .int a_size_10]))] := ⟨hP, hD⟩
              have hq := Option.some.inj hok
              obtain ⟨hq0, hq⟩ := Prod.mk.inj hq
              obtain ⟨hq1, hq⟩ := Prod.mk.inj hq
              obtain ⟨hq2, hq⟩ := Prod.mk.inj hq
              obtain ⟨hq3, hq⟩ := Prod.mk.inj hq
              obtain ⟨hq4, hq⟩ := Prod.mk.inj hq
              have hq5 := hq
              subst hq0
              subst hq1
              subst hq2
              subst hq3
              subst hq4
              subst hq5
              obtain ⟨hP9, hD9⟩ := sub2 (ws' := [(a, .inr (8, [.ref a_terms, .ref a_links, .ref a_states, .ref a_pairs, .ref a_joined, .ref a_seen, .ref a_path])), (a_links, .inl (cs 0, a_links_n, .inl a_links_1f)), (a_states, .inl (cs 0, a_states_n, .inl a_states_4f)), (a_pairs, .inr (1, [.ref a_pairs_items, .int a_size_9])), (a_joined, .inr (1, [.ref a_joined_items, .int a_size_7])), (a_joined_items, .inl (cs 0, a_joined_items_n, .inl a_joined_items_f)), (a_seen, .inr (1, [.ref a_seen_items, .int a_size_8])), (a_seen_items, .inl (cs 0, a_seen_items_n, .inl a_seen_items_f)), (a_path, .inr (1, [.ref a_path_items, .int a_size_10]))]) hP hD [0, 1, 2, 7, 5, 3, 6, 4, 8] rfl (by decide) rfl
              rw [hQ]
              exact W.vret hx hb hr (fun t ht hW => ⟨⟨(), rfl, trivial, by rw [ht]; exact hP9, hD9⟩, hS.F ht⟩) hS.2.2 d_Unifier_clear_98
            · rw [if_neg h6] at hok
              refine lv_aload_n hx hb d_Unifier_clear_46 rfl (lv_at hl 1 rfl) ?_
              refine va_get (D := g) (ci := 8) (v := .ref a_states) (C := R_Unifier) (T := F_Unifier) (N := 7) hx hb hg ul_Unifier hown hK hP 0 rfl rfl 2 (by decide) (hg _ wd_320) (fun _ h9 => h9) rfl d_Unifier_clear_47 ?_
              refine lv_aload_n hx hb d_Unifier_clear_50 rfl (lv_at hl 1 rfl) ?_
              refine va_get (D := g) (ci := 8) (v := .ref a_seen) (C := R_Unifier) (T := F_Unifier) (N := 7) hx hb hg ul_Unifier hown hK hP 0 rfl rfl 5 (by decide) (hg _ wd_325) (fun _ h9 => h9) rfl d_Unifier_clear_51 ?_
              refine lv_iload_n hx hb d_Unifier_clear_54 rfl (lv_at hl 0 rfl) ?_
              obtain ⟨r11, hc11, hok⟩ := bd_some hok
              obtain ⟨hPc, hDc, hFc⟩ := cut0 (wc := [(a_seen, .inr (1, [.ref a_seen_items, .int a_seen_size])), (a_seen_items, .inl (cs 0, a_seen_items_n, .inl a_seen_items_f))]) hP hD hS hA [8, 5] (by decide) rfl
              refine va_calli (va_runV (As := [.int x1_4]) (rest := [.ref a_states]) ⟨hx, hb, hml, hown, hg⟩ (c_Ints_at l g cs ka a_seen a_seen_items H.size x1_4 a_seen_size a_seen_items_n a_seen_items_f r11 hc11) (cwV (C := R_Ints) 1 hg (gw_V wd_334 wd_270 wd_271 wd_234 wd_268) rfl rfl rfl (by decide +kernel) ⟨Nat.le_of_ble_eq_true rfl, Nat.le_of_ble_eq_true rfl⟩) ⟨gP_blind, va_recv (q0 := 8) (ci := 1) (q := (R_Ints, F_Ints, 2)) hK hP rfl rfl, gP_pre hPc hDc hK hgl hkn hkr hS hFc⟩ rfl rfl hl.1 rfl (lv_room (Nat.le_of_ble_eq_true rfl)) d_Unifier_clear_55 ⟨Nat.le_of_ble_eq_true rfl, Nat.le_of_ble_eq_true rfl⟩) hS (fun q _ h => hFc q h) hFc (fun r11' u t H locs ht hvm hr11 hB hz1 hk1 hS => ?_)
              subst hr11
              rw [ht] at hB
              obtain ⟨hP1, hD1⟩ := hB
              obtain ⟨hP, hD⟩ := jn_A hP hD [8, 5] [0, 1, 2, 3, 4, 6, 7] rfl rfl (by decide) (by decide) hk1 hFc hP1 hD1
              obtain ⟨hP, hD⟩ : PD g A H [(a, .inr (8, [.ref a_terms, .ref a_links, .ref a_states, .ref a_pairs, .ref a_joined, .ref a_seen, .ref a_path])), (a_links, .inl (cs 0, a_links_n, .inl a_links_1f)), (a_states, .inl (cs 0, a_states_n, .inl a_states_4f)), (a_pairs, .inr (1, [.ref a_pairs_items, .int a_pairs_size])), (a_joined_items, .inl (cs 0, a_joined_items_n, .inl a_joined_items_f)), (a_path, .inr (1, [.ref a_path_items, .int a_path_size])), (a_joined, .inr (1, [.ref a_joined_items, .int a_joined_size])), (a_seen, .inr (1, [.ref a_seen_items, .int a_seen_size])), (a_seen_items, .inl (cs 0, a_seen_items_n, .inl a_seen_items_f))] := ⟨hP, hD⟩
              refine lv_iconst (v := 0) hx hb d_Unifier_clear_58 (by decide) ?_
              obtain ⟨hi12, hok⟩ := ck_some hok
              refine va_iast hx hb hK hP hD hS 2 0 rfl rfl (ixb_in hi12) d_Unifier_clear_59 (fun H locs hP hD hS => ?_)
              obtain ⟨hP, hD⟩ : PD g A H [(a, .inr (8, [.ref a_terms, .ref a_links, .ref a_states, .ref a_pairs, .ref a_joined, .ref a_seen, .ref a_path])), (a_links, .inl (cs 0, a_links_n, .inl a_links_1f)), (a_states, .inl (cs 0, a_states_n, .inl (upd a_states_4f r11.toNatClampNeg 0))), (a_pairs, .inr (1, [.ref a_pairs_items, .int a_pairs_size])), (a_joined_items, .inl (cs 0, a_joined_items_n, .inl a_joined_items_f)), (a_path, .inr (1, [.ref a_path_items, .int a_path_size])), (a_joined, .inr (1, [.ref a_joined_items, .int a_joined_size])), (a_seen, .inr (1, [.ref a_seen_items, .int a_seen_size])), (a_seen_items, .inl (cs 0, a_seen_items_n, .inl a_seen_items_f))] := ⟨hP, hD⟩
              refine lv_iinc (k := 0) (v := x1_4 + 1) hx hb d_Unifier_clear_60 hl rfl rfl (by decide) rfl (fun ls hl => ?_)
              have hl : lv_has ls 2 [(1, .int (x1_4 + 1)), (0, .ref a)] := hl
              refine lv_goto hx hb d_Unifier_clear_63 rfl ?_
              exact ih4 _ _ _ (x1_4 + 1) (upd a_states_4f r11.toNatClampNeg 0) (lv_sub hl [0, 1] rfl) (sub3 hP hD [0, 1, 2, 3, 4, 7, 8, 5, 6] (by decide)) hS hok
        exact J4 n H locs ls (0 : Int32) a_states_f hl ⟨hP, hD⟩ hS hok
      · rw [if_neg h3] at hok
        refine lv_aload_n hx hb d_Unifier_clear_13 rfl (lv_at hl 1 rfl) ?_
        refine va_get (D := g) (ci := 8) (v := .ref a_links) (C := R_Unifier) (T := F_Unifier) (N := 7) hx hb hg ul_Unifier hown hK hP 0 rfl rfl 1 (by decide) (hg _ wd_319) (fun _ h9 => h9) rfl d_Unifier_clear_14 ?_
        refine lv_aload_n hx hb d_Unifier_clear_17 rfl (lv_at hl 1 rfl) ?_
        refine va_get (D := g) (ci := 8) (v := .ref a_joined) (C := R_Unifier) (T := F_Unifier) (N := 7) hx hb hg ul_Unifier hown hK hP 0 rfl rfl 4 (by decide) (hg _ wd_324) (fun _ h9 => h9) rfl d_Unifier_clear_18 ?_
        refine lv_iload_n hx hb d_Unifier_clear_21 rfl (lv_at hl 0 rfl) ?_
        obtain ⟨r13, hc13, hok⟩ := bd_some hok
        obtain ⟨hPc, hDc, hFc⟩ := cut0 (wc := [(a_joined, .inr (1, [.ref a_joined_items, .int a_joined_size])), (a_joined_items, .inl (cs 0, a_joined_items_n, .inl a_joined_items_f))]) hP hD hS hA [8, 4] (by decide) rfl
        refine va_calli (va_runV (As := [.int x1_1]) (rest := [.ref a_links]) ⟨hx, hb, hml, hown, hg⟩ (c_Ints_at l g cs ka a_joined a_joined_items H.size x1_1 a_joined_size a_joined_items_n a_joined_items_f r13 hc13) (cwV (C := R_Ints) 1 hg (gw_V wd_334 wd_270 wd_271 wd_234 wd_268) rfl rfl rfl (by decide +kernel) ⟨Nat.le_of_ble_eq_true rfl, Nat.le_of_ble_eq_true rfl⟩) ⟨gP_blind, va_recv (q0 := 8) (ci := 1) (q := (R_Ints, F_Ints, 2)) hK hP rfl rfl, gP_pre hPc hDc hK hgl hkn hkr hS hFc⟩ rfl rfl hl.1 rfl (lv_room (Nat.le_of_ble_eq_true rfl)) d_Unifier_clear_22 ⟨Nat.le_of_ble_eq_true rfl, Nat.le_of_ble_eq_true rfl⟩) hS (fun q _ h => hFc q h) hFc (fun r13' u t H locs ht hvm hr13 hB hz1 hk1 hS => ?_)
        subst hr13
        rw [ht] at hB
        obtain ⟨hP1, hD1⟩ := hB
        obtain ⟨hP, hD⟩ := jn_A hP hD [8, 4] [0, 1, 2, 3, 5, 6, 7] rfl rfl (by decide) (by decide) hk1 hFc hP1 hD1
        obtain ⟨hP, hD⟩ : PD g A H [(a, .inr (8, [.ref a_terms, .ref a_links, .ref a_states, .ref a_pairs, .ref a_joined, .ref a_seen, .ref a_path])), (a_links, .inl (cs 0, a_links_n, .inl a_links_1f)), (a_states, .inl (cs 0, a_states_n, .inl a_states_f)), (a_pairs, .inr (1, [.ref a_pairs_items, .int a_pairs_size])), (a_seen, .inr (1, [.ref a_seen_items, .int a_seen_size])), (a_seen_items, .inl (cs 0, a_seen_items_n, .inl a_seen_items_f)), (a_path, .inr (1, [.ref a_path_items, .int a_path_size])), (a_joined, .inr (1, [.ref a_joined_items, .int a_joined_size])), (a_joined_items, .inl (cs 0, a_joined_items_n, .inl a_joined_items_f))] := ⟨hP, hD⟩
        refine lv_iconst (v := 0) hx hb d_Unifier_clear_25 (by decide) ?_
        obtain ⟨hi14, hok⟩ := ck_some hok
        refine va_iast hx hb hK hP hD hS 1 0 rfl rfl (ixb_in hi14) d_Unifier_clear_26 (fun H locs hP hD hS => ?_)
        obtain ⟨hP, hD⟩ : PD g A H [(a, .inr (8, [.ref a_terms, .ref a_links, .ref a_states, .ref a_pairs, .ref a_joined, .ref a_seen, .ref a_path])), (a_links, .inl (cs 0, a_links_n, .inl (upd a_links_1f r13.toNatClampNeg 0))), (a_states, .inl (cs 0, a_states_n, .inl a_states_f)), (a_pairs, .inr (1, [.ref a_pairs_items, .int a_pairs_size])), (a_seen, .inr (1, [.ref a_seen_items, .int a_seen_size])), (a_seen_items, .inl (cs 0, a_seen_items_n, .inl a_seen_items_f)), (a_path, .inr (1, [.ref a_path_items, .int a_path_size])), (a_joined, .inr (1, [.ref a_joined_items, .int a_joined_size])), (a_joined_items, .inl (cs 0, a_joined_items_n, .inl a_joined_items_f))] := ⟨hP, hD⟩
        refine lv_iinc (k := 0) (v := x1_1 + 1) hx hb d_Unifier_clear_27 hl rfl rfl (by decide) rfl (fun ls hl => ?_)
        have hl : lv_has ls 2 [(1, .int (x1_1 + 1)), (0, .ref a)] := hl
        refine lv_goto hx hb d_Unifier_clear_30 rfl ?_
        exact ih1 _ _ _ (x1_1 + 1) (upd a_links_1f r13.toNatClampNeg 0) (lv_sub hl [0, 1] rfl) (sub3 hP hD [0, 1, 2, 3, 7, 8, 4, 5, 6] (by decide)) hS hok
  exact J1 n H locs ls (0 : Int32) a_links_f hl ⟨hP, hD⟩ hS hok

theorem d_Unifier_link_0 : decode b_Unifier_link 0 = .ok (.aload_n 0, 1) := by decide +kernel
theorem d_Unifier_link_1 : decode b_Unifier_link 1 = .ok (.getfield 9, 3) := by decide +kernel
theorem d_Unifier_link_4 : decode b_Unifier_link 4 = .ok (.iload_n 1, 1) := by decide +kernel
theorem d_Unifier_link_5 : decode b_Unifier_link 5 = .ok (.iload_n 2, 1) := by decide +kernel
theorem d_Unifier_link_6 : decode b_Unifier_link 6 = .ok (.iconst 1, 1) := by decide +kernel
theorem d_Unifier_link_7 : decode b_Unifier_link 7 = .ok (.iadd, 1) := by decide +kernel
theorem d_Unifier_link_8 : decode b_Unifier_link 8 = .ok (.iastore, 1) := by decide +kernel
theorem d_Unifier_link_9 : decode b_Unifier_link 9 = .ok (.aload_n 0, 1) := by decide +kernel
theorem d_Unifier_link_10 : decode b_Unifier_link 10 = .ok (.getfield 25, 3) := by decide +kernel
theorem d_Unifier_link_13 : decode b_Unifier_link 13 = .ok (.iload_n 1, 1) := by decide +kernel
theorem d_Unifier_link_14 : decode b_Unifier_link 14 = .ok (.invokevirtual 72, 3) := by decide +kernel
theorem d_Unifier_link_17 : decode b_Unifier_link 17 = .ok (.return_, 1) := by decide +kernel
def p_Unifier_link (node : Int32) (to_ : Int32) (a_links_n : Nat) (a_links_f : Nat → Int32) (a_joined_size : Int32) (a_joined_items_n : Nat) (a_joined_items_f : Nat → Int32) : Option (((Nat → Int32) × Int32 × Nat × (Nat → Int32)) × Nat × Nat) := ck (ixb node a_links_n) ((p_Ints_push node a_joined_size a_joined_items_n a_joined_items_f).bind (fun ((a_size_2, a_items_n_2, a_items_f_2), mk2, sk2) => al mk2 sk2 (some ((upd a_links_f node.toNatClampNeg (to_ + 1), a_size_2, a_items_n_2, a_items_f_2), 0, 0))))
set_option maxHeartbeats 4000000 in
set_option maxRecDepth 100000 in
theorem c_Unifier_link (l : Launch) (g : va_G) (cs : Nat → ClassId) (ka : Nat → Nat) (a_terms : Nat) (a_states : Nat) (a_pairs : Nat) (a_seen : Nat) (a_path : Nat) (a a_links a_joined a_joined_items : Nat) (sz : Nat) (node : Int32) (to_ : Int32) (a_links_n : Nat) (a_links_f : Nat → Int32) (a_joined_size : Int32) (a_joined_items_n : Nat) (a_joined_items_f : Nat → Int32) (o_a_links_f : Nat → Int32) (o_a_joined_size : Int32) (o_a_joined_items_n : Nat) (o_a_joined_items_f : Nat → Int32) (mc ms : Nat) (hok : p_Unifier_link node to_ a_links_n a_links_f a_joined_size a_joined_items_n a_joined_items_f = some ((o_a_links_f, o_a_joined_size, o_a_joined_items_n, o_a_joined_items_f), mc, ms)) : Met l y_Unifier_link (.code y_Unifier_link b_Unifier_link 3 none :: GW) { frames := 3, cells := mc, slots := ms, locals := 143 } (va_Pc [.ref a, .int node, .int to_] (gP g cs ka [(a, .inr (8, [.ref a_terms, .ref a_links, .ref a_states, .ref a_pairs, .ref a_joined, .ref a_seen, .ref a_path])), (a_links, .inl (cs 0, a_links_n, .inl a_links_f)), (a_joined, .inr (1, [.ref a_joined_items, .int a_joined_size])), (a_joined_items, .inl (cs 0, a_joined_items_n, .inl a_joined_items_f))] sz)) (va_Qv (fun _ : Unit => True) (fun _ t => ∃ b_a_joined_items : Nat, va_P g classes [(a, .inr (8, [.ref a_terms, .ref a_links, .ref a_states, .ref a_pairs, .ref a_joined, .ref a_seen, .ref a_path])), (a_links, .inl (cs 0, a_links_n, .inl o_a_links_f)), (a_joined, .inr (1, [.ref b_a_joined_items, .int o_a_joined_size])), (b_a_joined_items, .inl (cs 0, o_a_joined_items_n, .inl o_a_joined_items_f))] t.heap ∧ va_D (va_A [(a, .inr (8, [.ref a_terms, .ref a_links, .ref a_states, .ref a_pairs, .ref a_joined, .ref a_seen, .ref a_path])), (a_links, .inl (cs 0, a_links_n, .inl a_links_f)), (a_joined, .inr (1, [.ref a_joined_items, .int a_joined_size])), (a_joined_items, .inl (cs 0, a_joined_items_n, .inl a_joined_items_f))] sz) [(a, .inr (8, [.ref a_terms, .ref a_links, .ref a_states, .ref a_pairs, .ref a_joined, .ref a_seen, .ref a_path])), (a_links, .inl (cs 0, a_links_n, .inl o_a_links_f)), (a_joined, .inr (1, [.ref b_a_joined_items, .int o_a_joined_size])), (b_a_joined_items, .inl (cs 0, o_a_joined_items_n, .inl o_a_joined_items_f))]) (va_A [(a, .inr (8, [.ref a_terms, .ref a_links, .ref a_states, .ref a_pairs, .ref a_joined, .ref a_seen, .ref a_path])), (a_links, .inl (cs 0, a_links_n, .inl a_links_f)), (a_joined, .inr (1, [.ref a_joined_items, .int a_joined_size])), (a_joined_items, .inl (cs 0, a_joined_items_n, .inl a_joined_items_f))] sz)) mc ms (va_A [(a, .inr (8, [.ref a_terms, .ref a_links, .ref a_states, .ref a_pairs, .ref a_joined, .ref a_seen, .ref a_path])), (a_links, .inl (cs 0, a_links_n, .inl a_links_f)), (a_joined, .inr (1, [.ref a_joined_items, .int a_joined_size])), (a_joined_items, .inl (cs 0, a_joined_items_n, .inl a_joined_items_f))] sz) := by
  refine Met.ofW (cc := b_Unifier_link) (maxL := 3) (ret := none) (by decide) rfl ?_
  intro p e s m args below meth c s₁ B hml hv
  obtain ⟨rfl, hsz, hP, hK, hD0, hgl, hkn, hkr⟩ := hv
  have hx := B.exec
  have hb := B.bytes
  have hr := B.returns
  have hg : ∀ w ∈ GW, w.before ([.ref a, .int node, .int to_] : List Value).toArray s = true := fun w hw => atoms_spec (ws := .code y_Unifier_link b_Unifier_link 3 none :: GW) B.pre w (List.mem_cons_of_mem _ hw)
  have hown : s.vm.findClass R_Unifier = some m.cls := findClass_of_methodNamed B.named
  have hlocks := B.notSynchronized
  subst hsz
  have hD := hD0.self (sz := s.heap.size)
  generalize hAe : va_A [(a, .inr (8, [.ref a_terms, .ref a_links, .ref a_states, .ref a_pairs, .ref a_joined, .ref a_seen, .ref a_path])), (a_links, .inl (cs 0, a_links_n, .inl a_links_f)), (a_joined, .inr (1, [.ref a_joined_items, .int a_joined_size])), (a_joined_items, .inl (cs 0, a_joined_items_n, .inl a_joined_items_f))] s.heap.size = A at hD hkn ⊢
  have hA : ∀ q : Nat, s.heap.size ≤ q → A q := fun q h => by rw [← hAe]; exact Or.inr h
  have hS : va_S A s.heap s.heap [] := va_S.rf
  have hP : va_P g classes [(a, .inr (8, [.ref a_terms, .ref a_links, .ref a_states, .ref a_pairs, .ref a_joined, .ref a_seen, .ref a_path])), (a_links, .inl (cs 0, a_links_n, .inl a_links_f)), (a_joined, .inr (1, [.ref a_joined_items, .int a_joined_size])), (a_joined_items, .inl (cs 0, a_joined_items_n, .inl a_joined_items_f))] s.heap := hP
  have hl := lv_entry ([.ref a, .int node, .int to_]) (n := 3) (Nat.le_of_ble_eq_true rfl)
  rw [lg_entry_eq]
  generalize (lg_sl ([.ref a, .int node, .int to_]) ++ List.replicate (3 - (lg_sl ([.ref a, .int node, .int to_])).length) Slot.unset).toArray = ls at hl ⊢
  have hl : lv_has ls 3 [(0, .ref a), (1, .int node), (2, .int to_)] := hl
  refine gq (fun Q hQ => ?_)
  obtain ⟨H, hH⟩ : ∃ H : Heap, H = s.heap := ⟨_, rfl⟩
  rw [← hH] at hP
  have hS : va_S A s.heap H [] := by rw [hH]; exact hS
  refine W.eqH hH ?_
  obtain ⟨locs, hlc⟩ : ∃ L : List Loc, L = [] := ⟨_, rfl⟩
  rw [← hlc] at hS ⊢
  unfold p_Unifier_link at hok
  refine lv_aload_n hx hb d_Unifier_link_0 rfl (lv_at hl 0 rfl) ?_
  refine va_get (D := g) (ci := 8) (v := .ref a_links) (C := R_Unifier) (T := F_Unifier) (N := 7) hx hb hg ul_Unifier hown hK hP 0 rfl rfl 1 (by decide) (hg _ wd_319) (fun _ h9 => h9) rfl d_Unifier_link_1 ?_
  refine lv_iload_n hx hb d_Unifier_link_4 rfl (lv_at hl 1 rfl) ?_
  refine lv_iload_n hx hb d_Unifier_link_5 rfl (lv_at hl 2 rfl) ?_
  refine lv_iconst (v := 1) hx hb d_Unifier_link_6 (by decide) ?_
  refine lv_iadd hx hb d_Unifier_link_7 ?_
  obtain ⟨hi1, hok⟩ := ck_some hok
  refine va_iast hx hb hK hP hD hS 1 0 rfl rfl (ixb_in hi1) d_Unifier_link_8 (fun H locs hP hD hS => ?_)
  obtain ⟨hP, hD⟩ : PD g A H [(a, .inr (8, [.ref a_terms, .ref a_links, .ref a_states, .ref a_pairs, .ref a_joined, .ref a_seen, .ref a_path])), (a_links, .inl (cs 0, a_links_n, .inl (upd a_links_f node.toNatClampNeg (to_ + 1)))), (a_joined, .inr (1, [.ref a_joined_items, .int a_joined_size])), (a_joined_items, .inl (cs 0, a_joined_items_n, .inl a_joined_items_f))] := ⟨hP, hD⟩
  refine lv_aload_n hx hb d_Unifier_link_9 rfl (lv_at hl 0 rfl) ?_
  refine va_get (D := g) (ci := 8) (v := .ref a_joined) (C := R_Unifier) (T := F_Unifier) (N := 7) hx hb hg ul_Unifier hown hK hP 0 rfl rfl 4 (by decide) (hg _ wd_324) (fun _ h9 => h9) rfl d_Unifier_link_10 ?_
  refine lv_iload_n hx hb d_Unifier_link_13 rfl (lv_at hl 1 rfl) ?_
  obtain ⟨⟨⟨a_size_2, a_items_n_2, a_items_f_2⟩, mk2, sk2⟩, hc2, hok⟩ := bd_some hok
  dsimp only at hok
  obtain ⟨m2, s2, hok, hmc2, hms2⟩ := al_some hok
  obtain ⟨hPc, hDc, hFc⟩ := cut0 (wc := [(a_joined, .inr (1, [.ref a_joined_items, .int a_joined_size])), (a_joined_items, .inl (cs 0, a_joined_items_n, .inl a_joined_items_f))]) hP hD hS hA [2, 3] (by decide) rfl
  refine va_callv (va_runV (As := [.int node]) (rest := []) ⟨hx, hb, hml, hown, hg⟩ (c_Ints_push l g cs ka a_joined a_joined_items H.size node a_joined_size a_joined_items_n a_joined_items_f a_size_2 a_items_n_2 a_items_f_2 mk2 sk2 hc2) (cwV (C := R_Ints) 1 hg (gw_V wd_335 wd_274 wd_275 wd_234 wd_272) rfl rfl rfl (by decide +kernel) ⟨Nat.le_of_ble_eq_true rfl, Nat.le_of_ble_eq_true rfl⟩) ⟨gP_blind, va_recv (q0 := 2) (ci := 1) (q := (R_Ints, F_Ints, 2)) hK hP rfl rfl, gP_pre hPc hDc hK hgl hkn hkr hS hFc⟩ rfl rfl hl.1 rfl (lv_room (Nat.le_of_ble_eq_true rfl)) d_Unifier_link_14 ⟨show 0 + mk2 ≤ mc from by omega, show 0 + sk2 ≤ ms from by omega⟩) hS (fun q _ h => hFc q h) hFc (fun u t H locs ht hvm hr2 hB hz1 hk1 hS => ?_)
  rw [ht] at hB
  obtain ⟨a_items_2, hP1, hD1⟩ := hB
  obtain ⟨hP, hD⟩ := jn_A hP hD [2, 3] [0, 1] rfl rfl (by decide) (by decide) hk1 hFc hP1 hD1
  obtain ⟨hP, hD⟩ : PD g A H [(a, .inr (8, [.ref a_terms, .ref a_links, .ref a_states, .ref a_pairs, .ref a_joined, .ref a_seen, .ref a_path])), (a_links, .inl (cs 0, a_links_n, .inl (upd a_links_f node.toNatClampNeg (to_ + 1)))), (a_joined, .inr (1, [.ref a_items_2, .int a_size_2])), (a_items_2, .inl (cs 0, a_items_n_2, .inl a_items_f_2))] := ⟨hP, hD⟩
  obtain ⟨hq, hw⟩ := Prod.mk.inj (Option.some.inj hok)
  obtain ⟨hmc0, hms0⟩ := Prod.mk.inj hw
  obtain ⟨hq0, hq⟩ := Prod.mk.inj hq
  obtain ⟨hq1, hq⟩ := Prod.mk.inj hq
  obtain ⟨hq2, hq⟩ := Prod.mk.inj hq
  have hq3 := hq
  subst hq0
  subst hq1
  subst hq2
  subst hq3
  obtain ⟨hP9, hD9⟩ := sub2 (ws' := [(a, .inr (8, [.ref a_terms, .ref a_links, .ref a_states, .ref a_pairs, .ref a_joined, .ref a_seen, .ref a_path])), (a_links, .inl (cs 0, a_links_n, .inl (upd a_links_f node.toNatClampNeg (to_ + 1)))), (a_joined, .inr (1, [.ref a_items_2, .int a_size_2])), (a_items_2, .inl (cs 0, a_items_n_2, .inl a_items_f_2))]) hP hD [0, 1, 2, 3] rfl (by decide) rfl
  refine W.widen (k := mc) (n := ms) (by omega) (by omega) ?_
  rw [hQ]
  exact W.vret hx hb hr (fun t ht hW => ⟨⟨(), rfl, trivial, a_items_2, by rw [ht]; exact hP9, hD9⟩, hS.F ht⟩) hS.2.2 d_Unifier_link_17

theorem d_Unifier_rootOf_0 : decode b_Unifier_rootOf 0 = .ok (.aload_n 0, 1) := by decide +kernel
theorem d_Unifier_rootOf_1 : decode b_Unifier_rootOf 1 = .ok (.getfield 34, 3) := by decide +kernel
theorem d_Unifier_rootOf_4 : decode b_Unifier_rootOf 4 = .ok (.iload_n 1, 1) := by decide +kernel
theorem d_Unifier_rootOf_5 : decode b_Unifier_rootOf 5 = .ok (.invokevirtual 103, 3) := by decide +kernel
theorem d_Unifier_rootOf_8 : decode b_Unifier_rootOf 8 = .ok (.istore_n 2, 1) := by decide +kernel
theorem d_Unifier_rootOf_9 : decode b_Unifier_rootOf 9 = .ok (.iconst 0, 1) := by decide +kernel
theorem d_Unifier_rootOf_10 : decode b_Unifier_rootOf 10 = .ok (.istore_n 3, 1) := by decide +kernel
theorem d_Unifier_rootOf_11 : decode b_Unifier_rootOf 11 = .ok (.iload_n 3, 1) := by decide +kernel
theorem d_Unifier_rootOf_12 : decode b_Unifier_rootOf 12 = .ok (.ldc 75, 2) := by decide +kernel
theorem d_Unifier_rootOf_14 : decode b_Unifier_rootOf 14 = .ok (.if_icmp .ge 54, 3) := by decide +kernel
theorem d_Unifier_rootOf_17 : decode b_Unifier_rootOf 17 = .ok (.aload_n 0, 1) := by decide +kernel
theorem d_Unifier_rootOf_18 : decode b_Unifier_rootOf 18 = .ok (.getfield 9, 3) := by decide +kernel
theorem d_Unifier_rootOf_21 : decode b_Unifier_rootOf 21 = .ok (.iload_n 2, 1) := by decide +kernel
theorem d_Unifier_rootOf_22 : decode b_Unifier_rootOf 22 = .ok (.iaload, 1) := by decide +kernel
theorem d_Unifier_rootOf_23 : decode b_Unifier_rootOf 23 = .ok (.ifCond .eq 45, 3) := by decide +kernel
theorem d_Unifier_rootOf_26 : decode b_Unifier_rootOf 26 = .ok (.aload_n 0, 1) := by decide +kernel
theorem d_Unifier_rootOf_27 : decode b_Unifier_rootOf 27 = .ok (.getfield 9, 3) := by decide +kernel
theorem d_Unifier_rootOf_30 : decode b_Unifier_rootOf 30 = .ok (.iload_n 2, 1) := by decide +kernel
theorem d_Unifier_rootOf_31 : decode b_Unifier_rootOf 31 = .ok (.iaload, 1) := by decide +kernel
theorem d_Unifier_rootOf_32 : decode b_Unifier_rootOf 32 = .ok (.iconst 1, 1) := by decide +kernel
theorem d_Unifier_rootOf_33 : decode b_Unifier_rootOf 33 = .ok (.isub, 1) := by decide +kernel
theorem d_Unifier_rootOf_34 : decode b_Unifier_rootOf 34 = .ok (.istore 4, 2) := by decide +kernel
theorem d_Unifier_rootOf_36 : decode b_Unifier_rootOf 36 = .ok (.aload_n 0, 1) := by decide +kernel
theorem d_Unifier_rootOf_37 : decode b_Unifier_rootOf 37 = .ok (.getfield 9, 3) := by decide +kernel
theorem d_Unifier_rootOf_40 : decode b_Unifier_rootOf 40 = .ok (.iload 4, 2) := by decide +kernel
theorem d_Unifier_rootOf_42 : decode b_Unifier_rootOf 42 = .ok (.iaload, 1) := by decide +kernel
theorem d_Unifier_rootOf_43 : decode b_Unifier_rootOf 43 = .ok (.ifCond .eq 16, 3) := by decide +kernel
theorem d_Unifier_rootOf_46 : decode b_Unifier_rootOf 46 = .ok (.aload_n 0, 1) := by decide +kernel
theorem d_Unifier_rootOf_47 : decode b_Unifier_rootOf 47 = .ok (.getfield 9, 3) := by decide +kernel
theorem d_Unifier_rootOf_50 : decode b_Unifier_rootOf 50 = .ok (.iload_n 2, 1) := by decide +kernel
theorem d_Unifier_rootOf_51 : decode b_Unifier_rootOf 51 = .ok (.aload_n 0, 1) := by decide +kernel
theorem d_Unifier_rootOf_52 : decode b_Unifier_rootOf 52 = .ok (.getfield 9, 3) := by decide +kernel
theorem d_Unifier_rootOf_55 : decode b_Unifier_rootOf 55 = .ok (.iload 4, 2) := by decide +kernel
theorem d_Unifier_rootOf_57 : decode b_Unifier_rootOf 57 = .ok (.iaload, 1) := by decide +kernel
theorem d_Unifier_rootOf_58 : decode b_Unifier_rootOf 58 = .ok (.iastore, 1) := by decide +kernel
theorem d_Unifier_rootOf_59 : decode b_Unifier_rootOf 59 = .ok (.iload 4, 2) := by decide +kernel
theorem d_Unifier_rootOf_61 : decode b_Unifier_rootOf 61 = .ok (.istore_n 2, 1) := by decide +kernel
theorem d_Unifier_rootOf_62 : decode b_Unifier_rootOf 62 = .ok (.iinc 3 1, 3) := by decide +kernel
theorem d_Unifier_rootOf_65 : decode b_Unifier_rootOf 65 = .ok (.goto (-54), 3) := by decide +kernel
theorem d_Unifier_rootOf_68 : decode b_Unifier_rootOf 68 = .ok (.iload_n 2, 1) := by decide +kernel
theorem d_Unifier_rootOf_69 : decode b_Unifier_rootOf 69 = .ok (.ireturn, 1) := by decide +kernel
def p_Unifier_rootOf_11 (n : Nat) (a_links_n : Nat) (kf2 : Nat) (x3_2 : Int32) (x2_2 : Int32) (a_links_2f : Nat → Int32) : Option (Int32 × (Nat → Int32)) := match kf2 with
  | 0 => none
  | kf2 + 1 => if 1000000 ≤ x3_2 then (some (x2_2, a_links_2f)) else (ck (ixb x2_2 a_links_n) (if (a_links_2f x2_2.toNatClampNeg) = 0 then (some (x2_2, a_links_2f)) else (ck (ixb x2_2 a_links_n) (ck (ixb ((a_links_2f x2_2.toNatClampNeg) - 1) a_links_n) (if (a_links_2f ((a_links_2f x2_2.toNatClampNeg) - 1).toNatClampNeg) = 0 then (p_Unifier_rootOf_11 n a_links_n kf2 (x3_2 + 1) ((a_links_2f x2_2.toNatClampNeg) - 1) a_links_2f) else (ck (ixb ((a_links_2f x2_2.toNatClampNeg) - 1) a_links_n) (ck (ixb x2_2 a_links_n) (p_Unifier_rootOf_11 n a_links_n kf2 (x3_2 + 1) ((a_links_2f x2_2.toNatClampNeg) - 1) (upd a_links_2f x2_2.toNatClampNeg (a_links_2f ((a_links_2f x2_2.toNatClampNeg) - 1).toNatClampNeg))))))))))
def p_Unifier_rootOf (n : Nat) (node : Int32) (a_terms_nodes : Int32) (a_terms_variables : Int32) (a_terms_variablesLack : Int32) (a_terms_symbols : Int32) (a_terms_nodesBefore : Int32) (a_terms_partsBefore : Int32) (a_terms_variablesBefore : Int32) (a_terms_became_n : Nat) (a_terms_became_f : Nat → Int32) (a_links_n : Nat) (a_links_f : Nat → Int32) : Option (Int32 × (Nat → Int32)) := (p_Terms_meant n node a_terms_nodes a_terms_variables a_terms_variablesLack a_terms_symbols a_terms_nodesBefore a_terms_partsBefore a_terms_variablesBefore a_terms_became_n a_terms_became_f).bind (fun r1 => p_Unifier_rootOf_11 n a_links_n n (0 : Int32) r1 a_links_f)
set_option maxHeartbeats 4000000 in
set_option maxRecDepth 100000 in
theorem c_Unifier_rootOf (l : Launch) (g : va_G) (cs : Nat → ClassId) (ka : Nat → Nat) (a_states : Nat) (a_pairs : Nat) (a_joined : Nat) (a_seen : Nat) (a_path : Nat) (a_terms_shapes : Nat) (a_terms_values : Nat) (a_terms_firstParts : Nat) (a_terms_parts : Nat) (a_terms_variableNames : Nat) (a a_terms a_terms_became a_links : Nat) (sz : Nat) (n : Nat) (node : Int32) (a_terms_nodes : Int32) (a_terms_variables : Int32) (a_terms_variablesLack : Int32) (a_terms_symbols : Int32) (a_terms_nodesBefore : Int32) (a_terms_partsBefore : Int32) (a_terms_variablesBefore : Int32) (a_terms_became_n : Nat) (a_terms_became_f : Nat → Int32) (a_links_n : Nat) (a_links_f : Nat → Int32) (r : Int32) (o_a_links_f : Nat → Int32) (hok : p_Unifier_rootOf n node a_terms_nodes a_terms_variables a_terms_variablesLack a_terms_symbols a_terms_nodesBefore a_terms_partsBefore a_terms_variablesBefore a_terms_became_n a_terms_became_f a_links_n a_links_f = some (r, o_a_links_f)) : Met l y_Unifier_rootOf (.code y_Unifier_rootOf b_Unifier_rootOf 5 (some .int) :: GW) { frames := 1, cells := 0, slots := 0, locals := 23 } (va_Pc [.ref a, .int node] (gP g cs ka [(a, .inr (8, [.ref a_terms, .ref a_links, .ref a_states, .ref a_pairs, .ref a_joined, .ref a_seen, .ref a_path])), (a_terms, .inr (7, [.ref a_terms_shapes, .ref a_terms_values, .ref a_terms_firstParts, .int a_terms_nodes, .ref a_terms_parts, .ref a_terms_variableNames, .ref a_terms_became, .int a_terms_variables, .int a_terms_variablesLack, .int a_terms_symbols, .int a_terms_nodesBefore, .int a_terms_partsBefore, .int a_terms_variablesBefore])), (a_terms_became, .inl (cs 0, a_terms_became_n, .inl a_terms_became_f)), (a_links, .inl (cs 0, a_links_n, .inl a_links_f))] sz)) (va_Qi (fun (r' : Int32) (_ : Unit) => r = r') (fun _ t => va_P g classes [(a, .inr (8, [.ref a_terms, .ref a_links, .ref a_states, .ref a_pairs, .ref a_joined, .ref a_seen, .ref a_path])), (a_terms, .inr (7, [.ref a_terms_shapes, .ref a_terms_values, .ref a_terms_firstParts, .int a_terms_nodes, .ref a_terms_parts, .ref a_terms_variableNames, .ref a_terms_became, .int a_terms_variables, .int a_terms_variablesLack, .int a_terms_symbols, .int a_terms_nodesBefore, .int a_terms_partsBefore, .int a_terms_variablesBefore])), (a_terms_became, .inl (cs 0, a_terms_became_n, .inl a_terms_became_f)), (a_links, .inl (cs 0, a_links_n, .inl o_a_links_f))] t.heap ∧ va_D (va_A [(a, .inr (8, [.ref a_terms, .ref a_links, .ref a_states, .ref a_pairs, .ref a_joined, .ref a_seen, .ref a_path])), (a_terms, .inr (7, [.ref a_terms_shapes, .ref a_terms_values, .ref a_terms_firstParts, .int a_terms_nodes, .ref a_terms_parts, .ref a_terms_variableNames, .ref a_terms_became, .int a_terms_variables, .int a_terms_variablesLack, .int a_terms_symbols, .int a_terms_nodesBefore, .int a_terms_partsBefore, .int a_terms_variablesBefore])), (a_terms_became, .inl (cs 0, a_terms_became_n, .inl a_terms_became_f)), (a_links, .inl (cs 0, a_links_n, .inl a_links_f))] sz) [(a, .inr (8, [.ref a_terms, .ref a_links, .ref a_states, .ref a_pairs, .ref a_joined, .ref a_seen, .ref a_path])), (a_terms, .inr (7, [.ref a_terms_shapes, .ref a_terms_values, .ref a_terms_firstParts, .int a_terms_nodes, .ref a_terms_parts, .ref a_terms_variableNames, .ref a_terms_became, .int a_terms_variables, .int a_terms_variablesLack, .int a_terms_symbols, .int a_terms_nodesBefore, .int a_terms_partsBefore, .int a_terms_variablesBefore])), (a_terms_became, .inl (cs 0, a_terms_became_n, .inl a_terms_became_f)), (a_links, .inl (cs 0, a_links_n, .inl o_a_links_f))]) (va_A [(a, .inr (8, [.ref a_terms, .ref a_links, .ref a_states, .ref a_pairs, .ref a_joined, .ref a_seen, .ref a_path])), (a_terms, .inr (7, [.ref a_terms_shapes, .ref a_terms_values, .ref a_terms_firstParts, .int a_terms_nodes, .ref a_terms_parts, .ref a_terms_variableNames, .ref a_terms_became, .int a_terms_variables, .int a_terms_variablesLack, .int a_terms_symbols, .int a_terms_nodesBefore, .int a_terms_partsBefore, .int a_terms_variablesBefore])), (a_terms_became, .inl (cs 0, a_terms_became_n, .inl a_terms_became_f)), (a_links, .inl (cs 0, a_links_n, .inl a_links_f))] sz)) 0 0 (va_A [(a, .inr (8, [.ref a_terms, .ref a_links, .ref a_states, .ref a_pairs, .ref a_joined, .ref a_seen, .ref a_path])), (a_terms, .inr (7, [.ref a_terms_shapes, .ref a_terms_values, .ref a_terms_firstParts, .int a_terms_nodes, .ref a_terms_parts, .ref a_terms_variableNames, .ref a_terms_became, .int a_terms_variables, .int a_terms_variablesLack, .int a_terms_symbols, .int a_terms_nodesBefore, .int a_terms_partsBefore, .int a_terms_variablesBefore])), (a_terms_became, .inl (cs 0, a_terms_became_n, .inl a_terms_became_f)), (a_links, .inl (cs 0, a_links_n, .inl a_links_f))] sz) := by
  refine Met.ofW (cc := b_Unifier_rootOf) (maxL := 5) (ret := (some .int)) (by decide) rfl ?_
  intro p e s m args below meth c s₁ B hml hv
  obtain ⟨rfl, hsz, hP, hK, hD0, hgl, hkn, hkr⟩ := hv
  have hx := B.exec
  have hb := B.bytes
  have hr := B.returns
  have hg : ∀ w ∈ GW, w.before ([.ref a, .int node] : List Value).toArray s = true := fun w hw => atoms_spec (ws := .code y_Unifier_rootOf b_Unifier_rootOf 5 (some .int) :: GW) B.pre w (List.mem_cons_of_mem _ hw)
  have hown : s.vm.findClass R_Unifier = some m.cls := findClass_of_methodNamed B.named
  have hlocks := B.notSynchronized
  subst hsz
  have hD := hD0.self (sz := s.heap.size)
  generalize hAe : va_A [(a, .inr (8, [.ref a_terms, .ref a_links, .ref a_states, .ref a_pairs, .ref a_joined, .ref a_seen, .ref a_path])), (a_terms, .inr (7, [.ref a_terms_shapes, .ref a_terms_values, .ref a_terms_firstParts, .int a_terms_nodes, .ref a_terms_parts, .ref a_terms_variableNames, .ref a_terms_became, .int a_terms_variables, .int a_terms_variablesLack, .int a_terms_symbols, .int a_terms_nodesBefore, .int a_terms_partsBefore, .int a_terms_variablesBefore])), (a_terms_became, .inl (cs 0, a_terms_became_n, .inl a_terms_became_f)), (a_links, .inl (cs 0, a_links_n, .inl a_links_f))] s.heap.size = A at hD hkn ⊢
  have hA : ∀ q : Nat, s.heap.size ≤ q → A q := fun q h => by rw [← hAe]; exact Or.inr h
  have hS : va_S A s.heap s.heap [] := va_S.rf
  have hP : va_P g classes [(a, .inr (8, [.ref a_terms, .ref a_links, .ref a_states, .ref a_pairs, .ref a_joined, .ref a_seen, .ref a_path])), (a_terms, .inr (7, [.ref a_terms_shapes, .ref a_terms_values, .ref a_terms_firstParts, .int a_terms_nodes, .ref a_terms_parts, .ref a_terms_variableNames, .ref a_terms_became, .int a_terms_variables, .int a_terms_variablesLack, .int a_terms_symbols, .int a_terms_nodesBefore, .int a_terms_partsBefore, .int a_terms_variablesBefore])), (a_terms_became, .inl (cs 0, a_terms_became_n, .inl a_terms_became_f)), (a_links, .inl (cs 0, a_links_n, .inl a_links_f))] s.heap := hP
  have hl := lv_entry ([.ref a, .int node]) (n := 5) (Nat.le_of_ble_eq_true rfl)
  rw [lg_entry_eq]
  generalize (lg_sl ([.ref a, .int node]) ++ List.replicate (5 - (lg_sl ([.ref a, .int node])).length) Slot.unset).toArray = ls at hl ⊢
  have hl : lv_has ls 5 [(0, .ref a), (1, .int node)] := hl
  refine gq (fun Q hQ => ?_)
  obtain ⟨H, hH⟩ : ∃ H : Heap, H = s.heap := ⟨_, rfl⟩
  rw [← hH] at hP
  have hS : va_S A s.heap H [] := by rw [hH]; exact hS
  refine W.eqH hH ?_
  obtain ⟨locs, hlc⟩ : ∃ L : List Loc, L = [] := ⟨_, rfl⟩
  rw [← hlc] at hS ⊢
  unfold p_Unifier_rootOf at hok
  refine lv_aload_n hx hb d_Unifier_rootOf_0 rfl (lv_at hl 0 rfl) ?_
  refine va_get (D := g) (ci := 8) (v := .ref a_terms) (C := R_Unifier) (T := F_Unifier) (N := 7) hx hb hg ul_Unifier hown hK hP 0 rfl rfl 0 (by decide) (hg _ wd_327) (fun _ h9 => h9) rfl d_Unifier_rootOf_1 ?_
  refine lv_iload_n hx hb d_Unifier_rootOf_4 rfl (lv_at hl 1 rfl) ?_
  obtain ⟨r1, hc1, hok⟩ := bd_some hok
  obtain ⟨hPc, hDc, hFc⟩ := cut0 (wc := [(a_terms, .inr (7, [.ref a_terms_shapes, .ref a_terms_values, .ref a_terms_firstParts, .int a_terms_nodes, .ref a_terms_parts, .ref a_terms_variableNames, .ref a_terms_became, .int a_terms_variables, .int a_terms_variablesLack, .int a_terms_symbols, .int a_terms_nodesBefore, .int a_terms_partsBefore, .int a_terms_variablesBefore])), (a_terms_became, .inl (cs 0, a_terms_became_n, .inl a_terms_became_f))]) hP hD hS hA [1, 2] (by decide) rfl
  refine va_calli (va_runV (As := [.int node]) (rest := []) ⟨hx, hb, hml, hown, hg⟩ (c_Terms_meant l g cs ka a_terms_shapes a_terms_values a_terms_firstParts a_terms_parts a_terms_variableNames a_terms a_terms_became H.size n node a_terms_nodes a_terms_variables a_terms_variablesLack a_terms_symbols a_terms_nodesBefore a_terms_partsBefore a_terms_variablesBefore a_terms_became_n a_terms_became_f r1 hc1) (cwV (C := R_Terms) 1 hg (gw_V wd_337 wd_338 wd_339 wd_264 wd_336) rfl rfl rfl (by decide +kernel) ⟨Nat.le_of_ble_eq_true rfl, Nat.le_of_ble_eq_true rfl⟩) ⟨gP_blind, va_recv (q0 := 1) (ci := 7) (q := (R_Terms, F_Terms, 13)) hK hP rfl rfl, gP_pre hPc hDc hK hgl hkn hkr hS hFc⟩ rfl rfl hl.1 rfl (lv_room (Nat.le_of_ble_eq_true rfl)) d_Unifier_rootOf_5 ⟨Nat.le_of_ble_eq_true rfl, Nat.le_of_ble_eq_true rfl⟩) hS (fun q _ h => hFc q h) hFc (fun r1' u t H locs ht hvm hr1 hB hz1 hk1 hS => ?_)
  subst hr1
  rw [ht] at hB
  obtain ⟨hP1, hD1⟩ := hB
  obtain ⟨hP, hD⟩ := jn_A hP hD [1, 2] [0, 3] rfl rfl (by decide) (by decide) hk1 hFc hP1 hD1
  obtain ⟨hP, hD⟩ : PD g A H [(a, .inr (8, [.ref a_terms, .ref a_links, .ref a_states, .ref a_pairs, .ref a_joined, .ref a_seen, .ref a_path])), (a_links, .inl (cs 0, a_links_n, .inl a_links_f)), (a_terms, .inr (7, [.ref a_terms_shapes, .ref a_terms_values, .ref a_terms_firstParts, .int a_terms_nodes, .ref a_terms_parts, .ref a_terms_variableNames, .ref a_terms_became, .int a_terms_variables, .int a_terms_variablesLack, .int a_terms_symbols, .int a_terms_nodesBefore, .int a_terms_partsBefore, .int a_terms_variablesBefore])), (a_terms_became, .inl (cs 0, a_terms_became_n, .inl a_terms_became_f))] := ⟨hP, hD⟩
  refine lv_istore_n hx hb d_Unifier_rootOf_8 rfl hl (by decide) rfl (fun ls hl => ?_)
  have hl : lv_has ls 5 [(2, .int r1), (0, .ref a), (1, .int node)] := hl
  refine lv_iconst (v := 0) hx hb d_Unifier_rootOf_9 (by decide) ?_
  refine lv_istore_n hx hb d_Unifier_rootOf_10 rfl hl (by decide) rfl (fun ls hl => ?_)
  have hl : lv_has ls 5 [(3, .int 0), (2, .int r1), (0, .ref a), (1, .int node)] := hl
  have J2 : ∀ (kf2 : Nat) (H : Heap) (locs : List Loc) (ls : Array Slot) (x3_2 : Int32) (x2_2 : Int32) (a_links_2f : Nat → Int32), lv_has ls 5 [(3, .int x3_2), (2, .int x2_2), (0, .ref a), (1, .int node)] → PD g A H [(a, .inr (8, [.ref a_terms, .ref a_links, .ref a_states, .ref a_pairs, .ref a_joined, .ref a_seen, .ref a_path])), (a_links, .inl (cs 0, a_links_n, .inl a_links_2f)), (a_terms, .inr (7, [.ref a_terms_shapes, .ref a_terms_values, .ref a_terms_firstParts, .int a_terms_nodes, .ref a_terms_parts, .ref a_terms_variableNames, .ref a_terms_became, .int a_terms_variables, .int a_terms_variablesLack, .int a_terms_symbols, .int a_terms_nodesBefore, .int a_terms_partsBefore, .int a_terms_variablesBefore])), (a_terms_became, .inl (cs 0, a_terms_became_n, .inl a_terms_became_f))] → va_S A s.heap H locs → p_Unifier_rootOf_11 n a_links_n kf2 x3_2 x2_2 a_links_2f = some (r, o_a_links_f) → W p l e (headSpec (.code y_Unifier_rootOf b_Unifier_rootOf 5 (some .int) :: GW) { frames := 1, cells := 0, slots := 0, locals := 23 }).room s m ([.ref a, .int node] : List Value).toArray below meth c H locs 0 0 Q (F0 m 11 ls []) := by
    intro kf2
    induction kf2 with
    | zero => intro H locs ls x3_2 x2_2 a_links_2f hl ⟨hP, hD⟩ hS hok; rw [p_Unifier_rootOf_11] at hok; cases hok
    | succ kf2 ih2 =>
      intro H locs ls x3_2 x2_2 a_links_2f hl ⟨hP, hD⟩ hS hok
      rw [p_Unifier_rootOf_11] at hok
      refine lv_iload_n hx hb d_Unifier_rootOf_11 rfl (lv_at hl 0 rfl) ?_
      refine lv_ldc hx hb hown (hg _ wd_340) d_Unifier_rootOf_12 ?_
      refine lv_icmp_ge hx hb d_Unifier_rootOf_14 rfl (fun h3 => ?_) (fun h3 => ?_)
      · rw [if_pos h3] at hok
        refine lv_iload_n hx hb d_Unifier_rootOf_68 rfl (lv_at hl 1 rfl) ?_
        have hq := Option.some.inj hok
        obtain ⟨hq0, hq⟩ := Prod.mk.inj hq
        have hq1 := hq
        subst hq0
        subst hq1
        obtain ⟨hP9, hD9⟩ := sub2 (ws' := [(a, .inr (8, [.ref a_terms, .ref a_links, .ref a_states, .ref a_pairs, .ref a_joined, .ref a_seen, .ref a_path])), (a_terms, .inr (7, [.ref a_terms_shapes, .ref a_terms_values, .ref a_terms_firstParts, .int a_terms_nodes, .ref a_terms_parts, .ref a_terms_variableNames, .ref a_terms_became, .int a_terms_variables, .int a_terms_variablesLack, .int a_terms_symbols, .int a_terms_nodesBefore, .int a_terms_partsBefore, .int a_terms_variablesBefore])), (a_terms_became, .inl (cs 0, a_terms_became_n, .inl a_terms_became_f)), (a_links, .inl (cs 0, a_links_n, .inl a_links_2f))]) hP hD [0, 2, 3, 1] rfl (by decide) rfl
        rw [hQ]
        exact W.iret (v := x2_2) hx hb hr (fun t ht hW => ⟨⟨_, (), rfl, rfl, by rw [ht]; exact hP9, hD9⟩, hS.F ht⟩) hS.2.2 d_Unifier_rootOf_69
      · rw [if_neg h3] at hok
        refine lv_aload_n hx hb d_Unifier_rootOf_17 rfl (lv_at hl 2 rfl) ?_
        refine va_get (D := g) (ci := 8) (v := .ref a_links) (C := R_Unifier) (T := F_Unifier) (N := 7) hx hb hg ul_Unifier hown hK hP 0 rfl rfl 1 (by decide) (hg _ wd_319) (fun _ h9 => h9) rfl d_Unifier_rootOf_18 ?_
        refine lv_iload_n hx hb d_Unifier_rootOf_21 rfl (lv_at hl 1 rfl) ?_
        obtain ⟨hi4, hok⟩ := ck_some hok
        refine va_iald hx hb hK hP 1 0 rfl rfl (ixb_in hi4) d_Unifier_rootOf_22 ?_
        refine lv_if_eq hx hb d_Unifier_rootOf_23 rfl (fun h5 => ?_) (fun h5 => ?_)
        · rw [if_pos h5] at hok
          refine lv_iload_n hx hb d_Unifier_rootOf_68 rfl (lv_at hl 1 rfl) ?_
          have hq := Option.some.inj hok
          obtain ⟨hq0, hq⟩ := Prod.mk.inj hq
          have hq1 := hq
          subst hq0
          subst hq1
          obtain ⟨hP9, hD9⟩ := sub2 (ws' := [(a, .inr (8, [.ref a_terms, .ref a_links, .ref a_states, .ref a_pairs, .ref a_joined, .ref a_seen, .ref a_path])), (a_terms, .inr (7, [.ref a_terms_shapes, .ref a_terms_values, .ref a_terms_firstParts, .int a_terms_nodes, .ref a_terms_parts, .ref a_terms_variableNames, .ref a_terms_became, .int a_terms_variables, .int a_terms_variablesLack, .int a_terms_symbols, .int a_terms_nodesBefore, .int a_terms_partsBefore, .int a_terms_variablesBefore])), (a_terms_became, .inl (cs 0, a_terms_became_n, .inl a_terms_became_f)), (a_links, .inl (cs 0, a_links_n, .inl a_links_2f))]) hP hD [0, 2, 3, 1] rfl (by decide) rfl
          rw [hQ]
          exact W.iret (v := x2_2) hx hb hr (fun t ht hW => ⟨⟨_, (), rfl, rfl, by rw [ht]; exact hP9, hD9⟩, hS.F ht⟩) hS.2.2 d_Unifier_rootOf_69
        · rw [if_neg h5] at hok
          refine lv_aload_n hx hb d_Unifier_rootOf_26 rfl (lv_at hl 2 rfl) ?_
          refine va_get (D := g) (ci := 8) (v := .ref a_links) (C := R_Unifier) (T := F_Unifier) (N := 7) hx hb hg ul_Unifier hown hK hP 0 rfl rfl 1 (by decide) (hg _ wd_319) (fun _ h9 => h9) rfl d_Unifier_rootOf_27 ?_
          refine lv_iload_n hx hb d_Unifier_rootOf_30 rfl (lv_at hl 1 rfl) ?_
          obtain ⟨hi6, hok⟩ := ck_some hok
          refine va_iald hx hb hK hP 1 0 rfl rfl (ixb_in hi6) d_Unifier_rootOf_31 ?_
          refine lv_iconst (v := 1) hx hb d_Unifier_rootOf_32 (by decide) ?_
          refine lv_isub hx hb d_Unifier_rootOf_33 ?_
          refine lv_istore hx hb d_Unifier_rootOf_34 hl (by decide) rfl (fun ls hl => ?_)
          have hl : lv_has ls 5 [(4, .int ((a_links_2f x2_2.toNatClampNeg) - 1)), (3, .int x3_2), (2, .int x2_2), (0, .ref a), (1, .int node)] := hl
          refine lv_aload_n hx hb d_Unifier_rootOf_36 rfl (lv_at hl 3 rfl) ?_
          refine va_get (D := g) (ci := 8) (v := .ref a_links) (C := R_Unifier) (T := F_Unifier) (N := 7) hx hb hg ul_Unifier hown hK hP 0 rfl rfl 1 (by decide) (hg _ wd_319) (fun _ h9 => h9) rfl d_Unifier_rootOf_37 ?_
          refine lv_iload hx hb d_Unifier_rootOf_40 (lv_at hl 0 rfl) ?_
          obtain ⟨hi7, hok⟩ := ck_some hok
          refine va_iald hx hb hK hP 1 0 rfl rfl (ixb_in hi7) d_Unifier_rootOf_42 ?_
          refine lv_if_eq hx hb d_Unifier_rootOf_43 rfl (fun h8 => ?_) (fun h8 => ?_)
          · rw [if_pos h8] at hok
            refine lv_iload hx hb d_Unifier_rootOf_59 (lv_at hl 0 rfl) ?_
            refine lv_istore_n hx hb d_Unifier_rootOf_61 rfl hl (by decide) rfl (fun ls hl => ?_)
            have hl : lv_has ls 5 [(2, .int ((a_links_2f x2_2.toNatClampNeg) - 1)), (4, .int ((a_links_2f x2_2.toNatClampNeg) - 1)), (3, .int x3_2), (0, .ref a), (1, .int node)] := hl
            refine lv_iinc (k := 2) (v := x3_2 + 1) hx hb d_Unifier_rootOf_62 hl rfl rfl (by decide) rfl (fun ls hl => ?_)
            have hl : lv_has ls 5 [(3, .int (x3_2 + 1)), (2, .int ((a_links_2f x2_2.toNatClampNeg) - 1)), (4, .int ((a_links_2f x2_2.toNatClampNeg) - 1)), (0, .ref a), (1, .int node)] := hl
            refine lv_goto hx hb d_Unifier_rootOf_65 rfl ?_
            exact ih2 _ _ _ (x3_2 + 1) ((a_links_2f x2_2.toNatClampNeg) - 1) a_links_2f (lv_sub hl [0, 1, 3, 4] rfl) (sub3 hP hD [0, 1, 2, 3] (by decide)) hS hok
          · rw [if_neg h8] at hok
            refine lv_aload_n hx hb d_Unifier_rootOf_46 rfl (lv_at hl 3 rfl) ?_
            refine va_get (D := g) (ci := 8) (v := .ref a_links) (C := R_Unifier) (T := F_Unifier) (N := 7) hx hb hg ul_Unifier hown hK hP 0 rfl rfl 1 (by decide) (hg _ wd_319) (fun _ h9 => h9) rfl d_Unifier_rootOf_47 ?_
            refine lv_iload_n hx hb d_Unifier_rootOf_50 rfl (lv_at hl 2 rfl) ?_
            refine lv_aload_n hx hb d_Unifier_rootOf_51 rfl (lv_at hl 3 rfl) ?_
            refine va_get (D := g) (ci := 8) (v := .ref a_links) (C := R_Unifier) (T := F_Unifier) (N := 7) hx hb hg ul_Unifier hown hK hP 0 rfl rfl 1 (by decide) (hg _ wd_319) (fun _ h9 => h9) rfl d_Unifier_rootOf_52 ?_
            refine lv_iload hx hb d_Unifier_rootOf_55 (lv_at hl 0 rfl) ?_
            obtain ⟨hi9, hok⟩ := ck_some hok
            refine va_iald hx hb hK hP 1 0 rfl rfl (ixb_in hi9) d_Unifier_rootOf_57 ?_
            obtain ⟨hi10, hok⟩ := ck_some hok
            refine va_iast hx hb hK hP hD hS 1 0 rfl rfl (ixb_in hi10) d_Unifier_rootOf_58 (fun H locs hP hD hS => ?_)
            obtain ⟨hP, hD⟩ : PD g A H [(a, .inr (8, [.ref a_terms, .ref a_links, .ref a_states, .ref a_pairs, .ref a_joined, .ref a_seen, .ref a_path])), (a_links, .inl (cs 0, a_links_n, .inl (upd a_links_2f x2_2.toNatClampNeg (a_links_2f ((a_links_2f x2_2.toNatClampNeg) - 1).toNatClampNeg)))), (a_terms, .inr (7, [.ref a_terms_shapes, .ref a_terms_values, .ref a_terms_firstParts, .int a_terms_nodes, .ref a_terms_parts, .ref a_terms_variableNames, .ref a_terms_became, .int a_terms_variables, .int a_terms_variablesLack, .int a_terms_symbols, .int a_terms_nodesBefore, .int a_terms_partsBefore, .int a_terms_variablesBefore])), (a_terms_became, .inl (cs 0, a_terms_became_n, .inl a_terms_became_f))] := ⟨hP, hD⟩
            refine lv_iload hx hb d_Unifier_rootOf_59 (lv_at hl 0 rfl) ?_
            refine lv_istore_n hx hb d_Unifier_rootOf_61 rfl hl (by decide) rfl (fun ls hl => ?_)
            have hl : lv_has ls 5 [(2, .int ((a_links_2f x2_2.toNatClampNeg) - 1)), (4, .int ((a_links_2f x2_2.toNatClampNeg) - 1)), (3, .int x3_2), (0, .ref a), (1, .int node)] := hl
            refine lv_iinc (k := 2) (v := x3_2 + 1) hx hb d_Unifier_rootOf_62 hl rfl rfl (by decide) rfl (fun ls hl => ?_)
            have hl : lv_has ls 5 [(3, .int (x3_2 + 1)), (2, .int ((a_links_2f x2_2.toNatClampNeg) - 1)), (4, .int ((a_links_2f x2_2.toNatClampNeg) - 1)), (0, .ref a), (1, .int node)] := hl
            refine lv_goto hx hb d_Unifier_rootOf_65 rfl ?_
            exact ih2 _ _ _ (x3_2 + 1) ((a_links_2f x2_2.toNatClampNeg) - 1) (upd a_links_2f x2_2.toNatClampNeg (a_links_2f ((a_links_2f x2_2.toNatClampNeg) - 1).toNatClampNeg)) (lv_sub hl [0, 1, 3, 4] rfl) (sub3 hP hD [0, 1, 2, 3] (by decide)) hS hok
  exact J2 n H locs ls (0 : Int32) r1 a_links_f hl ⟨hP, hD⟩ hS hok

theorem d_Unifier_joinRoots_0 : decode b_Unifier_joinRoots 0 = .ok (.aload_n 0, 1) := by decide +kernel
theorem d_Unifier_joinRoots_1 : decode b_Unifier_joinRoots 1 = .ok (.getfield 34, 3) := by decide +kernel
theorem d_Unifier_joinRoots_4 : decode b_Unifier_joinRoots 4 = .ok (.iload_n 1, 1) := by decide +kernel
theorem d_Unifier_joinRoots_5 : decode b_Unifier_joinRoots 5 = .ok (.invokevirtual 85, 3) := by decide +kernel
theorem d_Unifier_joinRoots_8 : decode b_Unifier_joinRoots 8 = .ok (.ifCond .eq 11, 3) := by decide +kernel
theorem d_Unifier_joinRoots_11 : decode b_Unifier_joinRoots 11 = .ok (.aload_n 0, 1) := by decide +kernel
theorem d_Unifier_joinRoots_12 : decode b_Unifier_joinRoots 12 = .ok (.iload_n 1, 1) := by decide +kernel
theorem d_Unifier_joinRoots_13 : decode b_Unifier_joinRoots 13 = .ok (.iload_n 2, 1) := by decide +kernel
theorem d_Unifier_joinRoots_14 : decode b_Unifier_joinRoots 14 = .ok (.invokevirtual 88, 3) := by decide +kernel
theorem d_Unifier_joinRoots_17 : decode b_Unifier_joinRoots 17 = .ok (.iload_n 3, 1) := by decide +kernel
theorem d_Unifier_joinRoots_18 : decode b_Unifier_joinRoots 18 = .ok (.ireturn, 1) := by decide +kernel
theorem d_Unifier_joinRoots_19 : decode b_Unifier_joinRoots 19 = .ok (.aload_n 0, 1) := by decide +kernel
theorem d_Unifier_joinRoots_20 : decode b_Unifier_joinRoots 20 = .ok (.getfield 34, 3) := by decide +kernel
theorem d_Unifier_joinRoots_23 : decode b_Unifier_joinRoots 23 = .ok (.iload_n 2, 1) := by decide +kernel
theorem d_Unifier_joinRoots_24 : decode b_Unifier_joinRoots 24 = .ok (.invokevirtual 85, 3) := by decide +kernel
theorem d_Unifier_joinRoots_27 : decode b_Unifier_joinRoots 27 = .ok (.ifCond .eq 11, 3) := by decide +kernel
theorem d_Unifier_joinRoots_30 : decode b_Unifier_joinRoots 30 = .ok (.aload_n 0, 1) := by decide +kernel
theorem d_Unifier_joinRoots_31 : decode b_Unifier_joinRoots 31 = .ok (.iload_n 2, 1) := by decide +kernel
theorem d_Unifier_joinRoots_32 : decode b_Unifier_joinRoots 32 = .ok (.iload_n 1, 1) := by decide +kernel
theorem d_Unifier_joinRoots_33 : decode b_Unifier_joinRoots 33 = .ok (.invokevirtual 88, 3) := by decide +kernel
theorem d_Unifier_joinRoots_36 : decode b_Unifier_joinRoots 36 = .ok (.iload_n 3, 1) := by decide +kernel
theorem d_Unifier_joinRoots_37 : decode b_Unifier_joinRoots 37 = .ok (.ireturn, 1) := by decide +kernel
theorem d_Unifier_joinRoots_38 : decode b_Unifier_joinRoots 38 = .ok (.aload_n 0, 1) := by decide +kernel
theorem d_Unifier_joinRoots_39 : decode b_Unifier_joinRoots 39 = .ok (.getfield 34, 3) := by decide +kernel
theorem d_Unifier_joinRoots_42 : decode b_Unifier_joinRoots 42 = .ok (.iload_n 1, 1) := by decide +kernel
theorem d_Unifier_joinRoots_43 : decode b_Unifier_joinRoots 43 = .ok (.iload_n 2, 1) := by decide +kernel
theorem d_Unifier_joinRoots_44 : decode b_Unifier_joinRoots 44 = .ok (.invokevirtual 92, 3) := by decide +kernel
theorem d_Unifier_joinRoots_47 : decode b_Unifier_joinRoots 47 = .ok (.ifCond .ne 5, 3) := by decide +kernel
theorem d_Unifier_joinRoots_50 : decode b_Unifier_joinRoots 50 = .ok (.iconst 0, 1) := by decide +kernel
theorem d_Unifier_joinRoots_51 : decode b_Unifier_joinRoots 51 = .ok (.ireturn, 1) := by decide +kernel
theorem d_Unifier_joinRoots_52 : decode b_Unifier_joinRoots 52 = .ok (.aload_n 0, 1) := by decide +kernel
theorem d_Unifier_joinRoots_53 : decode b_Unifier_joinRoots 53 = .ok (.iload_n 1, 1) := by decide +kernel
theorem d_Unifier_joinRoots_54 : decode b_Unifier_joinRoots 54 = .ok (.iload_n 2, 1) := by decide +kernel
theorem d_Unifier_joinRoots_55 : decode b_Unifier_joinRoots 55 = .ok (.invokevirtual 88, 3) := by decide +kernel
theorem d_Unifier_joinRoots_58 : decode b_Unifier_joinRoots 58 = .ok (.aload_n 0, 1) := by decide +kernel
theorem d_Unifier_joinRoots_59 : decode b_Unifier_joinRoots 59 = .ok (.getfield 34, 3) := by decide +kernel
theorem d_Unifier_joinRoots_62 : decode b_Unifier_joinRoots 62 = .ok (.iload_n 1, 1) := by decide +kernel
theorem d_Unifier_joinRoots_63 : decode b_Unifier_joinRoots 63 = .ok (.invokevirtual 96, 3) := by decide +kernel
theorem d_Unifier_joinRoots_66 : decode b_Unifier_joinRoots 66 = .ok (.iconst 1, 1) := by decide +kernel
theorem d_Unifier_joinRoots_67 : decode b_Unifier_joinRoots 67 = .ok (.isub, 1) := by decide +kernel
theorem d_Unifier_joinRoots_68 : decode b_Unifier_joinRoots 68 = .ok (.istore 4, 2) := by decide +kernel
theorem d_Unifier_joinRoots_70 : decode b_Unifier_joinRoots 70 = .ok (.iload 4, 2) := by decide +kernel
theorem d_Unifier_joinRoots_72 : decode b_Unifier_joinRoots 72 = .ok (.ifCond .lt 43, 3) := by decide +kernel
theorem d_Unifier_joinRoots_75 : decode b_Unifier_joinRoots 75 = .ok (.aload_n 0, 1) := by decide +kernel
theorem d_Unifier_joinRoots_76 : decode b_Unifier_joinRoots 76 = .ok (.getfield 21, 3) := by decide +kernel
theorem d_Unifier_joinRoots_79 : decode b_Unifier_joinRoots 79 = .ok (.aload_n 0, 1) := by decide +kernel
theorem d_Unifier_joinRoots_80 : decode b_Unifier_joinRoots 80 = .ok (.getfield 34, 3) := by decide +kernel
theorem d_Unifier_joinRoots_83 : decode b_Unifier_joinRoots 83 = .ok (.iload_n 1, 1) := by decide +kernel
theorem d_Unifier_joinRoots_84 : decode b_Unifier_joinRoots 84 = .ok (.iload 4, 2) := by decide +kernel
theorem d_Unifier_joinRoots_86 : decode b_Unifier_joinRoots 86 = .ok (.invokevirtual 99, 3) := by decide +kernel
theorem d_Unifier_joinRoots_89 : decode b_Unifier_joinRoots 89 = .ok (.invokevirtual 72, 3) := by decide +kernel
theorem d_Unifier_joinRoots_92 : decode b_Unifier_joinRoots 92 = .ok (.aload_n 0, 1) := by decide +kernel
theorem d_Unifier_joinRoots_93 : decode b_Unifier_joinRoots 93 = .ok (.getfield 21, 3) := by decide +kernel
theorem d_Unifier_joinRoots_96 : decode b_Unifier_joinRoots 96 = .ok (.aload_n 0, 1) := by decide +kernel
theorem d_Unifier_joinRoots_97 : decode b_Unifier_joinRoots 97 = .ok (.getfield 34, 3) := by decide +kernel
theorem d_Unifier_joinRoots_100 : decode b_Unifier_joinRoots 100 = .ok (.iload_n 2, 1) := by decide +kernel
theorem d_Unifier_joinRoots_101 : decode b_Unifier_joinRoots 101 = .ok (.iload 4, 2) := by decide +kernel
theorem d_Unifier_joinRoots_103 : decode b_Unifier_joinRoots 103 = .ok (.invokevirtual 99, 3) := by decide +kernel
theorem d_Unifier_joinRoots_106 : decode b_Unifier_joinRoots 106 = .ok (.invokevirtual 72, 3) := by decide +kernel
theorem d_Unifier_joinRoots_109 : decode b_Unifier_joinRoots 109 = .ok (.iinc 4 (-1), 3) := by decide +kernel
theorem d_Unifier_joinRoots_112 : decode b_Unifier_joinRoots 112 = .ok (.goto (-42), 3) := by decide +kernel
theorem d_Unifier_joinRoots_115 : decode b_Unifier_joinRoots 115 = .ok (.iconst 1, 1) := by decide +kernel
theorem d_Unifier_joinRoots_116 : decode b_Unifier_joinRoots 116 = .ok (.ireturn, 1) := by decide +kernel
def p_Unifier_joinRoots_70 (n : Nat) (left : Int32) (right : Int32) (a_terms_nodes : Int32) (a_terms_variables : Int32) (a_terms_variablesLack : Int32) (a_terms_symbols : Int32) (a_terms_nodesBefore : Int32) (a_terms_partsBefore : Int32) (a_terms_variablesBefore : Int32) (a_terms_firstParts_n : Nat) (a_terms_firstParts_f : Nat → Int32) (a_terms_parts_size : Int32) (a_terms_parts_items_n : Nat) (a_terms_parts_items_f : Nat → Int32) (a_links_f_7 : Nat → Int32) (a_joined_size_7 : Int32) (a_joined_items_n_7 : Nat) (a_joined_items_f_7 : Nat → Int32) (kf9 : Nat) (x4_9 : Int32) (a_pairs_size_9 : Int32) (a_pairs_items_9n : Nat) (a_pairs_items_9f : Nat → Int32) : Option ((Int32 × (Nat → Int32) × Int32 × Nat × (Nat → Int32) × Int32 × Nat × (Nat → Int32)) × Nat × Nat) := match kf9 with
  | 0 => none
  | kf9 + 1 => if x4_9 < 0 then (some (((1 : Int32), a_links_f_7, a_pairs_size_9, a_pairs_items_9n, a_pairs_items_9f, a_joined_size_7, a_joined_items_n_7, a_joined_items_f_7), 0, 0)) else ((p_Terms_partAt left x4_9 a_terms_nodes a_terms_variables a_terms_variablesLack a_terms_symbols a_terms_nodesBefore a_terms_partsBefore a_terms_variablesBefore a_terms_firstParts_n a_terms_firstParts_f a_terms_parts_size a_terms_parts_items_n a_terms_parts_items_f).bind (fun r11 => (p_Ints_push r11 a_pairs_size_9 a_pairs_items_9n a_pairs_items_9f).bind (fun ((a_size_12, a_items_n_12, a_items_f_12), mk12, sk12) => al mk12 sk12 ((p_Terms_partAt right x4_9 a_terms_nodes a_terms_variables a_terms_variablesLack a_terms_symbols a_terms_nodesBefore a_terms_partsBefore a_terms_variablesBefore a_terms_firstParts_n a_terms_firstParts_f a_terms_parts_size a_terms_parts_items_n a_terms_parts_items_f).bind (fun r13 => (p_Ints_push r13 a_size_12 a_items_n_12 a_items_f_12).bind (fun ((a_size_14, a_items_n_14, a_items_f_14), mk14, sk14) => al mk14 sk14 (p_Unifier_joinRoots_70 n left right a_terms_nodes a_terms_variables a_terms_variablesLack a_terms_symbols a_terms_nodesBefore a_terms_partsBefore a_terms_variablesBefore a_terms_firstParts_n a_terms_firstParts_f a_terms_parts_size a_terms_parts_items_n a_terms_parts_items_f a_links_f_7 a_joined_size_7 a_joined_items_n_7 a_joined_items_f_7 kf9 (x4_9 + (-1)) a_size_14 a_items_n_14 a_items_f_14)))))))
def p_Unifier_joinRoots (n : Nat) (left : Int32) (right : Int32) (mayBind : Int32) (a_terms_nodes : Int32) (a_terms_variables : Int32) (a_terms_variablesLack : Int32) (a_terms_symbols : Int32) (a_terms_nodesBefore : Int32) (a_terms_partsBefore : Int32) (a_terms_variablesBefore : Int32) (a_terms_shapes_n : Nat) (a_terms_shapes_f : Nat → Int32) (a_terms_values_n : Nat) (a_terms_values_f : Nat → Int64) (a_terms_firstParts_n : Nat) (a_terms_firstParts_f : Nat → Int32) (a_terms_parts_size : Int32) (a_terms_parts_items_n : Nat) (a_terms_parts_items_f : Nat → Int32) (a_links_n : Nat) (a_links_f : Nat → Int32) (a_pairs_size : Int32) (a_pairs_items_n : Nat) (a_pairs_items_f : Nat → Int32) (a_joined_size : Int32) (a_joined_items_n : Nat) (a_joined_items_f : Nat → Int32) : Option ((Int32 × (Nat → Int32) × Int32 × Nat × (Nat → Int32) × Int32 × Nat × (Nat → Int32)) × Nat × Nat) := (p_Terms_isVariable left a_terms_nodes a_terms_variables a_terms_variablesLack a_terms_symbols a_terms_nodesBefore a_terms_partsBefore a_terms_variablesBefore a_terms_shapes_n a_terms_shapes_f).bind (fun r1 => if r1 = 0 then ((p_Terms_isVariable right a_terms_nodes a_terms_variables a_terms_variablesLack a_terms_symbols a_terms_nodesBefore a_terms_partsBefore a_terms_variablesBefore a_terms_shapes_n a_terms_shapes_f).bind (fun r3 => if r3 = 0 then ((p_Terms_areAlike left right a_terms_nodes a_terms_variables a_terms_variablesLack a_terms_symbols a_terms_nodesBefore a_terms_partsBefore a_terms_variablesBefore a_terms_shapes_n a_terms_shapes_f a_terms_values_n a_terms_values_f).bind (fun r5 => if r5 = 0 then (some (((0 : Int32), a_links_f, a_pairs_size, a_pairs_items_n, a_pairs_items_f, a_joined_size, a_joined_items_n, a_joined_items_f), 0, 0)) else ((p_Unifier_link left right a_links_n a_links_f a_joined_size a_joined_items_n a_joined_items_f).bind (fun ((a_links_f_7, a_joined_size_7, a_joined_items_n_7, a_joined_items_f_7), mk7, sk7) => al mk7 sk7 ((p_Terms_partsOf left a_terms_nodes a_terms_variables a_terms_variablesLack a_terms_symbols a_terms_nodesBefore a_terms_partsBefore a_terms_variablesBefore a_terms_shapes_n a_terms_shapes_f).bind (fun r8 => p_Unifier_joinRoots_70 n left right a_terms_nodes a_terms_variables a_terms_variablesLack a_terms_symbols a_terms_nodesBefore a_terms_partsBefore a_terms_variablesBefore a_terms_firstParts_n a_terms_firstParts_f a_terms_parts_size a_terms_parts_items_n a_terms_parts_items_f a_links_f_7 a_joined_size_7 a_joined_items_n_7 a_joined_items_f_7 n (r8 - 1) a_pairs_size a_pairs_items_n a_pairs_items_f)))))) else ((p_Unifier_link right left a_links_n a_links_f a_joined_size a_joined_items_n a_joined_items_f).bind (fun ((a_links_f_15, a_joined_size_15, a_joined_items_n_15, a_joined_items_f_15), mk15, sk15) => al mk15 sk15 (ck (zab mayBind) (some ((mayBind, a_links_f_15, a_pairs_size, a_pairs_items_n, a_pairs_items_f, a_joined_size_15, a_joined_items_n_15, a_joined_items_f_15), 0, 0))))))) else ((p_Unifier_link left right a_links_n a_links_f a_joined_size a_joined_items_n a_joined_items_f).bind (fun ((a_links_f_16, a_joined_size_16, a_joined_items_n_16, a_joined_items_f_16), mk16, sk16) => al mk16 sk16 (ck (zab mayBind) (some ((mayBind, a_links_f_16, a_pairs_size, a_pairs_items_n, a_pairs_items_f, a_joined_size_16, a_joined_items_n_16, a_joined_items_f_16), 0, 0))))))
set_option maxHeartbeats 4000000 in
set_option maxRecDepth 100000 in
theorem c_Unifier_joinRoots (l : Launch) (g : va_G) (cs : Nat → ClassId) (ka : Nat → Nat) (a_states : Nat) (a_seen : Nat) (a_path : Nat) (a_terms_variableNames : Nat) (a_terms_became : Nat) (a a_terms a_terms_shapes a_terms_values a_terms_firstParts a_terms_parts a_terms_parts_items a_links a_pairs a_pairs_items a_joined a_joined_items : Nat) (sz : Nat) (n : Nat) (left : Int32) (right : Int32) (mayBind : Int32) (a_terms_nodes : Int32) (a_terms_variables : Int32) (a_terms_variablesLack : Int32) (a_terms_symbols : Int32) (a_terms_nodesBefore : Int32) (a_terms_partsBefore : Int32) (a_terms_variablesBefore : Int32) (a_terms_shapes_n : Nat) (a_terms_shapes_f : Nat → Int32) (a_terms_values_n : Nat) (a_terms_values_f : Nat → Int64) (a_terms_firstParts_n : Nat) (a_terms_firstParts_f : Nat → Int32) (a_terms_parts_size : Int32) (a_terms_parts_items_n : Nat) (a_terms_parts_items_f : Nat → Int32) (a_links_n : Nat) (a_links_f : Nat → Int32) (a_pairs_size : Int32) (a_pairs_items_n : Nat) (a_pairs_items_f : Nat → Int32) (a_joined_size : Int32) (a_joined_items_n : Nat) (a_joined_items_f : Nat → Int32) (r : Int32) (o_a_links_f : Nat → Int32) (o_a_pairs_size : Int32) (o_a_pairs_items_n : Nat) (o_a_pairs_items_f : Nat → Int32) (o_a_joined_size : Int32) (o_a_joined_items_n : Nat) (o_a_joined_items_f : Nat → Int32) (mc ms : Nat) (hok : p_Unifier_joinRoots n left right mayBind a_terms_nodes a_terms_variables a_terms_variablesLack a_terms_symbols a_terms_nodesBefore a_terms_partsBefore a_terms_variablesBefore a_terms_shapes_n a_terms_shapes_f a_terms_values_n a_terms_values_f a_terms_firstParts_n a_terms_firstParts_f a_terms_parts_size a_terms_parts_items_n a_terms_parts_items_f a_links_n a_links_f a_pairs_size a_pairs_items_n a_pairs_items_f a_joined_size a_joined_items_n a_joined_items_f = some ((r, o_a_links_f, o_a_pairs_size, o_a_pairs_items_n, o_a_pairs_items_f, o_a_joined_size, o_a_joined_items_n, o_a_joined_items_f), mc, ms)) : Met l y_Unifier_joinRoots (.code y_Unifier_joinRoots b_Unifier_joinRoots 5 (some .boolean) :: GW) { frames := 4, cells := mc, slots := ms, locals := 165 } (va_Pc [.ref a, .int left, .int right, .int mayBind] (gP g cs ka [(a, .inr (8, [.ref a_terms, .ref a_links, .ref a_states, .ref a_pairs, .ref a_joined, .ref a_seen, .ref a_path])), (a_terms, .inr (7, [.ref a_terms_shapes, .ref a_terms_values, .ref a_terms_firstParts, .int a_terms_nodes, .ref a_terms_parts, .ref a_terms_variableNames, .ref a_terms_became, .int a_terms_variables, .int a_terms_variablesLack, .int a_terms_symbols, .int a_terms_nodesBefore, .int a_terms_partsBefore, .int a_terms_variablesBefore])), (a_terms_shapes, .inl (cs 0, a_terms_shapes_n, .inl a_terms_shapes_f)), (a_terms_values, .inl (cs 2, a_terms_values_n, .inr (.inl a_terms_values_f))), (a_terms_firstParts, .inl (cs 0, a_terms_firstParts_n, .inl a_terms_firstParts_f)), (a_terms_parts, .inr (1, [.ref a_terms_parts_items, .int a_terms_parts_size])), (a_terms_parts_items, .inl (cs 0, a_terms_parts_items_n, .inl a_terms_parts_items_f)), (a_links, .inl (cs 0, a_links_n, .inl a_links_f)), (a_pairs, .inr (1, [.ref a_pairs_items, .int a_pairs_size])), (a_pairs_items, .inl (cs 0, a_pairs_items_n, .inl a_pairs_items_f)), (a_joined, .inr (1, [.ref a_joined_items, .int a_joined_size])), (a_joined_items, .inl (cs 0, a_joined_items_n, .inl a_joined_items_f))] sz)) (va_Qi (fun (r' : Int32) (_ : Unit) => r = r') (fun _ t => ∃ b_a_pairs_items b_a_joined_items : Nat, va_P g classes [(a, .inr (8, [.ref a_terms, .ref a_links, .ref a_states, .ref a_pairs, .ref a_joined, .ref a_seen, .ref a_path])), (a_terms, .inr (7, [.ref a_terms_shapes, .ref a_terms_values, .ref a_terms_firstParts, .int a_terms_nodes, .ref a_terms_parts, .ref a_terms_variableNames, .ref a_terms_became, .int a_terms_variables, .int a_terms_variablesLack, .int a_terms_symbols, .int a_terms_nodesBefore, .int a_terms_partsBefore, .int a_terms_variablesBefore])), (a_terms_shapes, .inl (cs 0, a_terms_shapes_n, .inl a_terms_shapes_f)), (a_terms_values, .inl (cs 2, a_terms_values_n, .inr (.inl a_terms_values_f))), (a_terms_firstParts, .inl (cs 0, a_terms_firstParts_n, .inl a_terms_firstParts_f)), (a_terms_parts, .inr (1, [.ref a_terms_parts_items, .int a_terms_parts_size])), (a_terms_parts_items, .inl (cs 0, a_terms_parts_items_n, .inl a_terms_parts_items_f)), (a_links, .inl (cs 0, a_links_n, .inl o_a_links_f)), (a_pairs, .inr (1, [.ref b_a_pairs_items, .int o_a_pairs_size])), (b_a_pairs_items, .inl (cs 0, o_a_pairs_items_n, .inl o_a_pairs_items_f)), (a_joined, .inr (1, [.ref b_a_joined_items, .int o_a_joined_size])), (b_a_joined_items, .inl (cs 0, o_a_joined_items_n, .inl o_a_joined_items_f))] t.heap ∧ va_D (va_A [(a, .inr (8, [.ref a_terms, .ref a_links, .ref a_states, .ref a_pairs, .ref a_joined, .ref a_seen, .ref a_path])), (a_terms, .inr (7, [.ref a_terms_shapes, .ref a_terms_values, .ref a_terms_firstParts, .int a_terms_nodes, .ref a_terms_parts, .ref a_terms_variableNames, .ref a_terms_became, .int a_terms_variables, .int a_terms_variablesLack, .int a_terms_symbols, .int a_terms_nodesBefore, .int a_terms_partsBefore, .int a_terms_variablesBefore])), (a_terms_shapes, .inl (cs 0, a_terms_shapes_n, .inl a_terms_shapes_f)), (a_terms_values, .inl (cs 2, a_terms_values_n, .inr (.inl a_terms_values_f))), (a_terms_firstParts, .inl (cs 0, a_terms_firstParts_n, .inl a_terms_firstParts_f)), (a_terms_parts, .inr (1, [.ref a_terms_parts_items, .int a_terms_parts_size])), (a_terms_parts_items, .inl (cs 0, a_terms_parts_items_n, .inl a_terms_parts_items_f)), (a_links, .inl (cs 0, a_links_n, .inl a_links_f)), (a_pairs, .inr (1, [.ref a_pairs_items, .int a_pairs_size])), (a_pairs_items, .inl (cs 0, a_pairs_items_n, .inl a_pairs_items_f)), (a_joined, .inr (1, [.ref a_joined_items, .int a_joined_size])), (a_joined_items, .inl (cs 0, a_joined_items_n, .inl a_joined_items_f))] sz) [(a, .inr (8, [.ref a_terms, .ref a_links, .ref a_states, .ref a_pairs, .ref a_joined, .ref a_seen, .ref a_path])), (a_terms, .inr (7, [.ref a_terms_shapes, .ref a_terms_values, .ref a_terms_firstParts, .int a_terms_nodes, .ref a_terms_parts, .ref a_terms_variableNames, .ref a_terms_became, .int a_terms_variables, .int a_terms_variablesLack, .int a_terms_symbols, .int a_terms_nodesBefore, .int a_terms_partsBefore, .int a_terms_variablesBefore])), (a_terms_shapes, .inl (cs 0, a_terms_shapes_n, .inl a_terms_shapes_f)), (a_terms_values, .inl (cs 2, a_terms_values_n, .inr (.inl a_terms_values_f))), (a_terms_firstParts, .inl (cs 0, a_terms_firstParts_n, .inl a_terms_firstParts_f)), (a_terms_parts, .inr (1, [.ref a_terms_parts_items, .int a_terms_parts_size])), (a_terms_parts_items, .inl (cs 0, a_terms_parts_items_n, .inl a_terms_parts_items_f)), (a_links, .inl (cs 0, a_links_n, .inl o_a_links_f)), (a_pairs, .inr (1, [.ref b_a_pairs_items, .int o_a_pairs_size])), (b_a_pairs_items, .inl (cs 0, o_a_pairs_items_n, .inl o_a_pairs_items_f)), (a_joined, .inr (1, [.ref b_a_joined_items, .int o_a_joined_size])), (b_a_joined_items, .inl (cs 0, o_a_joined_items_n, .inl o_a_joined_items_f))]) (va_A [(a, .inr (8, [.ref a_terms, .ref a_links, .ref a_states, .ref a_pairs, .ref a_joined, .ref a_seen, .ref a_path])), (a_terms, .inr (7, [.ref a_terms_shapes, .ref a_terms_values, .ref a_terms_firstParts, .int a_terms_nodes, .ref a_terms_parts, .ref a_terms_variableNames, .ref a_terms_became, .int a_terms_variables, .int a_terms_variablesLack, .int a_terms_symbols, .int a_terms_nodesBefore, .int a_terms_partsBefore, .int a_terms_variablesBefore])), (a_terms_shapes, .inl (cs 0, a_terms_shapes_n, .inl a_terms_shapes_f)), (a_terms_values, .inl (cs 2, a_terms_values_n, .inr (.inl a_terms_values_f))), (a_terms_firstParts, .inl (cs 0, a_terms_firstParts_n, .inl a_terms_firstParts_f)), (a_terms_parts, .inr (1, [.ref a_terms_parts_items, .int a_terms_parts_size])), (a_terms_parts_items, .inl (cs 0, a_terms_parts_items_n, .inl a_terms_parts_items_f)), (a_links, .inl (cs 0, a_links_n, .inl a_links_f)), (a_pairs, .inr (1, [.ref a_pairs_items, .int a_pairs_size])), (a_pairs_items, .inl (cs 0, a_pairs_items_n, .inl a_pairs_items_f)), (a_joined, .inr (1, [.ref a_joined_items, .int a_joined_size])), (a_joined_items, .inl (cs 0, a_joined_items_n, .inl a_joined_items_f))] sz)) mc ms (va_A [(a, .inr (8, [.ref a_terms, .ref a_links, .ref a_states, .ref a_pairs, .ref a_joined, .ref a_seen, .ref a_path])), (a_terms, .inr (7, [.ref a_terms_shapes, .ref a_terms_values, .ref a_terms_firstParts, .int a_terms_nodes, .ref a_terms_parts, .ref a_terms_variableNames, .ref a_terms_became, .int a_terms_variables, .int a_terms_variablesLack, .int a_terms_symbols, .int a_terms_nodesBefore, .int a_terms_partsBefore, .int a_terms_variablesBefore])), (a_terms_shapes, .inl (cs 0, a_terms_shapes_n, .inl a_terms_shapes_f)), (a_terms_values, .inl (cs 2, a_terms_values_n, .inr (.inl a_terms_values_f))), (a_terms_firstParts, .inl (cs 0, a_terms_firstParts_n, .inl a_terms_firstParts_f)), (a_terms_parts, .inr (1, [.ref a_terms_parts_items, .int a_terms_parts_size])), (a_terms_parts_items, .inl (cs 0, a_terms_parts_items_n, .inl a_terms_parts_items_f)), (a_links, .inl (cs 0, a_links_n, .inl a_links_f)), (a_pairs, .inr (1, [.ref a_pairs_items, .int a_pairs_size])), (a_pairs_items, .inl (cs 0, a_pairs_items_n, .inl a_pairs_items_f)), (a_joined, .inr (1, [.ref a_joined_items, .int a_joined_size])), (a_joined_items, .inl (cs 0, a_joined_items_n, .inl a_joined_items_f))] sz) := by
  refine Met.ofW (cc := b_Unifier_joinRoots) (maxL := 5) (ret := (some .boolean)) (by decide) rfl ?_
  intro p e s m args below meth c s₁ B hml hv
  obtain ⟨rfl, hsz, hP, hK, hD0, hgl, hkn, hkr⟩ := hv
  have hx := B.exec
  have hb := B.bytes
  have hr := B.returns
  have hg : ∀ w ∈ GW, w.before ([.ref a, .int left, .int right, .int mayBind] : List Value).toArray s = true := fun w hw => atoms_spec (ws := .code y_Unifier_joinRoots b_Unifier_joinRoots 5 (some .boolean) :: GW) B.pre w (List.mem_cons_of_mem _ hw)
  have hown : s.vm.findClass R_Unifier = some m.cls := findClass_of_methodNamed B.named
  have hlocks := B.notSynchronized
  subst hsz
  have hD := hD0.self (sz := s.heap.size)
  generalize hAe : va_A [(a, .inr (8, [.ref a_terms, .ref a_links, .ref a_states, .ref a_pairs, .ref a_joined, .ref a_seen, .ref a_path])), (a_terms, .inr (7, [.ref a_terms_shapes, .ref a_terms_values, .ref a_terms_firstParts, .int a_terms_nodes, .ref a_terms_parts, .ref a_terms_variableNames, .ref a_terms_became, .int a_terms_variables, .int a_terms_variablesLack, .int a_terms_symbols, .int a_terms_nodesBefore, .int a_terms_partsBefore, .int a_terms_variablesBefore])), (a_terms_shapes, .inl (cs 0, a_terms_shapes_n, .inl a_terms_shapes_f)), (a_terms_values, .inl (cs 2, a_terms_values_n, .inr (.inl a_terms_values_f))), (a_terms_firstParts, .inl (cs 0, a_terms_firstParts_n, .inl a_terms_firstParts_f)), (a_terms_parts, .inr (1, [.ref a_terms_parts_items, .int a_terms_parts_size])), (a_terms_parts_items, .inl (cs 0, a_terms_parts_items_n, .inl a_terms_parts_items_f)), (a_links, .inl (cs 0, a_links_n, .inl a_links_f)), (a_pairs, .inr (1, [.ref a_pairs_items, .int a_pairs_size])), (a_pairs_items, .inl (cs 0, a_pairs_items_n, .inl a_pairs_items_f)), (a_joined, .inr (1, [.ref a_joined_items, .int a_joined_size])), (a_joined_items, .inl (cs 0, a_joined_items_n, .inl a_joined_items_f))] s.heap.size = A at hD hkn ⊢
  have hA : ∀ q : Nat, s.heap.size ≤ q → A q := fun q h => by rw [← hAe]; exact Or.inr h
  have hS : va_S A s.heap s.heap [] := va_S.rf
  have hP : va_P g classes [(a, .inr (8, [.ref a_terms, .ref a_links, .ref a_states, .ref a_pairs, .ref a_joined, .ref a_seen, .ref a_path])), (a_terms, .inr (7, [.ref a_terms_shapes, .ref a_terms_values, .ref a_terms_firstParts, .int a_terms_nodes, .ref a_terms_parts, .ref a_terms_variableNames, .ref a_terms_became, .int a_terms_variables, .int a_terms_variablesLack, .int a_terms_symbols, .int a_terms_nodesBefore, .int a_terms_partsBefore, .int a_terms_variablesBefore])), (a_terms_shapes, .inl (cs 0, a_terms_shapes_n, .inl a_terms_shapes_f)), (a_terms_values, .inl (cs 2, a_terms_values_n, .inr (.inl a_terms_values_f))), (a_terms_firstParts, .inl (cs 0, a_terms_firstParts_n, .inl a_terms_firstParts_f)), (a_terms_parts, .inr (1, [.ref a_terms_parts_items, .int a_terms_parts_size])), (a_terms_parts_items, .inl (cs 0, a_terms_parts_items_n, .inl a_terms_parts_items_f)), (a_links, .inl (cs 0, a_links_n, .inl a_links_f)), (a_pairs, .inr (1, [.ref a_pairs_items, .int a_pairs_size])), (a_pairs_items, .inl (cs 0, a_pairs_items_n, .inl a_pairs_items_f)), (a_joined, .inr (1, [.ref a_joined_items, .int a_joined_size])), (a_joined_items, .inl (cs 0, a_joined_items_n, .inl a_joined_items_f))] s.heap := hP
  have hl := lv_entry ([.ref a, .int left, .int right, .int mayBind]) (n := 5) (Nat.le_of_ble_eq_true rfl)
  rw [lg_entry_eq]
  generalize (lg_sl ([.ref a, .int left, .int right, .int mayBind]) ++ List.replicate (5 - (lg_sl ([.ref a, .int left, .int right, .int mayBind])).length) Slot.unset).toArray = ls at hl ⊢
  have hl : lv_has ls 5 [(0, .ref a), (1, .int left), (2, .int right), (3, .int mayBind)] := hl
  refine gq (fun Q hQ => ?_)
  obtain ⟨H, hH⟩ : ∃ H : Heap, H = s.heap := ⟨_, rfl⟩
  rw [← hH] at hP
  have hS : va_S A s.heap H [] := by rw [hH]; exact hS
  refine W.eqH hH ?_
  obtain ⟨locs, hlc⟩ : ∃ L : List Loc, L = [] := ⟨_, rfl⟩
  rw [← hlc] at hS ⊢
  unfold p_Unifier_joinRoots at hok
  refine lv_aload_n hx hb d_Unifier_joinRoots_0 rfl (lv_at hl 0 rfl) ?_
  refine va_get (D := g) (ci := 8) (v := .ref a_terms) (C := R_Unifier) (T := F_Unifier) (N := 7) hx hb hg ul_Unifier hown hK hP 0 rfl rfl 0 (by decide) (hg _ wd_327) (fun _ h9 => h9) rfl d_Unifier_joinRoots_1 ?_
  refine lv_iload_n hx hb d_Unifier_joinRoots_4 rfl (lv_at hl 1 rfl) ?_
  obtain ⟨r1, hc1, hok⟩ := bd_some hok
  obtain ⟨hPc, hDc, hFc⟩ := cut0 (wc := [(a_terms, .inr (7, [.ref a_terms_shapes, .ref a_terms_values, .ref a_terms_firstParts, .int a_terms_nodes, .ref a_terms_parts, .ref a_terms_variableNames, .ref a_terms_became, .int a_terms_variables, .int a_terms_variablesLack, .int a_terms_symbols, .int a_terms_nodesBefore, .int a_terms_partsBefore, .int a_terms_variablesBefore])), (a_terms_shapes, .inl (cs 0, a_terms_shapes_n, .inl a_terms_shapes_f))]) hP hD hS hA [1, 2] (by decide) rfl
  refine va_calli (va_runV (As := [.int left]) (rest := []) ⟨hx, hb, hml, hown, hg⟩ (c_Terms_isVariable l g cs ka a_terms_values a_terms_firstParts a_terms_parts a_terms_variableNames a_terms_became a_terms a_terms_shapes H.size left a_terms_nodes a_terms_variables a_terms_variablesLack a_terms_symbols a_terms_nodesBefore a_terms_partsBefore a_terms_variablesBefore a_terms_shapes_n a_terms_shapes_f r1 hc1) (cwV (C := R_Terms) 1 hg (gw_V wd_342 wd_343 wd_344 wd_264 wd_341) rfl rfl rfl (by decide +kernel) ⟨Nat.le_of_ble_eq_true rfl, Nat.le_of_ble_eq_true rfl⟩) ⟨gP_blind, va_recv (q0 := 1) (ci := 7) (q := (R_Terms, F_Terms, 13)) hK hP rfl rfl, gP_pre hPc hDc hK hgl hkn hkr hS hFc⟩ rfl rfl hl.1 rfl (lv_room (Nat.le_of_ble_eq_true rfl)) d_Unifier_joinRoots_5 ⟨show 0 + 0 ≤ mc from by omega, show 0 + 0 ≤ ms from by omega⟩) hS (fun q _ h => hFc q h) hFc (fun r1' u t H locs ht hvm hr1 hB hz1 hk1 hS => ?_)
  subst hr1
  rw [ht] at hB
  obtain ⟨hP1, hD1⟩ := hB
  obtain ⟨hP, hD⟩ := jn_A hP hD [1, 2] [0, 3, 4, 5, 6, 7, 8, 9, 10, 11] rfl rfl (by decide) (by decide) hk1 hFc hP1 hD1
  obtain ⟨hP, hD⟩ : PD g A H [(a, .inr (8, [.ref a_terms, .ref a_links, .ref a_states, .ref a_pairs, .ref a_joined, .ref a_seen, .ref a_path])), (a_terms_values, .inl (cs 2, a_terms_values_n, .inr (.inl a_terms_values_f))), (a_terms_firstParts, .inl (cs 0, a_terms_firstParts_n, .inl a_terms_firstParts_f)), (a_terms_parts, .inr (1, [.ref a_terms_parts_items, .int a_terms_parts_size])), (a_terms_parts_items, .inl (cs 0, a_terms_parts_items_n, .inl a_terms_parts_items_f)), (a_links, .inl (cs 0, a_links_n, .inl a_links_f)), (a_pairs, .inr (1, [.ref a_pairs_items, .int a_pairs_size])), (a_pairs_items, .inl (cs 0, a_pairs_items_n, .inl a_pairs_items_f)), (a_joined, .inr (1, [.ref a_joined_items, .int a_joined_size])), (a_joined_items, .inl (cs 0, a_joined_items_n, .inl a_joined_items_f)), (a_terms, .inr (7, [.ref a_terms_shapes, .ref a_terms_values, .ref a_terms_firstParts, .int a_terms_nodes, .ref a_terms_parts, .ref a_terms_variableNames, .ref a_terms_became, .int a_terms_variables, .int a_terms_variablesLack, .int a_terms_symbols, .int a_terms_nodesBefore, .int a_terms_partsBefore, .int a_terms_variablesBefore])), (a_terms_shapes, .inl (cs 0, a_terms_shapes_n, .inl a_terms_shapes_f))] := ⟨hP, hD⟩
  refine lv_if_eq hx hb d_Unifier_joinRoots_8 rfl (fun h2 => ?_) (fun h2 => ?_)
  · rw [if_pos h2] at hok
    refine lv_aload_n hx hb d_Unifier_joinRoots_19 rfl (lv_at hl 0 rfl) ?_
    refine va_get (D := g) (ci := 8) (v := .ref a_terms) (C := R_Unifier) (T := F_Unifier) (N := 7) hx hb hg ul_Unifier hown hK hP 0 rfl rfl 0 (by decide) (hg _ wd_327) (fun _ h9 => h9) rfl d_Unifier_joinRoots_20 ?_
    refine lv_iload_n hx hb d_Unifier_joinRoots_23 rfl (lv_at hl 2 rfl) ?_
    obtain ⟨r3, hc3, hok⟩ := bd_some hok
    obtain ⟨hPc, hDc, hFc⟩ := cut0 (wc := [(a_terms, .inr (7, [.ref a_terms_shapes, .ref a_terms_values, .ref a_terms_firstParts, .int a_terms_nodes, .ref a_terms_parts, .ref a_terms_variableNames, .ref a_terms_became, .int a_terms_variables, .int a_terms_variablesLack, .int a_terms_symbols, .int a_terms_nodesBefore, .int a_terms_partsBefore, .int a_terms_variablesBefore])), (a_terms_shapes, .inl (cs 0, a_terms_shapes_n, .inl a_terms_shapes_f))]) hP hD hS hA [10, 11] (by decide) rfl
    refine va_calli (va_runV (As := [.int right]) (rest := []) ⟨hx, hb, hml, hown, hg⟩ (c_Terms_isVariable l g cs ka a_terms_values a_terms_firstParts a_terms_parts a_terms_variableNames a_terms_became a_terms a_terms_shapes H.size right a_terms_nodes a_terms_variables a_terms_variablesLack a_terms_symbols a_terms_nodesBefore a_terms_partsBefore a_terms_variablesBefore a_terms_shapes_n a_terms_shapes_f r3 hc3) (cwV (C := R_Terms) 1 hg (gw_V wd_342 wd_343 wd_344 wd_264 wd_341) rfl rfl rfl (by decide +kernel) ⟨Nat.le_of_ble_eq_true rfl, Nat.le_of_ble_eq_true rfl⟩) ⟨gP_blind, va_recv (q0 := 10) (ci := 7) (q := (R_Terms, F_Terms, 13)) hK hP rfl rfl, gP_pre hPc hDc hK hgl hkn hkr hS hFc⟩ rfl rfl hl.1 rfl (lv_room (Nat.le_of_ble_eq_true rfl)) d_Unifier_joinRoots_24 ⟨show 0 + 0 + 0 ≤ mc from by omega, show 0 + 0 + 0 ≤ ms from by omega⟩) hS (fun q _ h => hFc q h) hFc (fun r3' u t H locs ht hvm hr3 hB hz1 hk1 hS => ?_)
    subst hr3
    rw [ht] at hB
    obtain ⟨hP1, hD1⟩ := hB
    obtain ⟨hP, hD⟩ := jn_A hP hD [10, 11] [0, 1, 2, 3, 4, 5, 6, 7, 8, 9] rfl rfl (by decide) (by decide) hk1 hFc hP1 hD1
    obtain ⟨hP, hD⟩ : PD g A H [(a, .inr (8, [.ref a_terms, .ref a_links, .ref a_states, .ref a_pairs, .ref a_joined, .ref a_seen, .ref a_path])), (a_terms_values, .inl (cs 2, a_terms_values_n, .inr (.inl a_terms_values_f))), (a_terms_firstParts, .inl (cs 0, a_terms_firstParts_n, .inl a_terms_firstParts_f)), (a_terms_parts, .inr (1, [.ref a_terms_parts_items, .int a_terms_parts_size])), (a_terms_parts_items, .inl (cs 0, a_terms_parts_items_n, .inl a_terms_parts_items_f)), (a_links, .inl (cs 0, a_links_n, .inl a_links_f)), (a_pairs, .inr (1, [.ref a_pairs_items, .int a_pairs_size])), (a_pairs_items, .inl (cs 0, a_pairs_items_n, .inl a_pairs_items_f)), (a_joined, .inr (1, [.ref a_joined_items, .int a_joined_size])), (a_joined_items, .inl (cs 0, a_joined_items_n, .inl a_joined_items_f)), (a_terms, .inr (7, [.ref a_terms_shapes, .ref a_terms_values, .ref a_terms_firstParts, .int a_terms_nodes, .ref a_terms_parts, .ref a_terms_variableNames, .ref a_terms_became, .int a_terms_variables, .int a_terms_variablesLack, .int a_terms_symbols, .int a_terms_nodesBefore, .int a_terms_partsBefore, .int a_terms_variablesBefore])), (a_terms_shapes, .inl (cs 0, a_terms_shapes_n, .inl a_terms_shapes_f))] := ⟨hP, hD⟩
    refine lv_if_eq hx hb d_Unifier_joinRoots_27 rfl (fun h4 => ?_) (fun h4 => ?_)
    · rw [if_pos h4] at hok
      refine lv_aload_n hx hb d_Unifier_joinRoots_38 rfl (lv_at hl 0 rfl) ?_
      refine va_get (D := g) (ci := 8) (v := .ref a_terms) (C := R_Unifier) (T := F_Unifier) (N := 7) hx hb hg ul_Unifier hown hK hP 0 rfl rfl 0 (by decide) (hg _ wd_327) (fun _ h9 => h9) rfl d_Unifier_joinRoots_39 ?_
      refine lv_iload_n hx hb d_Unifier_joinRoots_42 rfl (lv_at hl 1 rfl) ?_
      refine lv_iload_n hx hb d_Unifier_joinRoots_43 rfl (lv_at hl 2 rfl) ?_
      obtain ⟨r5, hc5, hok⟩ := bd_some hok
      obtain ⟨hPc, hDc, hFc⟩ := cut0 (wc := [(a_terms, .inr (7, [.ref a_terms_shapes, .ref a_terms_values, .ref a_terms_firstParts, .int a_terms_nodes, .ref a_terms_parts, .ref a_terms_variableNames, .ref a_terms_became, .int a_terms_variables, .int a_terms_variablesLack, .int a_terms_symbols, .int a_terms_nodesBefore, .int a_terms_partsBefore, .int a_terms_variablesBefore])), (a_terms_shapes, .inl (cs 0, a_terms_shapes_n, .inl a_terms_shapes_f)), (a_terms_values, .inl (cs 2, a_terms_values_n, .inr (.inl a_terms_values_f)))]) hP hD hS hA [10, 11, 1] (by decide) rfl
      refine va_calli (va_runV (As := [.int left, .int right]) (rest := []) ⟨hx, hb, hml, hown, hg⟩ (c_Terms_areAlike l g cs ka a_terms_firstParts a_terms_parts a_terms_variableNames a_terms_became a_terms a_terms_shapes a_terms_values H.size left right a_terms_nodes a_terms_variables a_terms_variablesLack a_terms_symbols a_terms_nodesBefore a_terms_partsBefore a_terms_variablesBefore a_terms_shapes_n a_terms_shapes_f a_terms_values_n a_terms_values_f r5 hc5) (cwV (C := R_Terms) 2 hg (gw_V wd_346 wd_347 wd_348 wd_264 wd_345) rfl rfl rfl (by decide +kernel) ⟨Nat.le_of_ble_eq_true rfl, Nat.le_of_ble_eq_true rfl⟩) ⟨gP_blind, va_recv (q0 := 10) (ci := 7) (q := (R_Terms, F_Terms, 13)) hK hP rfl rfl, gP_pre hPc hDc hK hgl hkn hkr hS hFc⟩ rfl rfl hl.1 rfl (lv_room (Nat.le_of_ble_eq_true rfl)) d_Unifier_joinRoots_44 ⟨show 0 + 0 + 0 + 0 ≤ mc from by omega, show 0 + 0 + 0 + 0 ≤ ms from by omega⟩) hS (fun q _ h => hFc q h) hFc (fun r5' u t H locs ht hvm hr5 hB hz1 hk1 hS => ?_)
      subst hr5
      rw [ht] at hB
      obtain ⟨hP1, hD1⟩ := hB
      obtain ⟨hP, hD⟩ := jn_A hP hD [10, 11, 1] [0, 2, 3, 4, 5, 6, 7, 8, 9] rfl rfl (by decide) (by decide) hk1 hFc hP1 hD1
      obtain ⟨hP, hD⟩ : PD g A H [(a, .inr (8, [.ref a_terms, .ref a_links, .ref a_states, .ref a_pairs, .ref a_joined, .ref a_seen, .ref a_path])), (a_terms_firstParts, .inl (cs 0, a_terms_firstParts_n, .inl a_terms_firstParts_f)), (a_terms_parts, .inr (1, [.ref a_terms_parts_items, .int a_terms_parts_size])), (a_terms_parts_items, .inl (cs 0, a_terms_parts_items_n, .inl a_terms_parts_items_f)), (a_links, .inl (cs 0, a_links_n, .inl a_links_f)), (a_pairs, .inr (1, [.ref a_pairs_items, .int a_pairs_size])), (a_pairs_items, .inl (cs 0, a_pairs_items_n, .inl a_pairs_items_f)), (a_joined, .inr (1, [.ref a_joined_items, .int a_joined_size])), (a_joined_items, .inl (cs 0, a_joined_items_n, .inl a_joined_items_f)), (a_terms, .inr (7, [.ref a_terms_shapes, .ref a_terms_values, .ref a_terms_firstParts, .int a_terms_nodes, .ref a_terms_parts, .ref a_terms_variableNames, .ref a_terms_became, .int a_terms_variables, .int a_terms_variablesLack, .int a_terms_symbols, .int a_terms_nodesBefore, .int a_terms_partsBefore, .int a_terms_variablesBefore])), (a_terms_shapes, .inl (cs 0, a_terms_shapes_n, .inl a_terms_shapes_f)), (a_terms_values, .inl (cs 2, a_terms_values_n, .inr (.inl a_terms_values_f)))] := ⟨hP, hD⟩
      refine lv_if_ne hx hb d_Unifier_joinRoots_47 rfl (fun h6 => ?_) (fun h6 => ?_)
      · rw [if_neg h6] at hok
        refine lv_aload_n hx hb d_Unifier_joinRoots_52 rfl (lv_at hl 0 rfl) ?_
        refine lv_iload_n hx hb d_Unifier_joinRoots_53 rfl (lv_at hl 1 rfl) ?_
        refine lv_iload_n hx hb d_Unifier_joinRoots_54 rfl (lv_at hl 2 rfl) ?_
        obtain ⟨⟨⟨a_links_f_7, a_joined_size_7, a_joined_items_n_7, a_joined_items_f_7⟩, mk7, sk7⟩, hc7, hok⟩ := bd_some hok
        dsimp only at hok
        obtain ⟨m7, s7, hok, hmc7, hms7⟩ := al_some hok
        obtain ⟨hPc, hDc, hFc⟩ := cut0 (wc := [(a, .inr (8, [.ref a_terms, .ref a_links, .ref a_states, .ref a_pairs, .ref a_joined, .ref a_seen, .ref a_path])), (a_links, .inl (cs 0, a_links_n, .inl a_links_f)), (a_joined, .inr (1, [.ref a_joined_items, .int a_joined_size])), (a_joined_items, .inl (cs 0, a_joined_items_n, .inl a_joined_items_f))]) hP hD hS hA [0, 4, 7, 8] (by decide) rfl
        refine va_callv (va_runV (As := [.int left, .int right]) (rest := []) ⟨hx, hb, hml, hown, hg⟩ (c_Unifier_link l g cs ka a_terms a_states a_pairs a_seen a_path a a_links a_joined a_joined_items H.size left right a_links_n a_links_f a_joined_size a_joined_items_n a_joined_items_f a_links_f_7 a_joined_size_7 a_joined_items_n_7 a_joined_items_f_7 mk7 sk7 hc7) (cwV (C := R_Unifier) 2 hg (gw_V wd_351 wd_352 wd_353 wd_350 wd_349) rfl rfl rfl (by decide +kernel) ⟨Nat.le_of_ble_eq_true rfl, Nat.le_of_ble_eq_true rfl⟩) ⟨gP_blind, va_recv (q0 := 0) (ci := 8) (q := (R_Unifier, F_Unifier, 7)) hK hP rfl rfl, gP_pre hPc hDc hK hgl hkn hkr hS hFc⟩ rfl rfl hl.1 rfl (lv_room (Nat.le_of_ble_eq_true rfl)) d_Unifier_joinRoots_55 ⟨show 0 + 0 + 0 + 0 + mk7 ≤ mc from by omega, show 0 + 0 + 0 + 0 + sk7 ≤ ms from by omega⟩) hS (fun q _ h => hFc q h) hFc (fun u t H locs ht hvm hr7 hB hz1 hk1 hS => ?_)
        rw [ht] at hB
        obtain ⟨a_joined_items_7, hP1, hD1⟩ := hB
        obtain ⟨hP, hD⟩ := jn_A hP hD [0, 4, 7, 8] [1, 2, 3, 5, 6, 9, 10, 11] rfl rfl (by decide) (by decide) hk1 hFc hP1 hD1
        obtain ⟨hP, hD⟩ : PD g A H [(a_terms_firstParts, .inl (cs 0, a_terms_firstParts_n, .inl a_terms_firstParts_f)), (a_terms_parts, .inr (1, [.ref a_terms_parts_items, .int a_terms_parts_size])), (a_terms_parts_items, .inl (cs 0, a_terms_parts_items_n, .inl a_terms_parts_items_f)), (a_pairs, .inr (1, [.ref a_pairs_items, .int a_pairs_size])), (a_pairs_items, .inl (cs 0, a_pairs_items_n, .inl a_pairs_items_f)), (a_terms, .inr (7, [.ref a_terms_shapes, .ref a_terms_values, .ref a_terms_firstParts, .int a_terms_nodes, .ref a_terms_parts, .ref a_terms_variableNames, .ref a_terms_became, .int a_terms_variables, .int a_terms_variablesLack, .int a_terms_symbols, .int a_terms_nodesBefore, .int a_terms_partsBefore, .int a_terms_variablesBefore])), (a_terms_shapes, .inl (cs 0, a_terms_shapes_n, .inl a_terms_shapes_f)), (a_terms_values, .inl (cs 2, a_terms_values_n, .inr (.inl a_terms_values_f))), (a, .inr (8, [.ref a_terms, .ref a_links, .ref a_states, .ref a_pairs, .ref a_joined, .ref a_seen, .ref a_path])), (a_links, .inl (cs 0, a_links_n, .inl a_links_f_7)), (a_joined, .inr (1, [.ref a_joined_items_7, .int a_joined_size_7])), (a_joined_items_7, .inl (cs 0, a_joined_items_n_7, .inl a_joined_items_f_7))] := ⟨hP, hD⟩
        refine lv_aload_n hx hb d_Unifier_joinRoots_58 rfl (lv_at hl 0 rfl) ?_
        refine va_get (D := g) (ci := 8) (v := .ref a_terms) (C := R_Unifier) (T := F_Unifier) (N := 7) hx hb hg ul_Unifier hown hK hP 8 rfl rfl 0 (by decide) (hg _ wd_327) (fun _ h9 => h9) rfl d_Unifier_joinRoots_59 ?_
        refine lv_iload_n hx hb d_Unifier_joinRoots_62 rfl (lv_at hl 1 rfl) ?_
        obtain ⟨r8, hc8, hok⟩ := bd_some hok
        obtain ⟨hPc, hDc, hFc⟩ := cut0 (wc := [(a_terms, .inr (7, [.ref a_terms_shapes, .ref a_terms_values, .ref a_terms_firstParts, .int a_terms_nodes, .ref a_terms_parts, .ref a_terms_variableNames, .ref a_terms_became, .int a_terms_variables, .int a_terms_variablesLack, .int a_terms_symbols, .int a_terms_nodesBefore, .int a_terms_partsBefore, .int a_terms_variablesBefore])), (a_terms_shapes, .inl (cs 0, a_terms_shapes_n, .inl a_terms_shapes_f))]) hP hD hS hA [5, 6] (by decide) rfl
        refine va_calli (va_runV (As := [.int left]) (rest := []) ⟨hx, hb, hml, hown, hg⟩ (c_Terms_partsOf l g cs ka a_terms_values a_terms_firstParts a_terms_parts a_terms_variableNames a_terms_became a_terms a_terms_shapes H.size left a_terms_nodes a_terms_variables a_terms_variablesLack a_terms_symbols a_terms_nodesBefore a_terms_partsBefore a_terms_variablesBefore a_terms_shapes_n a_terms_shapes_f r8 hc8) (cwV (C := R_Terms) 1 hg (gw_V wd_355 wd_356 wd_357 wd_264 wd_354) rfl rfl rfl (by decide +kernel) ⟨Nat.le_of_ble_eq_true rfl, Nat.le_of_ble_eq_true rfl⟩) ⟨gP_blind, va_recv (q0 := 5) (ci := 7) (q := (R_Terms, F_Terms, 13)) hK hP rfl rfl, gP_pre hPc hDc hK hgl hkn hkr hS hFc⟩ rfl rfl hl.1 rfl (lv_room (Nat.le_of_ble_eq_true rfl)) d_Unifier_joinRoots_63 ⟨show 0 + 0 + 0 + 0 + mk7 + 0 ≤ mc from by omega, show 0 + 0 + 0 + 0 + sk7 + 0 ≤ ms from by omega⟩) hS (fun q _ h => hFc q h) hFc (fun r8' u t H locs ht hvm hr8 hB hz1 hk1 hS => ?_)
        subst hr8
        rw [ht] at hB
        obtain ⟨hP1, hD1⟩ := hB
        obtain ⟨hP, hD⟩ := jn_A hP hD [5, 6] [0, 1, 2, 3, 4, 7, 8, 9, 10, 11] rfl rfl (by decide) (by decide) hk1 hFc hP1 hD1
        obtain ⟨hP, hD⟩ : PD g A H [(a_terms_firstParts, .inl (cs 0, a_terms_firstParts_n, .inl a_terms_firstParts_f)), (a_terms_parts, .inr (1, [.ref a_terms_parts_items, .int a_terms_parts_size])), (a_terms_parts_items, .inl (cs 0, a_terms_parts_items_n, .inl a_terms_parts_items_f)), (a_pairs, .inr (1, [.ref a_pairs_items, .int a_pairs_size])), (a_pairs_items, .inl (cs 0, a_pairs_items_n, .inl a_pairs_items_f)), (a_terms_values, .inl (cs 2, a_terms_values_n, .inr (.inl a_terms_values_f))), (a, .inr (8, [.ref a_terms, .ref a_links, .ref a_states, .ref a_pairs, .ref a_joined, .ref a_seen, .ref a_path])), (a_links, .inl (cs 0, a_links_n, .inl a_links_f_7)), (a_joined, .inr (1, [.ref a_joined_items_7, .int a_joined_size_7])), (a_joined_items_7, .inl (cs 0, a_joined_items_n_7, .inl a_joined_items_f_7)), (a_terms, .inr (7, [.ref a_terms_shapes, .ref a_terms_values, .ref a_terms_firstParts, .int a_terms_nodes, .ref a_terms_parts, .ref a_terms_variableNames, .ref a_terms_became, .int a_terms_variables, .int a_terms_variablesLack, .int a_terms_symbols, .int a_terms_nodesBefore, .int a_terms_partsBefore, .int a_terms_variablesBefore])), (a_terms_shapes, .inl (cs 0, a_terms_shapes_n, .inl a_terms_shapes_f))] := ⟨hP, hD⟩
        refine lv_iconst (v := 1) hx hb d_Unifier_joinRoots_66 (by decide) ?_
        refine lv_isub hx hb d_Unifier_joinRoots_67 ?_
        refine lv_istore hx hb d_Unifier_joinRoots_68 hl (by decide) rfl (fun ls hl => ?_)
        have hl : lv_has ls 5 [(4, .int (r8 - 1)), (0, .ref a), (1, .int left), (2, .int right), (3, .int mayBind)] := hl
        have J9 : ∀ (kf9 : Nat) (H : Heap) (locs : List Loc) (ls : Array Slot) (cells9 slots9 mr9 sr9 : Nat) (a_pairs_items_9 : Nat) (x4_9 : Int32) (a_pairs_size_9 : Int32) (a_pairs_items_9n : Nat) (a_pairs_items_9f : Nat → Int32), lv_has ls 5 [(4, .int x4_9), (0, .ref a), (1, .int left), (2, .int right), (3, .int mayBind)] → PD g A H [(a_terms_firstParts, .inl (cs 0, a_terms_firstParts_n, .inl a_terms_firstParts_f)), (a_terms_parts, .inr (1, [.ref a_terms_parts_items, .int a_terms_parts_size])), (a_terms_parts_items, .inl (cs 0, a_terms_parts_items_n, .inl a_terms_parts_items_f)), (a_pairs, .inr (1, [.ref a_pairs_items_9, .int a_pairs_size_9])), (a_pairs_items_9, .inl (cs 0, a_pairs_items_9n, .inl a_pairs_items_9f)), (a_terms_values, .inl (cs 2, a_terms_values_n, .inr (.inl a_terms_values_f))), (a, .inr (8, [.ref a_terms, .ref a_links, .ref a_states, .ref a_pairs, .ref a_joined, .ref a_seen, .ref a_path])), (a_links, .inl (cs 0, a_links_n, .inl a_links_f_7)), (a_joined, .inr (1, [.ref a_joined_items_7, .int a_joined_size_7])), (a_joined_items_7, .inl (cs 0, a_joined_items_n_7, .inl a_joined_items_f_7)), (a_terms, .inr (7, [.ref a_terms_shapes, .ref a_terms_values, .ref a_terms_firstParts, .int a_terms_nodes, .ref a_terms_parts, .ref a_terms_variableNames, .ref a_terms_became, .int a_terms_variables, .int a_terms_variablesLack, .int a_terms_symbols, .int a_terms_nodesBefore, .int a_terms_partsBefore, .int a_terms_variablesBefore])), (a_terms_shapes, .inl (cs 0, a_terms_shapes_n, .inl a_terms_shapes_f))] → va_S A s.heap H locs → cells9 + mr9 = mc → slots9 + sr9 = ms → p_Unifier_joinRoots_70 n left right a_terms_nodes a_terms_variables a_terms_variablesLack a_terms_symbols a_terms_nodesBefore a_terms_partsBefore a_terms_variablesBefore a_terms_firstParts_n a_terms_firstParts_f a_terms_parts_size a_terms_parts_items_n a_terms_parts_items_f a_links_f_7 a_joined_size_7 a_joined_items_n_7 a_joined_items_f_7 kf9 x4_9 a_pairs_size_9 a_pairs_items_9n a_pairs_items_9f = some ((r, o_a_links_f, o_a_pairs_size, o_a_pairs_items_n, o_a_pairs_items_f, o_a_joined_size, o_a_joined_items_n, o_a_joined_items_f), mr9, sr9) → W p l e (headSpec (.code y_Unifier_joinRoots b_Unifier_joinRoots 5 (some .boolean) :: GW) { frames := 4, cells := mc, slots := ms, locals := 165 }).room s m ([.ref a, .int left, .int right, .int mayBind] : List Value).toArray below meth c H locs cells9 slots9 Q (F0 m 70 ls []) := by
          intro kf9
          induction kf9 with
          | zero => intro H locs ls cells9 slots9 mr9 sr9 a_pairs_items_9 x4_9 a_pairs_size_9 a_pairs_items_9n a_pairs_items_9f hl ⟨hP, hD⟩ hS hmr9 hsr9 hok; rw [p_Unifier_joinRoots_70] at hok; cases hok
          | succ kf9 ih9 =>
            intro H locs ls cells9 slots9 mr9 sr9 a_pairs_items_9 x4_9 a_pairs_size_9 a_pairs_items_9n a_pairs_items_9f hl ⟨hP, hD⟩ hS hmr9 hsr9 hok
            rw [p_Unifier_joinRoots_70] at hok
            refine lv_iload hx hb d_Unifier_joinRoots_70 (lv_at hl 0 rfl) ?_
            refine lv_if_lt hx hb d_Unifier_joinRoots_72 rfl (fun h10 => ?_) (fun h10 => ?_)
            · rw [if_pos h10] at hok
              refine lv_iconst (v := 1) hx hb d_Unifier_joinRoots_115 (by decide) ?_
              obtain ⟨hq, hw⟩ := Prod.mk.inj (Option.some.inj hok)
              obtain ⟨hmc0, hms0⟩ := Prod.mk.inj hw
              obtain ⟨hq0, hq⟩ := Prod.mk.inj hq
              obtain ⟨hq1, hq⟩ := Prod.mk.inj hq
              obtain ⟨hq2, hq⟩ := Prod.mk.inj hq
              obtain ⟨hq3, hq⟩ := Prod.mk.inj hq
              obtain ⟨hq4, hq⟩ := Prod.mk.inj hq
              obtain ⟨hq5, hq⟩ := Prod.mk.inj hq
              obtain ⟨hq6, hq⟩ := Prod.mk.inj hq
              have hq7 := hq
              subst hq0
              subst hq1
              subst hq2
              subst hq3
              subst hq4
              subst hq5
              subst hq6
              subst hq7
              obtain ⟨hP9, hD9⟩ := sub2 (ws' := [(a, .inr (8, [.ref a_terms, .ref a_links, .ref a_states, .ref a_pairs, .ref a_joined, .ref a_seen, .ref a_path])), (a_terms, .inr (7, [.ref a_terms_shapes, .ref a_terms_values, .ref a_terms_firstParts, .int a_terms_nodes, .ref a_terms_parts, .ref a_terms_variableNames, .ref a_terms_became, .int a_terms_variables, .int a_terms_variablesLack, .int a_terms_symbols, .int a_terms_nodesBefore, .int a_terms_partsBefore, .int a_terms_variablesBefore])), (a_terms_shapes, .inl (cs 0, a_terms_shapes_n, .inl a_terms_shapes_f)), (a_terms_values, .inl (cs 2, a_terms_values_n, .inr (.inl a_terms_values_f))), (a_terms_firstParts, .inl (cs 0, a_terms_firstParts_n, .inl a_terms_firstParts_f)), (a_terms_parts, .inr (1, [.ref a_terms_parts_items, .int a_terms_parts_size])), (a_terms_parts_items, .inl (cs 0, a_terms_parts_items_n, .inl a_terms_parts_items_f)), (a_links, .inl (cs 0, a_links_n, .inl a_links_f_7)), (a_pairs, .inr (1, [.ref a_pairs_items_9, .int a_pairs_size_9])), (a_pairs_items_9, .inl (cs 0, a_pairs_items_9n, .inl a_pairs_items_9f)), (a_joined, .inr (1, [.ref a_joined_items_7, .int a_joined_size_7])), (a_joined_items_7, .inl (cs 0, a_joined_items_n_7, .inl a_joined_items_f_7))]) hP hD [6, 10, 11, 5, 0, 1, 2, 7, 3, 4, 8, 9] rfl (by decide) rfl
              refine W.widen (k := mc) (n := ms) (by omega) (by omega) ?_
              rw [hQ]
              exact W.zret (v := 1) hx hb hr rfl (fun t ht hW => ⟨⟨_, (), rfl, rfl, a_pairs_items_9, a_joined_items_7, by rw [ht]; exact hP9, hD9⟩, hS.F ht⟩) hS.2.2 d_Unifier_joinRoots_116
            · rw [if_neg h10] at hok
              refine lv_aload_n hx hb d_Unifier_joinRoots_75 rfl (lv_at hl 1 rfl) ?_
              refine va_get (D := g) (ci := 8) (v := .ref a_pairs) (C := R_Unifier) (T := F_Unifier) (N := 7) hx hb hg ul_Unifier hown hK hP 6 rfl rfl 3 (by decide) (hg _ wd_323) (fun _ h9 => h9) rfl d_Unifier_joinRoots_76 ?_
              refine lv_aload_n hx hb d_Unifier_joinRoots_79 rfl (lv_at hl 1 rfl) ?_
              refine va_get (D := g) (ci := 8) (v := .ref a_terms) (C := R_Unifier) (T := F_Unifier) (N := 7) hx hb hg ul_Unifier hown hK hP 6 rfl rfl 0 (by decide) (hg _ wd_327) (fun _ h9 => h9) rfl d_Unifier_joinRoots_80 ?_
              refine lv_iload_n hx hb d_Unifier_joinRoots_83 rfl (lv_at hl 2 rfl) ?_
              refine lv_iload hx hb d_Unifier_joinRoots_84 (lv_at hl 0 rfl) ?_
              obtain ⟨r11, hc11, hok⟩ := bd_some hok
              obtain ⟨hPc, hDc, hFc⟩ := cut0 (wc := [(a_terms, .inr (7, [.ref a_terms_shapes, .ref a_terms_values, .ref a_terms_firstParts, .int a_terms_nodes, .ref a_terms_parts, .ref a_terms_variableNames, .ref a_terms_became, .int a_terms_variables, .int a_terms_variablesLack, .int a_terms_symbols, .int a_terms_nodesBefore, .int a_terms_partsBefore, .int a_terms_variablesBefore])), (a_terms_firstParts, .inl (cs 0, a_terms_firstParts_n, .inl a_terms_firstParts_f)), (a_terms_parts, .inr (1, [.ref a_terms_parts_items, .int a_terms_parts_size])), (a_terms_parts_items, .inl (cs 0, a_terms_parts_items_n, .inl a_terms_parts_items_f))]) hP hD hS hA [10, 0, 1, 2] (by decide) rfl
              refine va_calli (va_runV (As := [.int left, .int x4_9]) (rest := [.ref a_pairs]) ⟨hx, hb, hml, hown, hg⟩ (c_Terms_partAt l g cs ka a_terms_shapes a_terms_values a_terms_variableNames a_terms_became a_terms a_terms_firstParts a_terms_parts a_terms_parts_items H.size left x4_9 a_terms_nodes a_terms_variables a_terms_variablesLack a_terms_symbols a_terms_nodesBefore a_terms_partsBefore a_terms_variablesBefore a_terms_firstParts_n a_terms_firstParts_f a_terms_parts_size a_terms_parts_items_n a_terms_parts_items_f r11 hc11) (cwV (C := R_Terms) 2 hg (gw_V wd_359 wd_360 wd_361 wd_264 wd_358) rfl rfl rfl (by decide +kernel) ⟨Nat.le_of_ble_eq_true rfl, Nat.le_of_ble_eq_true rfl⟩) ⟨gP_blind, va_recv (q0 := 10) (ci := 7) (q := (R_Terms, F_Terms, 13)) hK hP rfl rfl, gP_pre hPc hDc hK hgl hkn hkr hS hFc⟩ rfl rfl hl.1 rfl (lv_room (Nat.le_of_ble_eq_true rfl)) d_Unifier_joinRoots_86 ⟨show cells9 + 0 ≤ mc from by omega, show slots9 + 0 ≤ ms from by omega⟩) hS (fun q _ h => hFc q h) hFc (fun r11' u t H locs ht hvm hr11 hB hz1 hk1 hS => ?_)
              subst hr11
              rw [ht] at hB
              obtain ⟨hP1, hD1⟩ := hB
              obtain ⟨hP, hD⟩ := jn_A hP hD [10, 0, 1, 2] [3, 4, 5, 6, 7, 8, 9, 11] rfl rfl (by decide) (by decide) hk1 hFc hP1 hD1
              obtain ⟨hP, hD⟩ : PD g A H [(a_pairs, .inr (1, [.ref a_pairs_items_9, .int a_pairs_size_9])), (a_pairs_items_9, .inl (cs 0, a_pairs_items_9n, .inl a_pairs_items_9f)), (a_terms_values, .inl (cs 2, a_terms_values_n, .inr (.inl a_terms_values_f))), (a, .inr (8, [.ref a_terms, .ref a_links, .ref a_states, .ref a_pairs, .ref a_joined, .ref a_seen, .ref a_path])), (a_links, .inl (cs 0, a_links_n, .inl a_links_f_7)), (a_joined, .inr (1, [.ref a_joined_items_7, .int a_joined_size_7])), (a_joined_items_7, .inl (cs 0, a_joined_items_n_7, .inl a_joined_items_f_7)), (a_terms_shapes, .inl (cs 0, a_terms_shapes_n, .inl a_terms_shapes_f)), (a_terms, .inr (7, [.ref a_terms_shapes, .ref a_terms_values, .ref a_terms_firstParts, .int a_terms_nodes, .ref a_terms_parts, .ref a_terms_variableNames, .ref a_terms_became, .int a_terms_variables, .int a_terms_variablesLack, .int a_terms_symbols, .int a_terms_nodesBefore, .int a_terms_partsBefore, .int a_terms_variablesBefore])), (a_terms_firstParts, .inl (cs 0, a_terms_firstParts_n, .inl a_terms_firstParts_f)), (a_terms_parts, .inr (1, [.ref a_terms_parts_items, .int a_terms_parts_size])), (a_terms_parts_items, .inl (cs 0, a_terms_parts_items_n, .inl a_terms_parts_items_f))] := ⟨hP, hD⟩
              obtain ⟨⟨⟨a_size_12, a_items_n_12, a_items_f_12⟩, mk12, sk12⟩, hc12, hok⟩ := bd_some hok
              dsimp only at hok
              obtain ⟨m12, s12, hok, hmc12, hms12⟩ := al_some hok
              obtain ⟨hPc, hDc, hFc⟩ := cut0 (wc := [(a_pairs, .inr (1, [.ref a_pairs_items_9, .int a_pairs_size_9])), (a_pairs_items_9, .inl (cs 0, a_pairs_items_9n, .inl a_pairs_items_9f))]) hP hD hS hA [0, 1] (by decide) rfl
              refine va_callv (va_runV (As := [.int r11]) (rest := []) ⟨hx, hb, hml, hown, hg⟩ (c_Ints_push l g cs ka a_pairs a_pairs_items_9 H.size r11 a_pairs_size_9 a_pairs_items_9n a_pairs_items_9f a_size_12 a_items_n_12 a_items_f_12 mk12 sk12 hc12) (cwV (C := R_Ints) 1 hg (gw_V wd_335 wd_274 wd_275 wd_234 wd_272) rfl rfl rfl (by decide +kernel) ⟨Nat.le_of_ble_eq_true rfl, Nat.le_of_ble_eq_true rfl⟩) ⟨gP_blind, va_recv (q0 := 0) (ci := 1) (q := (R_Ints, F_Ints, 2)) hK hP rfl rfl, gP_pre hPc hDc hK hgl hkn hkr hS hFc⟩ rfl rfl hl.1 rfl (lv_room (Nat.le_of_ble_eq_true rfl)) d_Unifier_joinRoots_89 ⟨show cells9 + 0 + mk12 ≤ mc from by omega, show slots9 + 0 + sk12 ≤ ms from by omega⟩) hS (fun q _ h => hFc q h) hFc (fun u t H locs ht hvm hr12 hB hz1 hk1 hS => ?_)
              rw [ht] at hB
              obtain ⟨a_items_12, hP1, hD1⟩ := hB
              obtain ⟨hP, hD⟩ := jn_A hP hD [0, 1] [2, 3, 4, 5, 6, 7, 8, 9, 10, 11] rfl rfl (by decide) (by decide) hk1 hFc hP1 hD1
              obtain ⟨hP, hD⟩ : PD g A H [(a_terms_values, .inl (cs 2, a_terms_values_n, .inr (.inl a_terms_values_f))), (a, .inr (8, [.ref a_terms, .ref a_links, .ref a_states, .ref a_pairs, .ref a_joined, .ref a_seen, .ref a_path])), (a_links, .inl (cs 0, a_links_n, .inl a_links_f_7)), (a_joined, .inr (1, [.ref a_joined_items_7, .int a_joined_size_7])), (a_joined_items_7, .inl (cs 0, a_joined_items_n_7, .inl a_joined_items_f_7)), (a_terms_shapes, .inl (cs 0, a_terms_shapes_n, .inl a_terms_shapes_f)), (a_terms, .inr (7, [.ref a_terms_shapes, .ref a_terms_values, .ref a_terms_firstParts, .int a_terms_nodes, .ref a_terms_parts, .ref a_terms_variableNames, .ref a_terms_became, .int a_terms_variables, .int a_terms_variablesLack, .int a_terms_symbols, .int a_terms_nodesBefore, .int a_terms_partsBefore, .int a_terms_variablesBefore])), (a_terms_firstParts, .inl (cs 0, a_terms_firstParts_n, .inl a_terms_firstParts_f)), (a_terms_parts, .inr (1, [.ref a_terms_parts_items, .int a_terms_parts_size])), (a_terms_parts_items, .inl (cs 0, a_terms_parts_items_n, .inl a_terms_parts_items_f)), (a_pairs, .inr (1, [.ref a_items_12, .int a_size_12])), (a_items_12, .inl (cs 0, a_items_n_12, .inl a_items_f_12))] := ⟨hP, hD⟩
              refine lv_aload_n hx hb d_Unifier_joinRoots_92 rfl (lv_at hl 1 rfl) ?_
              refine va_get (D := g) (ci := 8) (v := .ref a_pairs) (C := R_Unifier) (T := F_Unifier) (N := 7) hx hb hg ul_Unifier hown hK hP 1 rfl rfl 3 (by decide) (hg _ wd_323) (fun _ h9 => h9) rfl d_Unifier_joinRoots_93 ?_
              refine lv_aload_n hx hb d_Unifier_joinRoots_96 rfl (lv_at hl 1 rfl) ?_
              refine va_get (D := g) (ci := 8) (v := .ref a_terms) (C := R_Unifier) (T := F_Unifier) (N := 7) hx hb hg ul_Unifier hown hK hP 1 rfl rfl 0 (by decide) (hg _ wd_327) (fun _ h9 => h9) rfl d_Unifier_joinRoots_97 ?_
              refine lv_iload_n hx hb d_Unifier_joinRoots_100 rfl (lv_at hl 3 rfl) ?_
              refine lv_iload hx hb d_Unifier_joinRoots_101 (lv_at hl 0 rfl) ?_
              obtain ⟨r13, hc13, hok⟩ := bd_some hok
              obtain ⟨hPc, hDc, hFc⟩ := cut0 (wc := [(a_terms, .inr (7, [.ref a_terms_shapes, .ref a_terms_values, .ref a_terms_firstParts, .int a_terms_nodes, .ref a_terms_parts, .ref a_terms_variableNames, .ref a_terms_became, .int a_terms_variables, .int a_terms_variablesLack, .int a_terms_symbols, .int a_terms_nodesBefore, .int a_terms_partsBefore, .int a_terms_variablesBefore])), (a_terms_firstParts, .inl (cs 0, a_terms_firstParts_n, .inl a_terms_firstParts_f)), (a_terms_parts, .inr (1, [.ref a_terms_parts_items, .int a_terms_parts_size])), (a_terms_parts_items, .inl (cs 0, a_terms_parts_items_n, .inl a_terms_parts_items_f))]) hP hD hS hA [6, 7, 8, 9] (by decide) rfl
              refine va_calli (va_runV (As := [.int right, .int x4_9]) (rest := [.ref a_pairs]) ⟨hx, hb, hml, hown, hg⟩ (c_Terms_partAt l g cs ka a_terms_shapes a_terms_values a_terms_variableNames a_terms_became a_terms a_terms_firstParts a_terms_parts a_terms_parts_items H.size right x4_9 a_terms_nodes a_terms_variables a_terms_variablesLack a_terms_symbols a_terms_nodesBefore a_terms_partsBefore a_terms_variablesBefore a_terms_firstParts_n a_terms_firstParts_f a_terms_parts_size a_terms_parts_items_n a_terms_parts_items_f r13 hc13) (cwV (C := R_Terms) 2 hg (gw_V wd_359 wd_360 wd_361 wd_264 wd_358) rfl rfl rfl (by decide +kernel) ⟨Nat.le_of_ble_eq_true rfl, Nat.le_of_ble_eq_true rfl⟩) ⟨gP_blind, va_recv (q0 := 6) (ci := 7) (q := (R_Terms, F_Terms, 13)) hK hP rfl rfl, gP_pre hPc hDc hK hgl hkn hkr hS hFc⟩ rfl rfl hl.1 rfl (lv_room (Nat.le_of_ble_eq_true rfl)) d_Unifier_joinRoots_103 ⟨show cells9 + 0 + mk12 + 0 ≤ mc from by omega, show slots9 + 0 + sk12 + 0 ≤ ms from by omega⟩) hS (fun q _ h => hFc q h) hFc (fun r13' u t H locs ht hvm hr13 hB hz1 hk1 hS => ?_)
              subst hr13
              rw [ht] at hB
              obtain ⟨hP1, hD1⟩ := hB
              obtain ⟨hP, hD⟩ := jn_A hP hD [6, 7, 8, 9] [0, 1, 2, 3, 4, 5, 10, 11] rfl rfl (by decide) (by decide) hk1 hFc hP1 hD1
              obtain ⟨hP, hD⟩ : PD g A H [(a_terms_values, .inl (cs 2, a_terms_values_n, .inr (.inl a_terms_values_f))), (a, .inr (8, [.ref a_terms, .ref a_links, .ref a_states, .ref a_pairs, .ref a_joined, .ref a_seen, .ref a_path])), (a_links, .inl (cs 0, a_links_n, .inl a_links_f_7)), (a_joined, .inr (1, [.ref a_joined_items_7, .int a_joined_size_7])), (a_joined_items_7, .inl (cs 0, a_joined_items_n_7, .inl a_joined_items_f_7)), (a_terms_shapes, .inl (cs 0, a_terms_shapes_n, .inl a_terms_shapes_f)), (a_pairs, .inr (1, [.ref a_items_12, .int a_size_12])), (a_items_12, .inl (cs 0, a_items_n_12, .inl a_items_f_12)), (a_terms, .inr (7, [.ref a_terms_shapes, .ref a_terms_values, .ref a_terms_firstParts, .int a_terms_nodes, .ref a_terms_parts, .ref a_terms_variableNames, .ref a_terms_became, .int a_terms_variables, .int a_terms_variablesLack, .int a_terms_symbols, .int a_terms_nodesBefore, .int a_terms_partsBefore, .int a_terms_variablesBefore])), (a_terms_firstParts, .inl (cs 0, a_terms_firstParts_n, .inl a_terms_firstParts_f)), (a_terms_parts, .inr (1, [.ref a_terms_parts_items, .int a_terms_parts_size])), (a_terms_parts_items, .inl (cs 0, a_terms_parts_items_n, .inl a_terms_parts_items_f))] := ⟨hP, hD⟩
              obtain ⟨⟨⟨a_size_14, a_items_n_14, a_items_f_14⟩, mk14, sk14⟩, hc14, hok⟩ := bd_some hok
              dsimp only at hok
              obtain ⟨m14, s14, hok, hmc14, hms14⟩ := al_some hok
              obtain ⟨hPc, hDc, hFc⟩ := cut0 (wc := [(a_pairs, .inr (1, [.ref a_items_12, .int a_size_12])), (a_items_12, .inl (cs 0, a_items_n_12, .inl a_items_f_12))]) hP hD hS hA [6, 7] (by decide) rfl
              refine va_callv (va_runV (As := [.int r13]) (rest := []) ⟨hx, hb, hml, hown, hg⟩ (c_Ints_push l g cs ka a_pairs a_items_12 H.size r13 a_size_12 a_items_n_12 a_items_f_12 a_size_14 a_items_n_14 a_items_f_14 mk14 sk14 hc14) (cwV (C := R_Ints) 1 hg (gw_V wd_335 wd_274 wd_275 wd_234 wd_272) rfl rfl rfl (by decide +kernel) ⟨Nat.le_of_ble_eq_true rfl, Nat.le_of_ble_eq_true rfl⟩) ⟨gP_blind, va_recv (q0 := 6) (ci := 1) (q := (R_Ints, F_Ints, 2)) hK hP rfl rfl, gP_pre hPc hDc hK hgl hkn hkr hS hFc⟩ rfl rfl hl.1 rfl (lv_room (Nat.le_of_ble_eq_true rfl)) d_Unifier_joinRoots_106 ⟨show cells9 + 0 + mk12 + 0 + mk14 ≤ mc from by omega, show slots9 + 0 + sk12 + 0 + sk14 ≤ ms from by omega⟩) hS (fun q _ h => hFc q h) hFc (fun u t H locs ht hvm hr14 hB hz1 hk1 hS => ?_)
              rw [ht] at hB
              obtain ⟨a_items_14, hP1, hD1⟩ := hB
              obtain ⟨hP, hD⟩ := jn_A hP hD [6, 7] [0, 1, 2, 3, 4, 5, 8, 9, 10, 11] rfl rfl (by decide) (by decide) hk1 hFc hP1 hD1
              obtain ⟨hP, hD⟩ : PD g A H [(a_terms_values, .inl (cs 2, a_terms_values_n, .inr (.inl a_terms_values_f))), (a, .inr (8, [.ref a_terms, .ref a_links, .ref a_states, .ref a_pairs, .ref a_joined, .ref a_seen, .ref a_path])), (a_links, .inl (cs 0, a_links_n, .inl a_links_f_7)), (a_joined, .inr (1, [.ref a_joined_items_7, .int a_joined_size_7])), (a_joined_items_7, .inl (cs 0, a_joined_items_n_7, .inl a_joined_items_f_7)), (a_terms_shapes, .inl (cs 0, a_terms_shapes_n, .inl a_terms_shapes_f)), (a_terms, .inr (7, [.ref a_terms_shapes, .ref a_terms_values, .ref a_terms_firstParts, .int a_terms_nodes, .ref a_terms_parts, .ref a_terms_variableNames, .ref a_terms_became, .int a_terms_variables, .int a_terms_variablesLack, .int a_terms_symbols, .int a_terms_nodesBefore, .int a_terms_partsBefore, .int a_terms_variablesBefore])), (a_terms_firstParts, .inl (cs 0, a_terms_firstParts_n, .inl a_terms_firstParts_f)), (a_terms_parts, .inr (1, [.ref a_terms_parts_items, .int a_terms_parts_size])), (a_terms_parts_items, .inl (cs 0, a_terms_parts_items_n, .inl a_terms_parts_items_f)), (a_pairs, .inr (1, [.ref a_items_14, .int a_size_14])), (a_items_14, .inl (cs 0, a_items_n_14, .inl a_items_f_14))] := ⟨hP, hD⟩
              refine lv_iinc (k := 0) (v := x4_9 + (-1)) hx hb d_Unifier_joinRoots_109 hl rfl rfl (by decide) rfl (fun ls hl => ?_)
              have hl : lv_has ls 5 [(4, .int (x4_9 + (-1))), (0, .ref a), (1, .int left), (2, .int right), (3, .int mayBind)] := hl
              refine lv_goto hx hb d_Unifier_joinRoots_112 rfl ?_
              exact ih9 _ _ _ _ _ _ _ a_items_14 (x4_9 + (-1)) a_size_14 a_items_n_14 a_items_f_14 (lv_sub hl [0, 1, 2, 3, 4] rfl) (sub3 hP hD [7, 8, 9, 10, 11, 0, 1, 2, 3, 4, 6, 5] (by decide)) hS (by omega) (by omega) hok
        exact J9 n H locs ls _ _ _ _ a_pairs_items (r8 - 1) a_pairs_size a_pairs_items_n a_pairs_items_f hl ⟨hP, hD⟩ hS (by omega) (by omega) hok
      · rw [if_pos h6] at hok
        refine lv_iconst (v := 0) hx hb d_Unifier_joinRoots_50 (by decide) ?_
        obtain ⟨hq, hw⟩ := Prod.mk.inj (Option.some.inj hok)
        obtain ⟨hmc0, hms0⟩ := Prod.mk.inj hw
        obtain ⟨hq0, hq⟩ := Prod.mk.inj hq
        obtain ⟨hq1, hq⟩ := Prod.mk.inj hq
        obtain ⟨hq2, hq⟩ := Prod.mk.inj hq
        obtain ⟨hq3, hq⟩ := Prod.mk.inj hq
        obtain ⟨hq4, hq⟩ := Prod.mk.inj hq
        obtain ⟨hq5, hq⟩ := Prod.mk.inj hq
        obtain ⟨hq6, hq⟩ := Prod.mk.inj hq
        have hq7 := hq
        subst hq0
        subst hq1
        subst hq2
        subst hq3
        subst hq4
        subst hq5
        subst hq6
        subst hq7
        obtain ⟨hP9, hD9⟩ := sub2 (ws' := [(a, .inr (8, [.ref a_terms, .ref a_links, .ref a_states, .ref a_pairs, .ref a_joined, .ref a_seen, .ref a_path])), (a_terms, .inr (7, [.ref a_terms_shapes, .ref a_terms_values, .ref a_terms_firstParts, .int a_terms_nodes, .ref a_terms_parts, .ref a_terms_variableNames, .ref a_terms_became, .int a_terms_variables, .int a_terms_variablesLack, .int a_terms_symbols, .int a_terms_nodesBefore, .int a_terms_partsBefore, .int a_terms_variablesBefore])), (a_terms_shapes, .inl (cs 0, a_terms_shapes_n, .inl a_terms_shapes_f)), (a_terms_values, .inl (cs 2, a_terms_values_n, .inr (.inl a_terms_values_f))), (a_terms_firstParts, .inl (cs 0, a_terms_firstParts_n, .inl a_terms_firstParts_f)), (a_terms_parts, .inr (1, [.ref a_terms_parts_items, .int a_terms_parts_size])), (a_terms_parts_items, .inl (cs 0, a_terms_parts_items_n, .inl a_terms_parts_items_f)), (a_links, .inl (cs 0, a_links_n, .inl a_links_f)), (a_pairs, .inr (1, [.ref a_pairs_items, .int a_pairs_size])), (a_pairs_items, .inl (cs 0, a_pairs_items_n, .inl a_pairs_items_f)), (a_joined, .inr (1, [.ref a_joined_items, .int a_joined_size])), (a_joined_items, .inl (cs 0, a_joined_items_n, .inl a_joined_items_f))]) hP hD [0, 9, 10, 11, 1, 2, 3, 4, 5, 6, 7, 8] rfl (by decide) rfl
        refine W.widen (k := mc) (n := ms) (by omega) (by omega) ?_
        rw [hQ]
        exact W.zret (v := 0) hx hb hr rfl (fun t ht hW => ⟨⟨_, (), rfl, rfl, a_pairs_items, a_joined_items, by rw [ht]; exact hP9, hD9⟩, hS.F ht⟩) hS.2.2 d_Unifier_joinRoots_51
    · rw [if_neg h4] at hok
      refine lv_aload_n hx hb d_Unifier_joinRoots_30 rfl (lv_at hl 0 rfl) ?_
      refine lv_iload_n hx hb d_Unifier_joinRoots_31 rfl (lv_at hl 2 rfl) ?_
      refine lv_iload_n hx hb d_Unifier_joinRoots_32 rfl (lv_at hl 1 rfl) ?_
      obtain ⟨⟨⟨a_links_f_15, a_joined_size_15, a_joined_items_n_15, a_joined_items_f_15⟩, mk15, sk15⟩, hc15, hok⟩ := bd_some hok
      dsimp only at hok
      obtain ⟨m15, s15, hok, hmc15, hms15⟩ := al_some hok
      obtain ⟨hPc, hDc, hFc⟩ := cut0 (wc := [(a, .inr (8, [.ref a_terms, .ref a_links, .ref a_states, .ref a_pairs, .ref a_joined, .ref a_seen, .ref a_path])), (a_links, .inl (cs 0, a_links_n, .inl a_links_f)), (a_joined, .inr (1, [.ref a_joined_items, .int a_joined_size])), (a_joined_items, .inl (cs 0, a_joined_items_n, .inl a_joined_items_f))]) hP hD hS hA [0, 5, 8, 9] (by decide) rfl
      refine va_callv (va_runV (As := [.int right, .int left]) (rest := []) ⟨hx, hb, hml, hown, hg⟩ (c_Unifier_link l g cs ka a_terms a_states a_pairs a_seen a_path a a_links a_joined a_joined_items H.size right left a_links_n a_links_f a_joined_size a_joined_items_n a_joined_items_f a_links_f_15 a_joined_size_15 a_joined_items_n_15 a_joined_items_f_15 mk15 sk15 hc15) (cwV (C := R_Unifier) 2 hg (gw_V wd_351 wd_352 wd_353 wd_350 wd_349) rfl rfl rfl (by decide +kernel) ⟨Nat.le_of_ble_eq_true rfl, Nat.le_of_ble_eq_true rfl⟩) ⟨gP_blind, va_recv (q0 := 0) (ci := 8) (q := (R_Unifier, F_Unifier, 7)) hK hP rfl rfl, gP_pre hPc hDc hK hgl hkn hkr hS hFc⟩ rfl rfl hl.1 rfl (lv_room (Nat.le_of_ble_eq_true rfl)) d_Unifier_joinRoots_33 ⟨show 0 + 0 + 0 + mk15 ≤ mc from by omega, show 0 + 0 + 0 + sk15 ≤ ms from by omega⟩) hS (fun q _ h => hFc q h) hFc (fun u t H locs ht hvm hr15 hB hz1 hk1 hS => ?_)
      rw [ht] at hB
      obtain ⟨a_joined_items_15, hP1, hD1⟩ := hB
      obtain ⟨hP, hD⟩ := jn_A hP hD [0, 5, 8, 9] [1, 2, 3, 4, 6, 7, 10, 11] rfl rfl (by decide) (by decide) hk1 hFc hP1 hD1
      obtain ⟨hP, hD⟩ : PD g A H [(a_terms_values, .inl (cs 2, a_terms_values_n, .inr (.inl a_terms_values_f))), (a_terms_firstParts, .inl (cs 0, a_terms_firstParts_n, .inl a_terms_firstParts_f)), (a_terms_parts, .inr (1, [.ref a_terms_parts_items, .int a_terms_parts_size])), (a_terms_parts_items, .inl (cs 0, a_terms_parts_items_n, .inl a_terms_parts_items_f)), (a_pairs, .inr (1, [.ref a_pairs_items, .int a_pairs_size])), (a_pairs_items, .inl (cs 0, a_pairs_items_n, .inl a_pairs_items_f)), (a_terms, .inr (7, [.ref a_terms_shapes, .ref a_terms_values, .ref a_terms_firstParts, .int a_terms_nodes, .ref a_terms_parts, .ref a_terms_variableNames, .ref a_terms_became, .int a_terms_variables, .int a_terms_variablesLack, .int a_terms_symbols, .int a_terms_nodesBefore, .int a_terms_partsBefore, .int a_terms_variablesBefore])), (a_terms_shapes, .inl (cs 0, a_terms_shapes_n, .inl a_terms_shapes_f)), (a, .inr (8, [.ref a_terms, .ref a_links, .ref a_states, .ref a_pairs, .ref a_joined, .ref a_seen, .ref a_path])), (a_links, .inl (cs 0, a_links_n, .inl a_links_f_15)), (a_joined, .inr (1, [.ref a_joined_items_15, .int a_joined_size_15])), (a_joined_items_15, .inl (cs 0, a_joined_items_n_15, .inl a_joined_items_f_15))] := ⟨hP, hD⟩
      refine lv_iload_n hx hb d_Unifier_joinRoots_36 rfl (lv_at hl 3 rfl) ?_
      obtain ⟨hzb, hok⟩ := ck_some hok
      obtain ⟨hq, hw⟩ := Prod.mk.inj (Option.some.inj hok)
      obtain ⟨hmc0, hms0⟩ := Prod.mk.inj hw
      obtain ⟨hq0, hq⟩ := Prod.mk.inj hq
      obtain ⟨hq1, hq⟩ := Prod.mk.inj hq
      obtain ⟨hq2, hq⟩ := Prod.mk.inj hq
      obtain ⟨hq3, hq⟩ := Prod.mk.inj hq
      obtain ⟨hq4, hq⟩ := Prod.mk.inj hq
      obtain ⟨hq5, hq⟩ := Prod.mk.inj hq
      obtain ⟨hq6, hq⟩ := Prod.mk.inj hq
      have hq7 := hq
      subst hq0
      subst hq1
      subst hq2
      subst hq3
      subst hq4
      subst hq5
      subst hq6
      subst hq7
      obtain ⟨hP9, hD9⟩ := sub2 (ws' := [(a, .inr (8, [.ref a_terms, .ref a_links, .ref a_states, .ref a_pairs, .ref a_joined, .ref a_seen, .ref a_path])), (a_terms, .inr (7, [.ref a_terms_shapes, .ref a_terms_values, .ref a_terms_firstParts, .int a_terms_nodes, .ref a_terms_parts, .ref a_terms_variableNames, .ref a_terms_became, .int a_terms_variables, .int a_terms_variablesLack, .int a_terms_symbols, .int a_terms_nodesBefore, .int a_terms_partsBefore, .int a_terms_variablesBefore])), (a_terms_shapes, .inl (cs 0, a_terms_shapes_n, .inl a_terms_shapes_f)), (a_terms_values, .inl (cs 2, a_terms_values_n, .inr (.inl a_terms_values_f))), (a_terms_firstParts, .inl (cs 0, a_terms_firstParts_n, .inl a_terms_firstParts_f)), (a_terms_parts, .inr (1, [.ref a_terms_parts_items, .int a_terms_parts_size])), (a_terms_parts_items, .inl (cs 0, a_terms_parts_items_n, .inl a_terms_parts_items_f)), (a_links, .inl (cs 0, a_links_n, .inl a_links_f_15)), (a_pairs, .inr (1, [.ref a_pairs_items, .int a_pairs_size])), (a_pairs_items, .inl (cs 0, a_pairs_items_n, .inl a_pairs_items_f)), (a_joined, .inr (1, [.ref a_joined_items_15, .int a_joined_size_15])), (a_joined_items_15, .inl (cs 0, a_joined_items_n_15, .inl a_joined_items_f_15))]) hP hD [8, 6, 7, 0, 1, 2, 3, 9, 4, 5, 10, 11] rfl (by decide) rfl
      refine W.widen (k := mc) (n := ms) (by omega) (by omega) ?_
      rw [hQ]
      exact W.zret (v := mayBind) hx hb hr (zab_in hzb).1 (fun t ht hW => ⟨⟨_, (), rfl, rfl, a_pairs_items, a_joined_items_15, by rw [ht]; exact hP9, hD9⟩, hS.F ht⟩) hS.2.2 d_Unifier_joinRoots_37
  · rw [if_neg h2] at hok
    refine lv_aload_n hx hb d_Unifier_joinRoots_11 rfl (lv_at hl 0 rfl) ?_
    refine lv_iload_n hx hb d_Unifier_joinRoots_12 rfl (lv_at hl 1 rfl) ?_
    refine lv_iload_n hx hb d_Unifier_joinRoots_13 rfl (lv_at hl 2 rfl) ?_
    obtain ⟨⟨⟨a_links_f_16, a_joined_size_16, a_joined_items_n_16, a_joined_items_f_16⟩, mk16, sk16⟩, hc16, hok⟩ := bd_some hok
    dsimp only at hok
    obtain ⟨m16, s16, hok, hmc16, hms16⟩ := al_some hok
    obtain ⟨hPc, hDc, hFc⟩ := cut0 (wc := [(a, .inr (8, [.ref a_terms, .ref a_links, .ref a_states, .ref a_pairs, .ref a_joined, .ref a_seen, .ref a_path])), (a_links, .inl (cs 0, a_links_n, .inl a_links_f)), (a_joined, .inr (1, [.ref a_joined_items, .int a_joined_size])), (a_joined_items, .inl (cs 0, a_joined_items_n, .inl a_joined_items_f))]) hP hD hS hA [0, 5, 8, 9] (by decide) rfl
    refine va_callv (va_runV (As := [.int left, .int right]) (rest := []) ⟨hx, hb, hml, hown, hg⟩ (c_Unifier_link l g cs ka a_terms a_states a_pairs a_seen a_path a a_links a_joined a_joined_items H.size left right a_links_n a_links_f a_joined_size a_joined_items_n a_joined_items_f a_links_f_16 a_joined_size_16 a_joined_items_n_16 a_joined_items_f_16 mk16 sk16 hc16) (cwV (C := R_Unifier) 2 hg (gw_V wd_351 wd_352 wd_353 wd_350 wd_349) rfl rfl rfl (by decide +kernel) ⟨Nat.le_of_ble_eq_true rfl, Nat.le_of_ble_eq_true rfl⟩) ⟨gP_blind, va_recv (q0 := 0) (ci := 8) (q := (R_Unifier, F_Unifier, 7)) hK hP rfl rfl, gP_pre hPc hDc hK hgl hkn hkr hS hFc⟩ rfl rfl hl.1 rfl (lv_room (Nat.le_of_ble_eq_true rfl)) d_Unifier_joinRoots_14 ⟨show 0 + 0 + mk16 ≤ mc from by omega, show 0 + 0 + sk16 ≤ ms from by omega⟩) hS (fun q _ h => hFc q h) hFc (fun u t H locs ht hvm hr16 hB hz1 hk1 hS => ?_)
    rw [ht] at hB
    obtain ⟨a_joined_items_16, hP1, hD1⟩ := hB
    obtain ⟨hP, hD⟩ := jn_A hP hD [0, 5, 8, 9] [1, 2, 3, 4, 6, 7, 10, 11] rfl rfl (by decide) (by decide) hk1 hFc hP1 hD1
    obtain ⟨hP, hD⟩ : PD g A H [(a_terms_values, .inl (cs 2, a_terms_values_n, .inr (.inl a_terms_values_f))), (a_terms_firstParts, .inl (cs 0, a_terms_firstParts_n, .inl a_terms_firstParts_f)), (a_terms_parts, .inr (1, [.ref a_terms_parts_items, .int a_terms_parts_size])), (a_terms_parts_items, .inl (cs 0, a_terms_parts_items_n, .inl a_terms_parts_items_f)), (a_pairs, .inr (1, [.ref a_pairs_items, .int a_pairs_size])), (a_pairs_items, .inl (cs 0, a_pairs_items_n, .inl a_pairs_items_f)), (a_terms, .inr (7, [.ref a_terms_shapes, .ref a_terms_values, .ref a_terms_firstParts, .int a_terms_nodes, .ref a_terms_parts, .ref a_terms_variableNames, .ref a_terms_became, .int a_terms_variables, .int a_terms_variablesLack, .int a_terms_symbols, .int a_terms_nodesBefore, .int a_terms_partsBefore, .int a_terms_variablesBefore])), (a_terms_shapes, .inl (cs 0, a_terms_shapes_n, .inl a_terms_shapes_f)), (a, .inr (8, [.ref a_terms, .ref a_links, .ref a_states, .ref a_pairs, .ref a_joined, .ref a_seen, .ref a_path])), (a_links, .inl (cs 0, a_links_n, .inl a_links_f_16)), (a_joined, .inr (1, [.ref a_joined_items_16, .int a_joined_size_16])), (a_joined_items_16, .inl (cs 0, a_joined_items_n_16, .inl a_joined_items_f_16))] := ⟨hP, hD⟩
    refine lv_iload_n hx hb d_Unifier_joinRoots_17 rfl (lv_at hl 3 rfl) ?_
    obtain ⟨hzb, hok⟩ := ck_some hok
    obtain ⟨hq, hw⟩ := Prod.mk.inj (Option.some.inj hok)
    obtain ⟨hmc0, hms0⟩ := Prod.mk.inj hw
    obtain ⟨hq0, hq⟩ := Prod.mk.inj hq
    obtain ⟨hq1, hq⟩ := Prod.mk.inj hq
    obtain ⟨hq2, hq⟩ := Prod.mk.inj hq
    obtain ⟨hq3, hq⟩ := Prod.mk.inj hq
    obtain ⟨hq4, hq⟩ := Prod.mk.inj hq
    obtain ⟨hq5, hq⟩ := Prod.mk.inj hq
    obtain ⟨hq6, hq⟩ := Prod.mk.inj hq
    have hq7 := hq
    subst hq0
    subst hq1
    subst hq2
    subst hq3
    subst hq4
    subst hq5
    subst hq6
    subst hq7
    obtain ⟨hP9, hD9⟩ := sub2 (ws' := [(a, .inr (8, [.ref a_terms, .ref a_links, .ref a_states, .ref a_pairs, .ref a_joined, .ref a_seen, .ref a_path])), (a_terms, .inr (7, [.ref a_terms_shapes, .ref a_terms_values, .ref a_terms_firstParts, .int a_terms_nodes, .ref a_terms_parts, .ref a_terms_variableNames, .ref a_terms_became, .int a_terms_variables, .int a_terms_variablesLack, .int a_terms_symbols, .int a_terms_nodesBefore, .int a_terms_partsBefore, .int a_terms_variablesBefore])), (a_terms_shapes, .inl (cs 0, a_terms_shapes_n, .inl a_terms_shapes_f)), (a_terms_values, .inl (cs 2, a_terms_values_n, .inr (.inl a_terms_values_f))), (a_terms_firstParts, .inl (cs 0, a_terms_firstParts_n, .inl a_terms_firstParts_f)), (a_terms_parts, .inr (1, [.ref a_terms_parts_items, .int a_terms_parts_size])), (a_terms_parts_items, .inl (cs 0, a_terms_parts_items_n, .inl a_terms_parts_items_f)), (a_links, .inl (cs 0, a_links_n, .inl a_links_f_16)), (a_pairs, .inr (1, [.ref a_pairs_items, .int a_pairs_size])), (a_pairs_items, .inl (cs 0, a_pairs_items_n, .inl a_pairs_items_f)), (a_joined, .inr (1, [.ref a_joined_items_16, .int a_joined_size_16])), (a_joined_items_16, .inl (cs 0, a_joined_items_n_16, .inl a_joined_items_f_16))]) hP hD [8, 6, 7, 0, 1, 2, 3, 9, 4, 5, 10, 11] rfl (by decide) rfl
    refine W.widen (k := mc) (n := ms) (by omega) (by omega) ?_
    rw [hQ]
    exact W.zret (v := mayBind) hx hb hr (zab_in hzb).1 (fun t ht hW => ⟨⟨_, (), rfl, rfl, a_pairs_items, a_joined_items_16, by rw [ht]; exact hP9, hD9⟩, hS.F ht⟩) hS.2.2 d_Unifier_joinRoots_18

theorem d_Unifier_joinAll_0 : decode b_Unifier_joinAll 0 = .ok (.aload_n 0, 1) := by decide +kernel
theorem d_Unifier_joinAll_1 : decode b_Unifier_joinAll 1 = .ok (.getfield 21, 3) := by decide +kernel
theorem d_Unifier_joinAll_4 : decode b_Unifier_joinAll 4 = .ok (.iload_n 1, 1) := by decide +kernel
theorem d_Unifier_joinAll_5 : decode b_Unifier_joinAll 5 = .ok (.invokevirtual 72, 3) := by decide +kernel
theorem d_Unifier_joinAll_8 : decode b_Unifier_joinAll 8 = .ok (.aload_n 0, 1) := by decide +kernel
theorem d_Unifier_joinAll_9 : decode b_Unifier_joinAll 9 = .ok (.getfield 21, 3) := by decide +kernel
theorem d_Unifier_joinAll_12 : decode b_Unifier_joinAll 12 = .ok (.iload_n 2, 1) := by decide +kernel
theorem d_Unifier_joinAll_13 : decode b_Unifier_joinAll 13 = .ok (.invokevirtual 72, 3) := by decide +kernel
theorem d_Unifier_joinAll_16 : decode b_Unifier_joinAll 16 = .ok (.iconst 0, 1) := by decide +kernel
theorem d_Unifier_joinAll_17 : decode b_Unifier_joinAll 17 = .ok (.istore 4, 2) := by decide +kernel
theorem d_Unifier_joinAll_19 : decode b_Unifier_joinAll 19 = .ok (.iload 4, 2) := by decide +kernel
theorem d_Unifier_joinAll_21 : decode b_Unifier_joinAll 21 = .ok (.ldc 75, 2) := by decide +kernel
theorem d_Unifier_joinAll_23 : decode b_Unifier_joinAll 23 = .ok (.if_icmp .ge 66, 3) := by decide +kernel
theorem d_Unifier_joinAll_26 : decode b_Unifier_joinAll 26 = .ok (.aload_n 0, 1) := by decide +kernel
theorem d_Unifier_joinAll_27 : decode b_Unifier_joinAll 27 = .ok (.getfield 21, 3) := by decide +kernel
theorem d_Unifier_joinAll_30 : decode b_Unifier_joinAll 30 = .ok (.invokevirtual 61, 3) := by decide +kernel
theorem d_Unifier_joinAll_33 : decode b_Unifier_joinAll 33 = .ok (.ifCond .le 56, 3) := by decide +kernel
theorem d_Unifier_joinAll_36 : decode b_Unifier_joinAll 36 = .ok (.aload_n 0, 1) := by decide +kernel
theorem d_Unifier_joinAll_37 : decode b_Unifier_joinAll 37 = .ok (.aload_n 0, 1) := by decide +kernel
theorem d_Unifier_joinAll_38 : decode b_Unifier_joinAll 38 = .ok (.getfield 21, 3) := by decide +kernel
theorem d_Unifier_joinAll_41 : decode b_Unifier_joinAll 41 = .ok (.invokevirtual 76, 3) := by decide +kernel
theorem d_Unifier_joinAll_44 : decode b_Unifier_joinAll 44 = .ok (.invokevirtual 79, 3) := by decide +kernel
theorem d_Unifier_joinAll_47 : decode b_Unifier_joinAll 47 = .ok (.istore 5, 2) := by decide +kernel
theorem d_Unifier_joinAll_49 : decode b_Unifier_joinAll 49 = .ok (.aload_n 0, 1) := by decide +kernel
theorem d_Unifier_joinAll_50 : decode b_Unifier_joinAll 50 = .ok (.aload_n 0, 1) := by decide +kernel
theorem d_Unifier_joinAll_51 : decode b_Unifier_joinAll 51 = .ok (.getfield 21, 3) := by decide +kernel
theorem d_Unifier_joinAll_54 : decode b_Unifier_joinAll 54 = .ok (.invokevirtual 76, 3) := by decide +kernel
theorem d_Unifier_joinAll_57 : decode b_Unifier_joinAll 57 = .ok (.invokevirtual 79, 3) := by decide +kernel
theorem d_Unifier_joinAll_60 : decode b_Unifier_joinAll 60 = .ok (.istore 6, 2) := by decide +kernel
theorem d_Unifier_joinAll_62 : decode b_Unifier_joinAll 62 = .ok (.iload 6, 2) := by decide +kernel
theorem d_Unifier_joinAll_64 : decode b_Unifier_joinAll 64 = .ok (.iload 5, 2) := by decide +kernel
theorem d_Unifier_joinAll_66 : decode b_Unifier_joinAll 66 = .ok (.if_icmp .eq 17, 3) := by decide +kernel
theorem d_Unifier_joinAll_69 : decode b_Unifier_joinAll 69 = .ok (.aload_n 0, 1) := by decide +kernel
theorem d_Unifier_joinAll_70 : decode b_Unifier_joinAll 70 = .ok (.iload 6, 2) := by decide +kernel
theorem d_Unifier_joinAll_72 : decode b_Unifier_joinAll 72 = .ok (.iload 5, 2) := by decide +kernel
theorem d_Unifier_joinAll_74 : decode b_Unifier_joinAll 74 = .ok (.iload_n 3, 1) := by decide +kernel
theorem d_Unifier_joinAll_75 : decode b_Unifier_joinAll 75 = .ok (.invokevirtual 82, 3) := by decide +kernel
theorem d_Unifier_joinAll_78 : decode b_Unifier_joinAll 78 = .ok (.ifCond .ne 5, 3) := by decide +kernel
theorem d_Unifier_joinAll_81 : decode b_Unifier_joinAll 81 = .ok (.iconst 0, 1) := by decide +kernel
theorem d_Unifier_joinAll_82 : decode b_Unifier_joinAll 82 = .ok (.ireturn, 1) := by decide +kernel
theorem d_Unifier_joinAll_83 : decode b_Unifier_joinAll 83 = .ok (.iinc 4 1, 3) := by decide +kernel
theorem d_Unifier_joinAll_86 : decode b_Unifier_joinAll 86 = .ok (.goto (-67), 3) := by decide +kernel
theorem d_Unifier_joinAll_89 : decode b_Unifier_joinAll 89 = .ok (.aload_n 0, 1) := by decide +kernel
theorem d_Unifier_joinAll_90 : decode b_Unifier_joinAll 90 = .ok (.getfield 21, 3) := by decide +kernel
theorem d_Unifier_joinAll_93 : decode b_Unifier_joinAll 93 = .ok (.invokevirtual 61, 3) := by decide +kernel
theorem d_Unifier_joinAll_96 : decode b_Unifier_joinAll 96 = .ok (.ifCond .ne 7, 3) := by decide +kernel
theorem d_Unifier_joinAll_99 : decode b_Unifier_joinAll 99 = .ok (.iconst 1, 1) := by decide +kernel
theorem d_Unifier_joinAll_100 : decode b_Unifier_joinAll 100 = .ok (.goto 4, 3) := by decide +kernel
theorem d_Unifier_joinAll_103 : decode b_Unifier_joinAll 103 = .ok (.iconst 0, 1) := by decide +kernel
theorem d_Unifier_joinAll_104 : decode b_Unifier_joinAll 104 = .ok (.ireturn, 1) := by decide +kernel
def p_Unifier_joinAll_19 (n : Nat) (mayBind : Int32) (a_terms_nodes : Int32) (a_terms_variables : Int32) (a_terms_variablesLack : Int32) (a_terms_symbols : Int32) (a_terms_nodesBefore : Int32) (a_terms_partsBefore : Int32) (a_terms_variablesBefore : Int32) (a_terms_shapes_n : Nat) (a_terms_shapes_f : Nat → Int32) (a_terms_values_n : Nat) (a_terms_values_f : Nat → Int64) (a_terms_firstParts_n : Nat) (a_terms_firstParts_f : Nat → Int32) (a_terms_parts_size : Int32) (a_terms_parts_items_n : Nat) (a_terms_parts_items_f : Nat → Int32) (a_terms_became_n : Nat) (a_terms_became_f : Nat → Int32) (a_links_n : Nat) (kf3 : Nat) (x4_3 : Int32) (a_joined_size_3 : Int32) (a_pairs_size_3 : Int32) (a_links_3f : Nat → Int32) (a_joined_items_3n : Nat) (a_joined_items_3f : Nat → Int32) (a_pairs_items_3n : Nat) (a_pairs_items_3f : Nat → Int32) : Option ((Int32 × (Nat → Int32) × Int32 × Nat × (Nat → Int32) × Int32 × Nat × (Nat → Int32)) × Nat × Nat) := match kf3 with
  | 0 => none
  | kf3 + 1 => if 1000000 ≤ x4_3 then ((p_Ints_size a_pairs_size_3).bind (fun r5 => if r5 = 0 then (some (((1 : Int32), a_links_3f, a_pairs_size_3, a_pairs_items_3n, a_pairs_items_3f, a_joined_size_3, a_joined_items_3n, a_joined_items_3f), 0, 0)) else (some (((0 : Int32), a_links_3f, a_pairs_size_3, a_pairs_items_3n, a_pairs_items_3f, a_joined_size_3, a_joined_items_3n, a_joined_items_3f), 0, 0)))) else ((p_Ints_size a_pairs_size_3).bind (fun r7 => if r7 ≤ 0 then ((p_Ints_size a_pairs_size_3).bind (fun r9 => if r9 = 0 then (some (((1 : Int32), a_links_3f, a_pairs_size_3, a_pairs_items_3n, a_pairs_items_3f, a_joined_size_3, a_joined_items_3n, a_joined_items_3f), 0, 0)) else (some (((0 : Int32), a_links_3f, a_pairs_size_3, a_pairs_items_3n, a_pairs_items_3f, a_joined_size_3, a_joined_items_3n, a_joined_items_3f), 0, 0)))) else ((p_Ints_pop a_pairs_size_3 a_pairs_items_3n a_pairs_items_3f).bind (fun (r11, a_size_11) => (p_Unifier_rootOf n r11 a_terms_nodes a_terms_variables a_terms_variablesLack a_terms_symbols a_terms_nodesBefore a_terms_partsBefore a_terms_variablesBefore a_terms_became_n a_terms_became_f a_links_n a_links_3f).bind (fun (r12, a_links_f_12) => (p_Ints_pop a_size_11 a_pairs_items_3n a_pairs_items_3f).bind (fun (r13, a_size_13) => (p_Unifier_rootOf n r13 a_terms_nodes a_terms_variables a_terms_variablesLack a_terms_symbols a_terms_nodesBefore a_terms_partsBefore a_terms_variablesBefore a_terms_became_n a_terms_became_f a_links_n a_links_f_12).bind (fun (r14, a_links_f_14) => if r14 = r12 then (p_Unifier_joinAll_19 n mayBind a_terms_nodes a_terms_variables a_terms_variablesLack a_terms_symbols a_terms_nodesBefore a_terms_partsBefore a_terms_variablesBefore a_terms_shapes_n a_terms_shapes_f a_terms_values_n a_terms_values_f a_terms_firstParts_n a_terms_firstParts_f a_terms_parts_size a_terms_parts_items_n a_terms_parts_items_f a_terms_became_n a_terms_became_f a_links_n kf3 (x4_3 + 1) a_joined_size_3 a_size_13 a_links_f_14 a_joined_items_3n a_joined_items_3f a_pairs_items_3n a_pairs_items_3f) else ((p_Unifier_joinRoots n r14 r12 mayBind a_terms_nodes a_terms_variables a_terms_variablesLack a_terms_symbols a_terms_nodesBefore a_terms_partsBefore a_terms_variablesBefore a_terms_shapes_n a_terms_shapes_f a_terms_values_n a_terms_values_f a_terms_firstParts_n a_terms_firstParts_f a_terms_parts_size a_terms_parts_items_n a_terms_parts_items_f a_links_n a_links_f_14 a_size_13 a_pairs_items_3n a_pairs_items_3f a_joined_size_3 a_joined_items_3n a_joined_items_3f).bind (fun ((r16, a_links_f_16, a_pairs_size_16, a_pairs_items_n_16, a_pairs_items_f_16, a_joined_size_16, a_joined_items_n_16, a_joined_items_f_16), mk16, sk16) => al mk16 sk16 (if r16 = 0 then (some (((0 : Int32), a_links_f_16, a_pairs_size_16, a_pairs_items_n_16, a_pairs_items_f_16, a_joined_size_16, a_joined_items_n_16, a_joined_items_f_16), 0, 0)) else (p_Unifier_joinAll_19 n mayBind a_terms_nodes a_terms_variables a_terms_variablesLack a_terms_symbols a_terms_nodesBefore a_terms_partsBefore a_terms_variablesBefore a_terms_shapes_n a_terms_shapes_f a_terms_values_n a_terms_values_f a_terms_firstParts_n a_terms_firstParts_f a_terms_parts_size a_terms_parts_items_n a_terms_parts_items_f a_terms_became_n a_terms_became_f a_links_n kf3 (x4_3 + 1) a_joined_size_16 a_pairs_size_16 a_links_f_16 a_joined_items_n_16 a_joined_items_f_16 a_pairs_items_n_16 a_pairs_items_f_16)))))))))))
def p_Unifier_joinAll (n : Nat) (x : Int32) (y : Int32) (mayBind : Int32) (a_terms_nodes : Int32) (a_terms_variables : Int32) (a_terms_variablesLack : Int32) (a_terms_symbols : Int32) (a_terms_nodesBefore : Int32) (a_terms_partsBefore : Int32) (a_terms_variablesBefore : Int32) (a_terms_shapes_n : Nat) (a_terms_shapes_f : Nat → Int32) (a_terms_values_n : Nat) (a_terms_values_f : Nat → Int64) (a_terms_firstParts_n : Nat) (a_terms_firstParts_f : Nat → Int32) (a_terms_parts_size : Int32) (a_terms_parts_items_n : Nat) (a_terms_parts_items_f : Nat → Int32) (a_terms_became_n : Nat) (a_terms_became_f : Nat → Int32) (a_links_n : Nat) (a_links_f : Nat → Int32) (a_pairs_size : Int32) (a_pairs_items_n : Nat) (a_pairs_items_f : Nat → Int32) (a_joined_size : Int32) (a_joined_items_n : Nat) (a_joined_items_f : Nat → Int32) : Option ((Int32 × (Nat → Int32) × Int32 × Nat × (Nat → Int32) × Int32 × Nat × (Nat → Int32)) × Nat × Nat) := (p_Ints_push x a_pairs_size a_pairs_items_n a_pairs_items_f).bind (fun ((a_size_1, a_items_n_1, a_items_f_1), mk1, sk1) => al mk1 sk1 ((p_Ints_push y a_size_1 a_items_n_1 a_items_f_1).bind (fun ((a_size_2, a_items_n_2, a_items_f_2), mk2, sk2) => al mk2 sk2 (p_Unifier_joinAll_19 n mayBind a_terms_nodes a_terms_variables a_terms_variablesLack a_terms_symbols a_terms_nodesBefore a_terms_partsBefore a_terms_variablesBefore a_terms_shapes_n a_terms_shapes_f a_terms_values_n a_terms_values_f a_terms_firstParts_n a_terms_firstParts_f a_terms_parts_size a_terms_parts_items_n a_terms_parts_items_f a_terms_became_n a_terms_became_f a_links_n n (0 : Int32) a_joined_size a_size_2 a_links_f a_joined_items_n a_joined_items_f a_items_n_2 a_items_f_2))))
set_option maxHeartbeats 4000000 in
set_option maxRecDepth 100000 in
theorem c_Unifier_joinAll (l : Launch) (g : va_G) (cs : Nat → ClassId) (ka : Nat → Nat) (a_states : Nat) (a_seen : Nat) (a_path : Nat) (a_terms_variableNames : Nat) (a a_terms a_terms_shapes a_terms_values a_terms_firstParts a_terms_parts a_terms_parts_items a_terms_became a_links a_pairs a_pairs_items a_joined a_joined_items : Nat) (sz : Nat) (n : Nat) (x : Int32) (y : Int32) (mayBind : Int32) (a_terms_nodes : Int32) (a_terms_variables : Int32) (a_terms_variablesLack : Int32) (a_terms_symbols : Int32) (a_terms_nodesBefore : Int32) (a_terms_partsBefore : Int32) (a_terms_variablesBefore : Int32) (a_terms_shapes_n : Nat) (a_terms_shapes_f : Nat → Int32) (a_terms_values_n : Nat) (a_terms_values_f : Nat → Int64) (a_terms_firstParts_n : Nat) (a_terms_firstParts_f : Nat → Int32) (a_terms_parts_size : Int32) (a_terms_parts_items_n : Nat) (a_terms_parts_items_f : Nat → Int32) (a_terms_became_n : Nat) (a_terms_became_f : Nat → Int32) (a_links_n : Nat) (a_links_f : Nat → Int32) (a_pairs_size : Int32) (a_pairs_items_n : Nat) (a_pairs_items_f : Nat → Int32) (a_joined_size : Int32) (a_joined_items_n : Nat) (a_joined_items_f : Nat → Int32) (r : Int32) (o_a_links_f : Nat → Int32) (o_a_pairs_size : Int32) (o_a_pairs_items_n : Nat) (o_a_pairs_items_f : Nat → Int32) (o_a_joined_size : Int32) (o_a_joined_items_n : Nat) (o_a_joined_items_f : Nat → Int32) (mc ms : Nat) (hok : p_Unifier_joinAll n x y mayBind a_terms_nodes a_terms_variables a_terms_variablesLack a_terms_symbols a_terms_nodesBefore a_terms_partsBefore a_terms_variablesBefore a_terms_shapes_n a_terms_shapes_f a_terms_values_n a_terms_values_f a_terms_firstParts_n a_terms_firstParts_f a_terms_parts_size a_terms_parts_items_n a_terms_parts_items_f a_terms_became_n a_terms_became_f a_links_n a_links_f a_pairs_size a_pairs_items_n a_pairs_items_f a_joined_size a_joined_items_n a_joined_items_f = some ((r, o_a_links_f, o_a_pairs_size, o_a_pairs_items_n, o_a_pairs_items_f, o_a_joined_size, o_a_joined_items_n, o_a_joined_items_f), mc, ms)) : Met l y_Unifier_joinAll (.code y_Unifier_joinAll b_Unifier_joinAll 7 (some .boolean) :: GW) { frames := 5, cells := mc, slots := ms, locals := 189 } (va_Pc [.ref a, .int x, .int y, .int mayBind] (gP g cs ka [(a, .inr (8, [.ref a_terms, .ref a_links, .ref a_states, .ref a_pairs, .ref a_joined, .ref a_seen, .ref a_path])), (a_terms, .inr (7, [.ref a_terms_shapes, .ref a_terms_values, .ref a_terms_firstParts, .int a_terms_nodes, .ref a_terms_parts, .ref a_terms_variableNames, .ref a_terms_became, .int a_terms_variables, .int a_terms_variablesLack, .int a_terms_symbols, .int a_terms_nodesBefore, .int a_terms_partsBefore, .int a_terms_variablesBefore])), (a_terms_shapes, .inl (cs 0, a_terms_shapes_n, .inl a_terms_shapes_f)), (a_terms_values, .inl (cs 2, a_terms_values_n, .inr (.inl a_terms_values_f))), (a_terms_firstParts, .inl (cs 0, a_terms_firstParts_n, .inl a_terms_firstParts_f)), (a_terms_parts, .inr (1, [.ref a_terms_parts_items, .int a_terms_parts_size])), (a_terms_parts_items, .inl (cs 0, a_terms_parts_items_n, .inl a_terms_parts_items_f)), (a_terms_became, .inl (cs 0, a_terms_became_n, .inl a_terms_became_f)), (a_links, .inl (cs 0, a_links_n, .inl a_links_f)), (a_pairs, .inr (1, [.ref a_pairs_items, .int a_pairs_size])), (a_pairs_items, .inl (cs 0, a_pairs_items_n, .inl a_pairs_items_f)), (a_joined, .inr (1, [.ref a_joined_items, .int a_joined_size])), (a_joined_items, .inl (cs 0, a_joined_items_n, .inl a_joined_items_f))] sz)) (va_Qi (fun (r' : Int32) (_ : Unit) => r = r') (fun _ t => ∃ b_a_pairs_items b_a_joined_items : Nat, va_P g classes [(a, .inr (8, [.ref a_terms, .ref a_links, .ref a_states, .ref a_pairs, .ref a_joined, .ref a_seen, .ref a_path])), (a_terms, .inr (7, [.ref a_terms_shapes, .ref a_terms_values, .ref a_terms_firstParts, .int a_terms_nodes, .ref a_terms_parts, .ref a_terms_variableNames, .ref a_terms_became, .int a_terms_variables, .int a_terms_variablesLack, .int a_terms_symbols, .int a_terms_nodesBefore, .int a_terms_partsBefore, .int a_terms_variablesBefore])), (a_terms_shapes, .inl (cs 0, a_terms_shapes_n, .inl a_terms_shapes_f)), (a_terms_values, .inl (cs 2, a_terms_values_n, .inr (.inl a_terms_values_f))), (a_terms_firstParts, .inl (cs 0, a_terms_firstParts_n, .inl a_terms_firstParts_f)), (a_terms_parts, .inr (1, [.ref a_terms_parts_items, .int a_terms_parts_size])), (a_terms_parts_items, .inl (cs 0, a_terms_parts_items_n, .inl a_terms_parts_items_f)), (a_terms_became, .inl (cs 0, a_terms_became_n, .inl a_terms_became_f)), (a_links, .inl (cs 0, a_links_n, .inl o_a_links_f)), (a_pairs, .inr (1, [.ref b_a_pairs_items, .int o_a_pairs_size])), (b_a_pairs_items, .inl (cs 0, o_a_pairs_items_n, .inl o_a_pairs_items_f)), (a_joined, .inr (1, [.ref b_a_joined_items, .int o_a_joined_size])), (b_a_joined_items, .inl (cs 0, o_a_joined_items_n, .inl o_a_joined_items_f))] t.heap ∧ va_D (va_A [(a, .inr (8, [.ref a_terms, .ref a_links, .ref a_states, .ref a_pairs, .ref a_joined, .ref a_seen, .ref a_path])), (a_terms, .inr (7, [.ref a_terms_shapes, .ref a_terms_values, .ref a_terms_firstParts, .int a_terms_nodes, .ref a_terms_parts, .ref a_terms_variableNames, .ref a_terms_became, .int a_terms_variables, .int a_terms_variablesLack, .int a_terms_symbols, .int a_terms_nodesBefore, .int a_terms_partsBefore, .int a_terms_variablesBefore])), (a_terms_shapes, .inl (cs 0, a_terms_shapes_n, .inl a_terms_shapes_f)), (a_terms_values, .inl (cs 2, a_terms_values_n, .inr (.inl a_terms_values_f))), (a_terms_firstParts, .inl (cs 0, a_terms_firstParts_n, .inl a_terms_firstParts_f)), (a_terms_parts, .inr (1, [.ref a_terms_parts_items, .int a_terms_parts_size])), (a_terms_parts_items, .inl (cs 0, a_terms_parts_items_n, .inl a_terms_parts_items_f)), (a_terms_became, .inl (cs 0, a_terms_became_n, .inl a_terms_became_f)), (a_links, .inl (cs 0, a_links_n, .inl a_links_f)), (a_pairs, .inr (1, [.ref a_pairs_items, .int a_pairs_size])), (a_pairs_items, .inl (cs 0, a_pairs_items_n, .inl a_pairs_items_f)), (a_joined, .inr (1, [.ref a_joined_items, .int a_joined_size])), (a_joined_items, .inl (cs 0, a_joined_items_n, .inl a_joined_items_f))] sz) [(a, .inr (8, [.ref a_terms, .ref a_links, .ref a_states, .ref a_pairs, .ref a_joined, .ref a_seen, .ref a_path])), (a_terms, .inr (7, [.ref a_terms_shapes, .ref a_terms_values, .ref a_terms_firstParts, .int a_terms_nodes, .ref a_terms_parts, .ref a_terms_variableNames, .ref a_terms_became, .int a_terms_variables, .int a_terms_variablesLack, .int a_terms_symbols, .int a_terms_nodesBefore, .int a_terms_partsBefore, .int a_terms_variablesBefore])), (a_terms_shapes, .inl (cs 0, a_terms_shapes_n, .inl a_terms_shapes_f)), (a_terms_values, .inl (cs 2, a_terms_values_n, .inr (.inl a_terms_values_f))), (a_terms_firstParts, .inl (cs 0, a_terms_firstParts_n, .inl a_terms_firstParts_f)), (a_terms_parts, .inr (1, [.ref a_terms_parts_items, .int a_terms_parts_size])), (a_terms_parts_items, .inl (cs 0, a_terms_parts_items_n, .inl a_terms_parts_items_f)), (a_terms_became, .inl (cs 0, a_terms_became_n, .inl a_terms_became_f)), (a_links, .inl (cs 0, a_links_n, .inl o_a_links_f)), (a_pairs, .inr (1, [.ref b_a_pairs_items, .int o_a_pairs_size])), (b_a_pairs_items, .inl (cs 0, o_a_pairs_items_n, .inl o_a_pairs_items_f)), (a_joined, .inr (1, [.ref b_a_joined_items, .int o_a_joined_size])), (b_a_joined_items, .inl (cs 0, o_a_joined_items_n, .inl o_a_joined_items_f))]) (va_A [(a, .inr (8, [.ref a_terms, .ref a_links, .ref a_states, .ref a_pairs, .ref a_joined, .ref a_seen, .ref a_path])), (a_terms, .inr (7, [.ref a_terms_shapes, .ref a_terms_values, .ref a_terms_firstParts, .int a_terms_nodes, .ref a_terms_parts, .ref a_terms_variableNames, .ref a_terms_became, .int a_terms_variables, .int a_terms_variablesLack, .int a_terms_symbols, .int a_terms_nodesBefore, .int a_terms_partsBefore, .int a_terms_variablesBefore])), (a_terms_shapes, .inl (cs 0, a_terms_shapes_n, .inl a_terms_shapes_f)), (a_terms_values, .inl (cs 2, a_terms_values_n, .inr (.inl a_terms_values_f))), (a_terms_firstParts, .inl (cs 0, a_terms_firstParts_n, .inl a_terms_firstParts_f)), (a_terms_parts, .inr (1, [.ref a_terms_parts_items, .int a_terms_parts_size])), (a_terms_parts_items, .inl (cs 0, a_terms_parts_items_n, .inl a_terms_parts_items_f)), (a_terms_became, .inl (cs 0, a_terms_became_n, .inl a_terms_became_f)), (a_links, .inl (cs 0, a_links_n, .inl a_links_f)), (a_pairs, .inr (1, [.ref a_pairs_items, .int a_pairs_size])), (a_pairs_items, .inl (cs 0, a_pairs_items_n, .inl a_pairs_items_f)), (a_joined, .inr (1, [.ref a_joined_items, .int a_joined_size])), (a_joined_items, .inl (cs 0, a_joined_items_n, .inl a_joined_items_f))] sz)) mc ms (va_A [(a, .inr (8, [.ref a_terms, .ref a_links, .ref a_states, .ref a_pairs, .ref a_joined, .ref a_seen, .ref a_path])), (a_terms, .inr (7, [.ref a_terms_shapes, .ref a_terms_values, .ref a_terms_firstParts, .int a_terms_nodes, .ref a_terms_parts, .ref a_terms_variableNames, .ref a_terms_became, .int a_terms_variables, .int a_terms_variablesLack, .int a_terms_symbols, .int a_terms_nodesBefore, .int a_terms_partsBefore, .int a_terms_variablesBefore])), (a_terms_shapes, .inl (cs 0, a_terms_shapes_n, .inl a_terms_shapes_f)), (a_terms_values, .inl (cs 2, a_terms_values_n, .inr (.inl a_terms_values_f))), (a_terms_firstParts, .inl (cs 0, a_terms_firstParts_n, .inl a_terms_firstParts_f)), (a_terms_parts, .inr (1, [.ref a_terms_parts_items, .int a_terms_parts_size])), (a_terms_parts_items, .inl (cs 0, a_terms_parts_items_n, .inl a_terms_parts_items_f)), (a_terms_became, .inl (cs 0, a_terms_became_n, .inl a_terms_became_f)), (a_links, .inl (cs 0, a_links_n, .inl a_links_f)), (a_pairs, .inr (1, [.ref a_pairs_items, .int a_pairs_size])), (a_pairs_items, .inl (cs 0, a_pairs_items_n, .inl a_pairs_items_f)), (a_joined, .inr (1, [.ref a_joined_items, .int a_joined_size])), (a_joined_items, .inl (cs 0, a_joined_items_n, .inl a_joined_items_f))] sz) := by
  refine Met.ofW (cc := b_Unifier_joinAll) (maxL := 7) (ret := (some .boolean)) (by decide) rfl ?_
  intro p e s m args below meth c s₁ B hml hv
  obtain ⟨rfl, hsz, hP, hK, hD0, hgl, hkn, hkr⟩ := hv
  have hx := B.exec
  have hb := B.bytes
  have hr := B.returns
  have hg : ∀ w ∈ GW, w.before ([.ref a, .int x, .int y, .int mayBind] : List Value).toArray s = true := fun w hw => atoms_spec (ws := .code y_Unifier_joinAll b_Unifier_joinAll 7 (some .boolean) :: GW) B.pre w (List.mem_cons_of_mem _ hw)
  have hown : s.vm.findClass R_Unifier = some m.cls := findClass_of_methodNamed B.named
  have hlocks := B.notSynchronized
  subst hsz
  have hD := hD0.self (sz := s.heap.size)
  generalize hAe : va_A [(a, .inr (8, [.ref a_terms, .ref a_links, .ref a_states, .ref a_pairs, .ref a_joined, .ref a_seen, .ref a_path])), (a_terms, .inr (7, [.ref a_terms_shapes, .ref a_terms_values, .ref a_terms_firstParts, .int a_terms_nodes, .ref a_terms_parts, .ref a_terms_variableNames, .ref a_terms_became, .int a_terms_variables, .int a_terms_variablesLack, .int a_terms_symbols, .int a_terms_nodesBefore, .int a_terms_partsBefore, .int a_terms_variablesBefore])), (a_terms_shapes, .inl (cs 0, a_terms_shapes_n, .inl a_terms_shapes_f)), (a_terms_values, .inl (cs 2, a_terms_values_n, .inr (.inl a_terms_values_f))), (a_terms_firstParts, .inl (cs 0, a_terms_firstParts_n, .inl a_terms_firstParts_f)), (a_terms_parts, .inr (1, [.ref a_terms_parts_items, .int a_terms_parts_size])), (a_terms_parts_items, .inl (cs 0, a_terms_parts_items_n, .inl a_terms_parts_items_f)), (a_terms_became, .inl (cs 0, a_terms_became_n, .inl a_terms_became_f)), (a_links, .inl (cs 0, a_links_n, .inl a_links_f)), (a_pairs, .inr (1, [.ref a_pairs_items, .int a_pairs_size])), (a_pairs_items, .inl (cs 0, a_pairs_items_n, .inl a_pairs_items_f)), (a_joined, .inr (1, [.ref a_joined_items, .int a_joined_size])), (a_joined_items, .inl (cs 0, a_joined_items_n, .inl a_joined_items_f))] s.heap.size = A at hD hkn ⊢
  have hA : ∀ q : Nat, s.heap.size ≤ q → A q := fun q h => by rw [← hAe]; exact Or.inr h
  have hS : va_S A s.heap s.heap [] := va_S.rf
  have hP : va_P g classes [(a, .inr (8, [.ref a_terms, .ref a_links, .ref a_states, .ref a_pairs, .ref a_joined, .ref a_seen, .ref a_path])), (a_terms, .inr (7, [.ref a_terms_shapes, .ref a_terms_values, .ref a_terms_firstParts, .int a_terms_nodes, .ref a_terms_parts, .ref a_terms_variableNames, .ref a_terms_became, .int a_terms_variables, .int a_terms_variablesLack, .int a_terms_symbols, .int a_terms_nodesBefore, .int a_terms_partsBefore, .int a_terms_variablesBefore])), (a_terms_shapes, .inl (cs 0, a_terms_shapes_n, .inl a_terms_shapes_f)), (a_terms_values, .inl (cs 2, a_terms_values_n, .inr (.inl a_terms_values_f))), (a_terms_firstParts, .inl (cs 0, a_terms_firstParts_n, .inl a_terms_firstParts_f)), (a_terms_parts, .inr (1, [.ref a_terms_parts_items, .int a_terms_parts_size])), (a_terms_parts_items, .inl (cs 0, a_terms_parts_items_n, .inl a_terms_parts_items_f)), (a_terms_became, .inl (cs 0, a_terms_became_n, .inl a_terms_became_f)), (a_links, .inl (cs 0, a_links_n, .inl a_links_f)), (a_pairs, .inr (1, [.ref a_pairs_items, .int a_pairs_size])), (a_pairs_items, .inl (cs 0, a_pairs_items_n, .inl a_pairs_items_f)), (a_joined, .inr (1, [.ref a_joined_items, .int a_joined_size])), (a_joined_items, .inl (cs 0, a_joined_items_n, .inl a_joined_items_f))] s.heap := hP
  have hl := lv_entry ([.ref a, .int x, .int y, .int mayBind]) (n := 7) (Nat.le_of_ble_eq_true rfl)
  rw [lg_entry_eq]
  generalize (lg_sl ([.ref a, .int x, .int y, .int mayBind]) ++ List.replicate (7 - (lg_sl ([.ref a, .int x, .int y, .int mayBind])).length) Slot.unset).toArray = ls at hl ⊢
  have hl : lv_has ls 7 [(0, .ref a), (1, .int x), (2, .int y), (3, .int mayBind)] := hl
  refine gq (fun Q hQ => ?_)
  obtain ⟨H, hH⟩ : ∃ H : Heap, H = s.heap := ⟨_, rfl⟩
  rw [← hH] at hP
  have hS : va_S A s.heap H [] := by rw [hH]; exact hS
  refine W.eqH hH ?_
  obtain ⟨locs, hlc⟩ : ∃ L : List Loc, L = [] := ⟨_, rfl⟩
  rw [← hlc] at hS ⊢
  unfold p_Unifier_joinAll at hok
  refine lv_aload_n hx hb d_Unifier_joinAll_0 rfl (lv_at hl 0 rfl) ?_
  refine va_get (D := g) (ci := 8) (v := .ref a_pairs) (C := R_Unifier) (T := F_Unifier) (N := 7) hx hb hg ul_Unifier hown hK hP 0 rfl rfl 3 (by decide) (hg _ wd_323) (fun _ h9 => h9) rfl d_Unifier_joinAll_1 ?_
  refine lv_iload_n hx hb d_Unifier_joinAll_4 rfl (lv_at hl 1 rfl) ?_
  obtain ⟨⟨⟨a_size_1, a_items_n_1, a_items_f_1⟩, mk1, sk1⟩, hc1, hok⟩ := bd_some hok
  dsimp only at hok
  obtain ⟨m1, s1, hok, hmc1, hms1⟩ := al_some hok
  obtain ⟨hPc, hDc, hFc⟩ := cut0 (wc := [(a_pairs, .inr (1, [.ref a_pairs_items, .int a_pairs_size])), (a_pairs_items, .inl (cs 0, a_pairs_items_n, .inl a_pairs_items_f))]) hP hD hS hA [9, 10] (by decide) rfl
  refine va_callv (va_runV (As := [.int x]) (rest := []) ⟨hx, hb, hml, hown, hg⟩ (c_Ints_push l g cs ka a_pairs a_pairs_items H.size x a_pairs_size a_pairs_items_n a_pairs_items_f a_size_1 a_items_n_1 a_items_f_1 mk1 sk1 hc1) (cwV (C := R_Ints) 1 hg (gw_V wd_335 wd_274 wd_275 wd_234 wd_272) rfl rfl rfl (by decide +kernel) ⟨Nat.le_of_ble_eq_true rfl, Nat.le_of_ble_eq_true rfl⟩) ⟨gP_blind, va_recv (q0 := 9) (ci := 1) (q := (R_Ints, F_Ints, 2)) hK hP rfl rfl, gP_pre hPc hDc hK hgl hkn hkr hS hFc⟩ rfl rfl hl.1 rfl (lv_room (Nat.le_of_ble_eq_true rfl)) d_Unifier_joinAll_5 ⟨show 0 + mk1 ≤ mc from by omega, show 0 + sk1 ≤ ms from by omega⟩) hS (fun q _ h => hFc q h) hFc (fun u t H locs ht hvm hr1 hB hz1 hk1 hS => ?_)
  rw [ht] at hB
  obtain ⟨a_items_1, hP1, hD1⟩ := hB
  obtain ⟨hP, hD⟩ := jn_A hP hD [9, 10] [0, 1, 2, 3, 4, 5, 6, 7, 8, 11, 12] rfl rfl (by decide) (by decide) hk1 hFc hP1 hD1
  obtain ⟨hP, hD⟩ : PD g A H [(a, .inr (8, [.ref a_terms, .ref a_links, .ref a_states, .ref a_pairs, .ref a_joined, .ref a_seen, .ref a_path])), (a_terms, .inr (7, [.ref a_terms_shapes, .ref a_terms_values, .ref a_terms_firstParts, .int a_terms_nodes, .ref a_terms_parts, .ref a_terms_variableNames, .ref a_terms_became, .int a_terms_variables, .int a_terms_variablesLack, .int a_terms_symbols, .int a_terms_nodesBefore, .int a_terms_partsBefore, .int a_terms_variablesBefore])), (a_terms_shapes, .inl (cs 0, a_terms_shapes_n, .inl a_terms_shapes_f)), (a_terms_values, .inl (cs 2, a_terms_values_n, .inr (.inl a_terms_values_f))), (a_terms_firstParts, .inl (cs 0, a_terms_firstParts_n, .inl a_terms_firstParts_f)), (a_terms_parts, .inr (1, [.ref a_terms_parts_items, .int a_terms_parts_size])), (a_terms_parts_items, .inl (cs 0, a_terms_parts_items_n, .inl a_terms_parts_items_f)), (a_terms_became, .inl (cs 0, a_terms_became_n, .inl a_terms_became_f)), (a_links, .inl (cs 0, a_links_n, .inl a_links_f)), (a_joined, .inr (1, [.ref a_joined_items, .int a_joined_size])), (a_joined_items, .inl (cs 0, a_joined_items_n, .inl a_joined_items_f)), (a_pairs, .inr (1, [.ref a_items_1, .int a_size_1])), (a_items_1, .inl (cs 0, a_items_n_1, .inl a_items_f_1))] := ⟨hP, hD⟩
  refine lv_aload_n hx hb d_Unifier_joinAll_8 rfl (lv_at hl 0 rfl) ?_
  refine va_get (D := g) (ci := 8) (v := .ref a_pairs) (C := R_Unifier) (T := F_Unifier) (N := 7) hx hb hg ul_Unifier hown hK hP 0 rfl rfl 3 (by decide) (hg _ wd_323) (fun _ h9 => h9) rfl d_Unifier_joinAll_9 ?_
  refine lv_iload_n hx hb d_Unifier_joinAll_12 rfl (lv_at hl 2 rfl) ?_
  obtain ⟨⟨⟨a_size_2, a_items_n_2, a_items_f_2⟩, mk2, sk2⟩, hc2, hok⟩ := bd_some hok
  dsimp only at hok
  obtain ⟨m2, s2, hok, hmc2, hms2⟩ := al_some hok
  obtain ⟨hPc, hDc, hFc⟩ := cut0 (wc := [(a_pairs, .inr (1, [.ref a_items_1, .int a_size_1])), (a_items_1, .inl (cs 0, a_items_n_1, .inl a_items_f_1))]) hP hD hS hA [11, 12] (by decide) rfl
  refine va_callv (va_runV (As := [.int y]) (rest := []) ⟨hx, hb, hml, hown, hg⟩ (c_Ints_push l g cs ka a_pairs a_items_1 H.size y a_size_1 a_items_n_1 a_items_f_1 a_size_2 a_items_n_2 a_items_f_2 mk2 sk2 hc2) (cwV (C := R_Ints) 1 hg (gw_V wd_335 wd_274 wd_275 wd_234 wd_272) rfl rfl rfl (by decide +kernel) ⟨Nat.le_of_ble_eq_true rfl, Nat.le_of_ble_eq_true rfl⟩) ⟨gP_blind, va_recv (q0 := 11) (ci := 1) (q := (R_Ints, F_Ints, 2)) hK hP rfl rfl, gP_pre hPc hDc hK hgl hkn hkr hS hFc⟩ rfl rfl hl.1 rfl (lv_room (Nat.le_of_ble_eq_true rfl)) d_Unifier_joinAll_13 ⟨show 0 + mk1 + mk2 ≤ mc from by omega, show 0 + sk1 + sk2 ≤ ms from by omega⟩) hS (fun q _ h => hFc q h) hFc (fun u t H locs ht hvm hr2 hB hz1 hk1 hS => ?_)
  rw [ht] at hB
  obtain ⟨a_items_2, hP1, hD1⟩ := hB
  obtain ⟨hP, hD⟩ := jn_A hP hD [11, 12] [0, 1, 2, 3, 4, 5, 6, 7, 8, 9, 10] rfl rfl (by decide) (by decide) hk1 hFc hP1 hD1
  obtain ⟨hP, hD⟩ : PD g A H [(a, .inr (8, [.ref a_terms, .ref a_links, .ref a_states, .ref a_pairs, .ref a_joined, .ref a_seen, .ref a_path])), (a_terms, .inr (7, [.ref a_terms_shapes, .ref a_terms_values, .ref a_terms_firstParts, .int a_terms_nodes, .ref a_terms_parts, .ref a_terms_variableNames, .ref a_terms_became, .int a_terms_variables, .int a_terms_variablesLack, .int a_terms_symbols, .int a_terms_nodesBefore, .int a_terms_partsBefore, .int a_terms_variablesBefore])), (a_terms_shapes, .inl (cs 0, a_terms_shapes_n, .inl a_terms_shapes_f)), (a_terms_values, .inl (cs 2, a_terms_values_n, .inr (.inl a_terms_values_f))), (a_terms_firstParts, .inl (cs 0, a_terms_firstParts_n, .inl a_terms_firstParts_f)), (a_terms_parts, .inr (1, [.ref a_terms_parts_items, .int a_terms_parts_size])), (a_terms_parts_items, .inl (cs 0, a_terms_parts_items_n, .inl a_terms_parts_items_f)), (a_terms_became, .inl (cs 0, a_terms_became_n, .inl a_terms_became_f)), (a_links, .inl (cs 0, a_links_n, .inl a_links_f)), (a_joined, .inr (1, [.ref a_joined_items, .int a_joined_size])), (a_joined_items, .inl (cs 0, a_joined_items_n, .inl a_joined_items_f)), (a_pairs, .inr (1, [.ref a_items_2, .int a_size_2])), (a_items_2, .inl (cs 0, a_items_n_2, .inl a_items_f_2))] := ⟨hP, hD⟩
  refine lv_iconst (v := 0) hx hb d_Unifier_joinAll_16 (by decide) ?_
  refine lv_istore hx hb d_Unifier_joinAll_17 hl (by decide) rfl (fun ls hl => ?_)
  have hl : lv_has ls 7 [(4, .int 0), (0, .ref a), (1, .int x), (2, .int y), (3, .int mayBind)] := hl
  have J3 : ∀ (kf3 : Nat) (H : Heap) (locs : List Loc) (ls : Array Slot) (cells3 slots3 mr3 sr3 : Nat) (a_joined_items_3 : Nat) (a_pairs_items_3 : Nat) (x4_3 : Int32) (a_joined_size_3 : Int32) (a_pairs_size_3 : Int32) (a_links_3f : Nat → Int32) (a_joined_items_3n : Nat) (a_joined_items_3f : Nat → Int32) (a_pairs_items_3n : Nat) (a_pairs_items_3f : Nat → Int32), lv_has ls 7 [(4, .int x4_3), (0, .ref a), (1, .int x), (2, .int y), (3, .int mayBind)] → PD g A H [(a, .inr (8, [.ref a_terms, .ref a_links, .ref a_states, .ref a_pairs, .ref a_joined, .ref a_seen, .ref a_path])), (a_terms, .inr (7, [.ref a_terms_shapes, .ref a_terms_values, .ref a_terms_firstParts, .int a_terms_nodes, .ref a_terms_parts, .ref a_terms_variableNames, .ref a_terms_became, .int a_terms_variables, .int a_terms_variablesLack, .int a_terms_symbols, .int a_terms_nodesBefore, .int a_terms_partsBefore, .int a_terms_variablesBefore])), (a_terms_shapes, .inl (cs 0, a_terms_shapes_n, .inl a_terms_shapes_f)), (a_terms_values, .inl (cs 2, a_terms_values_n, .inr (.inl a_terms_values_f))), (a_terms_firstParts, .inl (cs 0, a_terms_firstParts_n, .inl a_terms_firstParts_f)), (a_terms_parts, .inr (1, [.ref a_terms_parts_items, .int a_terms_parts_size])), (a_terms_parts_items, .inl (cs 0, a_terms_parts_items_n, .inl a_terms_parts_items_f)), (a_terms_became, .inl (cs 0, a_terms_became_n, .inl a_terms_became_f)), (a_links, .inl (cs 0, a_links_n, .inl a_links_3f)), (a_joined, .inr (1, [.ref a_joined_items_3, .int a_joined_size_3])), (a_joined_items_3, .inl (cs 0, a_joined_items_3n, .inl a_joined_items_3f)), (a_pairs, .inr (1, [.ref a_pairs_items_3, .int a_pairs_size_3])), (a_pairs_items_3, .inl (cs 0, a_pairs_items_3n, .inl a_pairs_items_3f))] → va_S A s.heap H locs → cells3 + mr3 = mc → slots3 + sr3 = ms → p_Unifier_joinAll_19 n mayBind a_terms_nodes a_terms_variables a_terms_variablesLack a_terms_symbols a_terms_nodesBefore a_terms_partsBefore a_terms_variablesBefore a_terms_shapes_n a_terms_shapes_f a_terms_values_n a_terms_values_f a_terms_firstParts_n a_terms_firstParts_f a_terms_parts_size a_terms_parts_items_n a_terms_parts_items_f a_terms_became_n a_terms_became_f a_links_n kf3 x4_3 a_joined_size_3 a_pairs_size_3 a_links_3f a_joined_items_3n a_joined_items_3f a_pairs_items_3n a_pairs_items_3f = some ((r, o_a_links_f, o_a_pairs_size, o_a_pairs_items_n, o_a_pairs_items_f, o_a_joined_size, o_a_joined_items_n, o_a_joined_items_f), mr3, sr3) → W p l e (headSpec (.code y_Unifier_joinAll b_Unifier_joinAll 7 (some .boolean) :: GW) { frames := 5, cells := mc, slots := ms, locals := 189 }).room s m ([.ref a, .int x, .int y, .int mayBind] : List Value).toArray below meth c H locs cells3 slots3 Q (F0 m 19 ls []) := by
    intro kf3
    induction kf3 with
    | zero => intro H locs ls cells3 slots3 mr3 sr3 a_joined_items_3 a_pairs_items_3 x4_3 a_joined_size_3 a_pairs_size_3 a_links_3f a_joined_items_3n a_joined_items_3f a_pairs_items_3n a_pairs_items_3f hl ⟨hP, hD⟩ hS hmr3 hsr3 hok; rw [p_Unifier_joinAll_19] at hok; cases hok
    | succ kf3 ih3 =>
      intro H locs ls cells3 slots3 mr3 sr3 a_joined_items_3 a_pairs_items_3 x4_3 a_joined_size_3 a_pairs_size_3 a_links_3f a_joined_items_3n a_joined_items_3f a_pairs_items_3n a_pairs_items_3f hl ⟨hP, hD⟩ hS hmr3 hsr3 hok
      rw [p_Unifier_joinAll_19] at hok
      refine lv_iload hx hb d_Unifier_joinAll_19 (lv_at hl 0 rfl) ?_
      refine lv_ldc hx hb hown (hg _ wd_340) d_Unifier_joinAll_21 ?_
      refine lv_icmp_ge hx hb d_Unifier_joinAll_23 rfl (fun h4 => ?_) (fun h4 => ?_)
      · rw [if_pos h4] at hok
        refine lv_aload_n hx hb d_Unifier_joinAll_89 rfl (lv_at hl 1 rfl) ?_
        refine va_get (D := g) (ci := 8) (v := .ref a_pairs) (C := R_Unifier) (T := F_Unifier) (N := 7) hx hb hg ul_Unifier hown hK hP 0 rfl rfl 3 (by decide) (hg _ wd_323) (fun _ h9 => h9) rfl d_Unifier_joinAll_90 ?_
        obtain ⟨r5, hc5, hok⟩ := bd_some hok
        obtain ⟨hPc, hDc, hFc⟩ := cut0 (wc := [(a_pairs, .inr (1, [.ref a_pairs_items_3, .int a_pairs_size_3]))]) hP hD hS hA [11] (by decide) rfl
        refine va_calli (va_runV (As := []) (rest := []) ⟨hx, hb, hml, hown, hg⟩ (c_Ints_size l g cs ka a_pairs_items_3 a_pairs H.size a_pairs_size_3 r5 hc5) (cwV (C := R_Ints) 0 hg (gw_V wd_332 wd_249 wd_250 wd_234 wd_247) rfl rfl rfl (by decide +kernel) ⟨Nat.le_of_ble_eq_true rfl, Nat.le_of_ble_eq_true rfl⟩) ⟨gP_blind, va_recv (q0 := 11) (ci := 1) (q := (R_Ints, F_Ints, 2)) hK hP rfl rfl, gP_pre hPc hDc hK hgl hkn hkr hS hFc⟩ rfl rfl hl.1 rfl (lv_room (Nat.le_of_ble_eq_true rfl)) d_Unifier_joinAll_93 ⟨show cells3 + 0 ≤ mc from by omega, show slots3 + 0 ≤ ms from by omega⟩) hS (fun q _ h => hFc q h) hFc (fun r5' u t H locs ht hvm hr5 hB hz1 hk1 hS => ?_)
        subst hr5
        rw [ht] at hB
        obtain ⟨hP1, hD1⟩ := hB
        obtain ⟨hP, hD⟩ := jn_A hP hD [11] [0, 1, 2, 3, 4, 5, 6, 7, 8, 9, 10, 12] rfl rfl (by decide) (by decide) hk1 hFc hP1 hD1
        obtain ⟨hP, hD⟩ : PD g A H [(a, .inr (8, [.ref a_terms, .ref a_links, .ref a_states, .ref a_pairs, .ref a_joined, .ref a_seen, .ref a_path])), (a_terms, .inr (7, [.ref a_terms_shapes, .ref a_terms_values, .ref a_terms_firstParts, .int a_terms_nodes, .ref a_terms_parts, .ref a_terms_variableNames, .ref a_terms_became, .int a_terms_variables, .int a_terms_variablesLack, .int a_terms_symbols, .int a_terms_nodesBefore, .int a_terms_partsBefore, .int a_terms_variablesBefore])), (a_terms_shapes, .inl (cs 0, a_terms_shapes_n, .inl a_terms_shapes_f)), (a_terms_values, .inl (cs 2, a_terms_values_n, .inr (.inl a_terms_values_f))), (a_terms_firstParts, .inl (cs 0, a_terms_firstParts_n, .inl a_terms_firstParts_f)), (a_terms_parts, .inr (1, [.ref a_terms_parts_items, .int a_terms_parts_size])), (a_terms_parts_items, .inl (cs 0, a_terms_parts_items_n, .inl a_terms_parts_items_f)), (a_terms_became, .inl (cs 0, a_terms_became_n, .inl a_terms_became_f)), (a_links, .inl (cs 0, a_links_n, .inl a_links_3f)), (a_joined, .inr (1, [.ref a_joined_items_3, .int a_joined_size_3])), (a_joined_items_3, .inl (cs 0, a_joined_items_3n, .inl a_joined_items_3f)), (a_pairs_items_3, .inl (cs 0, a_pairs_items_3n, .inl a_pairs_items_3f)), (a_pairs, .inr (1, [.ref a_pairs_items_3, .int a_pairs_size_3]))] := ⟨hP, hD⟩
        refine lv_if_ne hx hb d_Unifier_joinAll_96 rfl (fun h6 => ?_) (fun h6 => ?_)
        · rw [if_neg h6] at hok
          refine lv_iconst (v := 0) hx hb d_Unifier_joinAll_103 (by decide) ?_
          obtain ⟨hq, hw⟩ := Prod.mk.inj (Option.some.inj hok)
          obtain ⟨hmc0, hms0⟩ := Prod.mk.inj hw
          obtain ⟨hq0, hq⟩ := Prod.mk.inj hq
          obtain ⟨hq1, hq⟩ := Prod.mk.inj hq
          obtain ⟨hq2, hq⟩ := Prod.mk.inj hq
          obtain ⟨hq3, hq⟩ := Prod.mk.inj hq
          obtain ⟨hq4, hq⟩ := Prod.mk.inj hq
          obtain ⟨hq5, hq⟩ := Prod.mk.inj hq
          obtain ⟨hq6, hq⟩ := Prod.mk.inj hq
          have hq7 := hq
          subst hq0
          subst hq1
          subst hq2
          subst hq3
          subst hq4
          subst hq5
          subst hq6
          subst hq7
          obtain ⟨hP9, hD9⟩ := sub2 (ws' := [(a, .inr (8, [.ref a_terms, .ref a_links, .ref a_states, .ref a_pairs, .ref a_joined, .ref a_seen, .ref a_path])), (a_terms, .inr (7, [.ref a_terms_shapes, .ref a_terms_values, .ref a_terms_firstParts, .int a_terms_nodes, .ref a_terms_parts, .ref a_terms_variableNames, .ref a_terms_became, .int a_terms_variables, .int a_terms_variablesLack, .int a_terms_symbols, .int a_terms_nodesBefore, .int a_terms_partsBefore, .int a_terms_variablesBefore])), (a_terms_shapes, .inl (cs 0, a_terms_shapes_n, .inl a_terms_shapes_f)), (a_terms_values, .inl (cs 2, a_terms_values_n, .inr (.inl a_terms_values_f))), (a_terms_firstParts, .inl (cs 0, a_terms_firstParts_n, .inl a_terms_firstParts_f)), (a_terms_parts, .inr (1, [.ref a_terms_parts_items, .int a_terms_parts_size])), (a_terms_parts_items, .inl (cs 0, a_terms_parts_items_n, .inl a_terms_parts_items_f)), (a_terms_became, .inl (cs 0, a_terms_became_n, .inl a_terms_became_f)), (a_links, .inl (cs 0, a_links_n, .inl a_links_3f)), (a_pairs, .inr (1, [.ref a_pairs_items_3, .int a_pairs_size_3])), (a_pairs_items_3, .inl (cs 0, a_pairs_items_3n, .inl a_pairs_items_3f)), (a_joined, .inr (1, [.ref a_joined_items_3, .int a_joined_size_3])), (a_joined_items_3, .inl (cs 0, a_joined_items_3n, .inl a_joined_items_3f))]) hP hD [0, 1, 2, 3, 4, 5, 6, 7, 8, 12, 11, 9, 10] rfl (by decide) rfl
          refine W.widen (k := mc) (n := ms) (by omega) (by omega) ?_
          rw [hQ]
          exact W.zret (v := 0) hx hb hr rfl (fun t ht hW => ⟨⟨_, (), rfl, rfl, a_pairs_items_3, a_joined_items_3, by rw [ht]; exact hP9, hD9⟩, hS.F ht⟩) hS.2.2 d_Unifier_joinAll_104
        · rw [if_pos h6] at hok
          refine lv_iconst (v := 1) hx hb d_Unifier_joinAll_99 (by decide) ?_
          refine lv_goto hx hb d_Unifier_joinAll_100 rfl ?_
          obtain ⟨hq, hw⟩ := Prod.mk.inj (Option.some.inj hok)
          obtain ⟨hmc0, hms0⟩ := Prod.mk.inj hw
          obtain ⟨hq0, hq⟩ := Prod.mk.inj hq
          obtain ⟨hq1, hq⟩ := Prod.mk.inj hq
          obtain ⟨hq2, hq⟩ := Prod.mk.inj hq
          obtain ⟨hq3, hq⟩ := Prod.mk.inj hq
          obtain ⟨hq4, hq⟩ := Prod.mk.inj hq
          obtain ⟨hq5, hq⟩ := Prod.mk.inj hq
          obtain ⟨hq6, hq⟩ := Prod.mk.inj hq
          have hq7 := hq
          subst hq0
          subst hq1
          subst hq2
          subst hq3
          subst hq4
          subst hq5
          subst hq6
          subst hq7
          obtain ⟨hP9, hD9⟩ := sub2 (ws' := [(a, .inr (8, [.ref a_terms, .ref a_links, .ref a_states, .ref a_pairs, .ref a_joined, .ref a_seen, .ref a_path])), (a_terms, .inr (7, [.ref a_terms_shapes, .ref a_terms_values, .ref a_terms_firstParts, .int a_terms_nodes, .ref a_terms_parts, .ref a_terms_variableNames, .ref a_terms_became, .int a_terms_variables, .int a_terms_variablesLack, .int a_terms_symbols, .int a_terms_nodesBefore, .int a_terms_partsBefore, .int a_terms_variablesBefore])), (a_terms_shapes, .inl (cs 0, a_terms_shapes_n, .inl a_terms_shapes_f)), (a_terms_values, .inl (cs 2, a_terms_values_n, .inr (.inl a_terms_values_f))), (a_terms_firstParts, .inl (cs 0, a_terms_firstParts_n, .inl a_terms_firstParts_f)), (a_terms_parts, .inr (1, [.ref a_terms_parts_items, .int a_terms_parts_size])), (a_terms_parts_items, .inl (cs 0, a_terms_parts_items_n, .inl a_terms_parts_items_f)), (a_terms_became, .inl (cs 0, a_terms_became_n, .inl a_terms_became_f)), (a_links, .inl (cs 0, a_links_n, .inl a_links_3f)), (a_pairs, .inr (1, [.ref a_pairs_items_3, .int a_pairs_size_3])), (a_pairs_items_3, .inl (cs 0, a_pairs_items_3n, .inl a_pairs_items_3f)), (a_joined, .inr (1, [.ref a_joined_items_3, .int a_joined_size_3])), (a_joined_items_3, .inl (cs 0, a_joined_items_3n, .inl a_joined_items_3f))]) hP hD [0, 1, 2, 3, 4, 5, 6, 7, 8, 12, 11, 9, 10] rfl (by decide) rfl
          refine W.widen (k := mc) (n := ms) (by omega) (by omega) ?_
          rw [hQ]
          exact W.zret (v := 1) hx hb hr rfl (fun t ht hW => ⟨⟨_, (), rfl, rfl, a_pairs_items_3, a_joined_items_3, by rw [ht]; exact hP9, hD9⟩, hS.F ht⟩) hS.2.2 d_Unifier_joinAll_104
      · rw [if_neg h4] at hok
        refine lv_aload_n hx hb d_Unifier_joinAll_26 rfl (lv_at hl 1 rfl) ?_
        refine va_get (D := g) (ci := 8) (v := .ref a_pairs) (C := R_Unifier) (T := F_Unifier) (N := 7) hx hb hg ul_Unifier hown hK hP 0 rfl rfl 3 (by decide) (hg _ wd_323) (fun _ h9 => h9) rfl d_Unifier_joinAll_27 ?_
        obtain ⟨r7, hc7, hok⟩ := bd_some hok
        obtain ⟨hPc, hDc, hFc⟩ := cut0 (wc := [(a_pairs, .inr (1, [.ref a_pairs_items_3, .int a_pairs_size_3]))]) hP hD hS hA [11] (by decide) rfl
        refine va_calli (va_runV (As := []) (rest := []) ⟨hx, hb, hml, hown, hg⟩ (c_Ints_size l g cs ka a_pairs_items_3 a_pairs H.size a_pairs_size_3 r7 hc7) (cwV (C := R_Ints) 0 hg (gw_V wd_332 wd_249 wd_250 wd_234 wd_247) rfl rfl rfl (by decide +kernel) ⟨Nat.le_of_ble_eq_true rfl, Nat.le_of_ble_eq_true rfl⟩) ⟨gP_blind, va_recv (q0 := 11) (ci := 1) (q := (R_Ints, F_Ints, 2)) hK hP rfl rfl, gP_pre hPc hDc hK hgl hkn hkr hS hFc⟩ rfl rfl hl.1 rfl (lv_room (Nat.le_of_ble_eq_true rfl)) d_Unifier_joinAll_30 ⟨show cells3 + 0 ≤ mc from by omega, show slots3 + 0 ≤ ms from by omega⟩) hS (fun q _ h => hFc q h) hFc (fun r7' u t H locs ht hvm hr7 hB hz1 hk1 hS => ?_)
        subst hr7
        rw [ht] at hB
        obtain ⟨hP1, hD1⟩ := hB
        obtain ⟨hP, hD⟩ := jn_A hP hD [11] [0, 1, 2, 3, 4, 5, 6, 7, 8, 9, 10, 12] rfl rfl (by decide) (by decide) hk1 hFc hP1 hD1
        obtain ⟨hP, hD⟩ : PD g A H [(a, .inr (8, [.ref a_terms, .ref a_links, .ref a_states, .ref a_pairs, .ref a_joined, .ref a_seen, .ref a_path])), (a_terms, .inr (7, [.ref a_terms_shapes, .ref a_terms_values, .ref a_terms_firstParts, .int a_terms_nodes, .ref a_terms_parts, .ref a_terms_variableNames, .ref a_terms_became, .int a_terms_variables, .int a_terms_variablesLack, .int a_terms_symbols, .int a_terms_nodesBefore, .int a_terms_partsBefore, .int a_terms_variablesBefore])), (a_terms_shapes, .inl (cs 0, a_terms_shapes_n, .inl a_terms_shapes_f)), (a_terms_values, .inl (cs 2, a_terms_values_n, .inr (.inl a_terms_values_f))), (a_terms_firstParts, .inl (cs 0, a_terms_firstParts_n, .inl a_terms_firstParts_f)), (a_terms_parts, .inr (1, [.ref a_terms_parts_items, .int a_terms_parts_size])), (a_terms_parts_items, .inl (cs 0, a_terms_parts_items_n, .inl a_terms_parts_items_f)), (a_terms_became, .inl (cs 0, a_terms_became_n, .inl a_terms_became_f)), (a_links, .inl (cs 0, a_links_n, .inl a_links_3f)), (a_joined, .inr (1, [.ref a_joined_items_3, .int a_joined_size_3])), (a_joined_items_3, .inl (cs 0, a_joined_items_3n, .inl a_joined_items_3f)), (a_pairs_items_3, .inl (cs 0, a_pairs_items_3n, .inl a_pairs_items_3f)), (a_pairs, .inr (1, [.ref a_pairs_items_3, .int a_pairs_size_3]))] := ⟨hP, hD⟩
        refine lv_if_le hx hb d_Unifier_joinAll_33 rfl (fun h8 => ?_) (fun h8 => ?_)
        · rw [if_pos h8] at hok
          refine lv_aload_n hx hb d_Unifier_joinAll_89 rfl (lv_at hl 1 rfl) ?_
          refine va_get (D := g) (ci := 8) (v := .ref a_pairs) (C := R_Unifier) (T := F_Unifier) (N := 7) hx hb hg ul_Unifier hown hK hP 0 rfl rfl 3 (by decide) (hg _ wd_323) (fun _ h9 => h9) rfl d_Unifier_joinAll_90 ?_
          obtain ⟨r9, hc9, hok⟩ := bd_some hok
          obtain ⟨hPc, hDc, hFc⟩ := cut0 (wc := [(a_pairs, .inr (1, [.ref a_pairs_items_3, .int a_pairs_size_3]))]) hP hD hS hA [12] (by decide) rfl
          refine va_calli (va_runV (As := []) (rest := []) ⟨hx, hb, hml, hown, hg⟩ (c_Ints_size l g cs ka a_pairs_items_3 a_pairs H.size a_pairs_size_3 r9 hc9) (cwV (C := R_Ints) 0 hg (gw_V wd_332 wd_249 wd_250 wd_234 wd_247) rfl rfl rfl (by decide +kernel) ⟨Nat.le_of_ble_eq_true rfl, Nat.le_of_ble_eq_true rfl⟩) ⟨gP_blind, va_recv (q0 := 12) (ci := 1) (q := (R_Ints, F_Ints, 2)) hK hP rfl rfl, gP_pre hPc hDc hK hgl hkn hkr hS hFc⟩ rfl rfl hl.1 rfl (lv_room (Nat.le_of_ble_eq_true rfl)) d_Unifier_joinAll_93 ⟨show cells3 + 0 + 0 ≤ mc from by omega, show slots3 + 0 + 0 ≤ ms from by omega⟩) hS (fun q _ h => hFc q h) hFc (fun r9' u t H locs ht hvm hr9 hB hz1 hk1 hS => ?_)
          subst hr9
          rw [ht] at hB
          obtain ⟨hP1, hD1⟩ := hB
          obtain ⟨hP, hD⟩ := jn_A hP hD [12] [0, 1, 2, 3, 4, 5, 6, 7, 8, 9, 10, 11] rfl rfl (by decide) (by decide) hk1 hFc hP1 hD1
          obtain ⟨hP, hD⟩ : PD g A H [(a, .inr (8, [.ref a_terms, .ref a_links, .ref a_states, .ref a_pairs, .ref a_joined, .ref a_seen, .ref a_path])), (a_terms, .inr (7, [.ref a_terms_shapes, .ref a_terms_values, .ref a_terms_firstParts, .int a_terms_nodes, .ref a_terms_parts, .ref a_terms_variableNames, .ref a_terms_became, .int a_terms_variables, .int a_terms_variablesLack, .int a_terms_symbols, .int a_terms_nodesBefore, .int a_terms_partsBefore, .int a_terms_variablesBefore])), (a_terms_shapes, .inl (cs 0, a_terms_shapes_n, .inl a_terms_shapes_f)), (a_terms_values, .inl (cs 2, a_terms_values_n, .inr (.inl a_terms_values_f))), (a_terms_firstParts, .inl (cs 0, a_terms_firstParts_n, .inl a_terms_firstParts_f)), (a_terms_parts, .inr (1, [.ref a_terms_parts_items, .int a_terms_parts_size])), (a_terms_parts_items, .inl (cs 0, a_terms_parts_items_n, .inl a_terms_parts_items_f)), (a_terms_became, .inl (cs 0, a_terms_became_n, .inl a_terms_became_f)), (a_links, .inl (cs 0, a_links_n, .inl a_links_3f)), (a_joined, .inr (1, [.ref a_joined_items_3, .int a_joined_size_3])), (a_joined_items_3, .inl (cs 0, a_joined_items_3n, .inl a_joined_items_3f)), (a_pairs_items_3, .inl (cs 0, a_pairs_items_3n, .inl a_pairs_items_3f)), (a_pairs, .inr (1, [.ref a_pairs_items_3, .int a_pairs_size_3]))] := ⟨hP, hD⟩
          refine lv_if_ne hx hb d_Unifier_joinAll_96 rfl (fun h10 => ?_) (fun h10 => ?_)
          · rw [if_neg h10] at hok
            refine lv_iconst (v := 0) hx hb d_Unifier_joinAll_103 (by decide) ?_
            obtain ⟨hq, hw⟩ := Prod.mk.inj (Option.some.inj hok)
            obtain ⟨hmc0, hms0⟩ := Prod.mk.inj hw
            obtain ⟨hq0, hq⟩ := Prod.mk.inj hq
            obtain ⟨hq1, hq⟩ := Prod.mk.inj hq
            obtain ⟨hq2, hq⟩ := Prod.mk.inj hq
            obtain ⟨hq3, hq⟩ := Prod.mk.inj hq
            obtain ⟨hq4, hq⟩ := Prod.mk.inj hq
            obtain ⟨hq5, hq⟩ := Prod.mk.inj hq
            obtain ⟨hq6, hq⟩ := Prod.mk.inj hq
            have hq7 := hq
            subst hq0
            subst hq1
            subst hq2
            subst hq3
            subst hq4
            subst hq5
            subst hq6
            subst hq7
            obtain ⟨hP9, hD9⟩ := sub2 (ws' := [(a, .inr (8, [.ref a_terms, .ref a_links, .ref a_states, .ref a_pairs, .ref a_joined, .ref a_seen, .ref a_path])), (a_terms, .inr (7, [.ref a_terms_shapes, .ref a_terms_values, .ref a_terms_firstParts, .int a_terms_nodes, .ref a_terms_parts, .ref a_terms_variableNames, .ref a_terms_became, .int a_terms_variables, .int a_terms_variablesLack, .int a_terms_symbols, .int a_terms_nodesBefore, .int a_terms_partsBefore, .int a_terms_variablesBefore])), (a_terms_shapes, .inl (cs 0, a_terms_shapes_n, .inl a_terms_shapes_f)), (a_terms_values, .inl (cs 2, a_terms_values_n, .inr (.inl a_terms_values_f))), (a_terms_firstParts, .inl (cs 0, a_terms_firstParts_n, .inl a_terms_firstParts_f)), (a_terms_parts, .inr (1, [.ref a_terms_parts_items, .int a_terms_parts_size])), (a_terms_parts_items, .inl (cs 0, a_terms_parts_items_n, .inl a_terms_parts_items_f)), (a_terms_became, .inl (cs 0, a_terms_became_n, .inl a_terms_became_f)), (a_links, .inl (cs 0, a_links_n, .inl a_links_3f)), (a_pairs, .inr (1, [.ref a_pairs_items_3, .int a_pairs_size_3])), (a_pairs_items_3, .inl (cs 0, a_pairs_items_3n, .inl a_pairs_items_3f)), (a_joined, .inr (1, [.ref a_joined_items_3, .int a_joined_size_3])), (a_joined_items_3, .inl (cs 0, a_joined_items_3n, .inl a_joined_items_3f))]) hP hD [0, 1, 2, 3, 4, 5, 6, 7, 8, 12, 11, 9, 10] rfl (by decide) rfl
            refine W.widen (k := mc) (n := ms) (by omega) (by omega) ?_
            rw [hQ]
            exact W.zret (v := 0) hx hb hr rfl (fun t ht hW => ⟨⟨_, (), rfl, rfl, a_pairs_items_3, a_joined_items_3, by rw [ht]; exact hP9, hD9⟩, hS.F ht⟩) hS.2.2 d_Unifier_joinAll_104
          · rw [if_pos h10] at hok
            refine lv_iconst (v := 1) hx hb d_Unifier_joinAll_99 (by decide) ?_
            refine lv_goto hx hb d_Unifier_joinAll_100 rfl ?_
            obtain ⟨hq, hw⟩ := Prod.mk.inj (Option.some.inj hok)
            obtain ⟨hmc0, hms0⟩ := Prod.mk.inj hw
            obtain ⟨hq0, hq⟩ := Prod.mk.inj hq
            obtain ⟨hq1, hq⟩ := Prod.mk.inj hq
            obtain ⟨hq2, hq⟩ := Prod.mk.inj hq
            obtain ⟨hq3, hq⟩ := Prod.mk.inj hq
            obtain ⟨hq4, hq⟩ := Prod.mk.inj hq
            obtain ⟨hq5, hq⟩ := Prod.mk.inj hq
            obtain ⟨hq6, hq⟩ := Prod.mk.inj hq
            have hq7 := hq
            subst hq0
            subst hq1
            subst hq2
            subst hq3
            subst hq4
            subst hq5
            subst hq6
            subst hq7
            obtain ⟨hP9, hD9⟩ := sub2 (ws' := [(a, .inr (8, [.ref a_terms, .ref a_links, .ref a_states, .ref a_pairs, .ref a_joined, .ref a_seen, .ref a_path])), (a_terms, .inr (7, [.ref a_terms_shapes, .ref a_terms_values, .ref a_terms_firstParts, .int a_terms_nodes, .ref a_terms_parts, .ref a_terms_variableNames, .ref a_terms_became, .int a_terms_variables, .int a_terms_variablesLack, .int a_terms_symbols, .int a_terms_nodesBefore, .int a_terms_partsBefore, .int a_terms_variablesBefore])), (a_terms_shapes, .inl (cs 0, a_terms_shapes_n, .inl a_terms_shapes_f)), (a_terms_values, .inl (cs 2, a_terms_values_n, .inr (.inl a_terms_values_f))), (a_terms_firstParts, .inl (cs 0, a_terms_firstParts_n, .inl a_terms_firstParts_f)), (a_terms_parts, .inr (1, [.ref a_terms_parts_items, .int a_terms_parts_size])), (a_terms_parts_items, .inl (cs 0, a_terms_parts_items_n, .inl a_terms_parts_items_f)), (a_terms_became, .inl (cs 0, a_terms_became_n, .inl a_terms_became_f)), (a_links, .inl (cs 0, a_links_n, .inl a_links_3f)), (a_pairs, .inr (1, [.ref a_pairs_items_3, .int a_pairs_size_3])), (a_pairs_items_3, .inl (cs 0, a_pairs_items_3n, .inl a_pairs_items_3f)), (a_joined, .inr (1, [.ref a_joined_items_3, .int a_joined_size_3])), (a_joined_items_3, .inl (cs 0, a_joined_items_3n, .inl a_joined_items_3f))]) hP hD [0, 1, 2, 3, 4, 5, 6, 7, 8, 12, 11, 9, 10] rfl (by decide) rfl
            refine W.widen (k := mc) (n := ms) (by omega) (by omega) ?_
            rw [hQ]
            exact W.zret (v := 1) hx hb hr rfl (fun t ht hW => ⟨⟨_, (), rfl, rfl, a_pairs_items_3, a_joined_items_3, by rw [ht]; exact hP9, hD9⟩, hS.F ht⟩) hS.2.2 d_Unifier_joinAll_104
        · rw [if_neg h8] at hok
          refine lv_aload_n hx hb d_Unifier_joinAll_36 rfl (lv_at hl 1 rfl) ?_
          refine lv_aload_n hx hb d_Unifier_joinAll_37 rfl (lv_at hl 1 rfl) ?_
          refine va_get (D := g) (ci := 8) (v := .ref a_pairs) (C := R_Unifier) (T := F_Unifier) (N := 7) hx hb hg ul_Unifier hown hK hP 0 rfl rfl 3 (by decide) (hg _ wd_323) (fun _ h9 => h9) rfl d_Unifier_joinAll_38 ?_
          obtain ⟨⟨r11, a_size_11⟩, hc11, hok⟩ := bd_some hok
          dsimp only at hok
          obtain ⟨hPc, hDc, hFc⟩ := cut0 (wc := [(a_pairs, .inr (1, [.ref a_pairs_items_3, .int a_pairs_size_3])), (a_pairs_items_3, .inl (cs 0, a_pairs_items_3n, .inl a_pairs_items_3f))]) hP hD hS hA [12, 11] (by decide) rfl
          refine va_calli (va_runV (As := []) (rest := [.ref a]) ⟨hx, hb, hml, hown, hg⟩ (c_Ints_pop l g cs ka a_pairs a_pairs_items_3 H.size a_pairs_size_3 a_pairs_items_3n a_pairs_items_3f r11 a_size_11 hc11) (cwV (C := R_Ints) 0 hg (gw_V wd_362 wd_279 wd_280 wd_234 wd_277) rfl rfl rfl (by decide +kernel) ⟨Nat.le_of_ble_eq_true rfl, Nat.le_of_ble_eq_true rfl⟩) ⟨gP_blind, va_recv (q0 := 12) (ci := 1) (q := (R_Ints, F_Ints, 2)) hK hP rfl rfl, gP_pre hPc hDc hK hgl hkn hkr hS hFc⟩ rfl rfl hl.1 rfl (lv_room (Nat.le_of_ble_eq_true rfl)) d_Unifier_joinAll_41 ⟨show cells3 + 0 + 0 ≤ mc from by omega, show slots3 + 0 + 0 ≤ ms from by omega⟩) hS (fun q _ h => hFc q h) hFc (fun r11' u t H locs ht hvm hr11 hB hz1 hk1 hS => ?_)
          subst hr11
          rw [ht] at hB
          obtain ⟨hP1, hD1⟩ := hB
          obtain ⟨hP, hD⟩ := jn_A hP hD [12, 11] [0, 1, 2, 3, 4, 5, 6, 7, 8, 9, 10] rfl rfl (by decide) (by decide) hk1 hFc hP1 hD1
          obtain ⟨hP, hD⟩ : PD g A H [(a, .inr (8, [.ref a_terms, .ref a_links, .ref a_states, .ref a_pairs, .ref a_joined, .ref a_seen, .ref a_path])), (a_terms, .inr (7, [.ref a_terms_shapes, .ref a_terms_values, .ref a_terms_firstParts, .int a_terms_nodes, .ref a_terms_parts, .ref a_terms_variableNames, .ref a_terms_became, .int a_terms_variables, .int a_terms_variablesLack, .int a_terms_symbols, .int a_terms_nodesBefore, .int a_terms_partsBefore, .int a_terms_variablesBefore])), (a_terms_shapes, .inl (cs 0, a_terms_shapes_n, .inl a_terms_shapes_f)), (a_terms_values, .inl (cs 2, a_terms_values_n, .inr (.inl a_terms_values_f))), (a_terms_firstParts, .inl (cs 0, a_terms_firstParts_n, .inl a_terms_firstParts_f)), (a_terms_parts, .inr (1, [.ref a_terms_parts_items, .int a_terms_parts_size])), (a_terms_parts_items, .inl (cs 0, a_terms_parts_items_n, .inl a_terms_parts_items_f)), (a_terms_became, .inl (cs 0, a_terms_became_n, .inl a_terms_became_f)), (a_links, .inl (cs 0, a_links_n, .inl a_links_3f)), (a_joined, .inr (1, [.ref a_joined_items_3, .int a_joined_size_3])), (a_joined_items_3, .inl (cs 0, a_joined_items_3n, .inl a_joined_items_3f)), (a_pairs, .inr (1, [.ref a_pairs_items_3, .int a_size_11])), (a_pairs_items_3, .inl (cs 0, a_pairs_items_3n, .inl a_pairs_items_3f))] := ⟨hP, hD⟩
          obtain ⟨⟨r12, a_links_f_12⟩, hc12, hok⟩ := bd_some hok
          dsimp only at hok
          obtain ⟨hPc, hDc, hFc⟩ := cut0 (wc := [(a, .inr (8, [.ref a_terms, .ref a_links, .ref a_states, .ref a_pairs, .ref a_joined, .ref a_seen, .ref a_path])), (a_terms, .inr (7, [.ref a_terms_shapes, .ref a_terms_values, .ref a_terms_firstParts, .int a_terms_nodes, .ref a_terms_parts, .ref a_terms_variableNames, .ref a_terms_became, .int a_terms_variables, .int a_terms_variablesLack, .int a_terms_symbols, .int a_terms_nodesBefore, .int a_terms_partsBefore, .int a_terms_variablesBefore])), (a_terms_became, .inl (cs 0, a_terms_became_n, .inl a_terms_became_f)), (a_links, .inl (cs 0, a_links_n, .inl a_links_3f))]) hP hD hS hA [0, 1, 7, 8] (by decide) rfl
          refine va_calli (va_runV (As := [.int r11]) (rest := []) ⟨hx, hb, hml, hown, hg⟩ (c_Unifier_rootOf l g cs ka a_states a_pairs a_joined a_seen a_path a_terms_shapes a_terms_values a_terms_firstParts a_terms_parts a_terms_variableNames a a_terms a_terms_became a_links H.size n r11 a_terms_nodes a_terms_variables a_terms_variablesLack a_terms_symbols a_terms_nodesBefore a_terms_partsBefore a_terms_variablesBefore a_terms_became_n a_terms_became_f a_links_n a_links_3f r12 a_links_f_12 hc12) (cwV (C := R_Unifier) 1 hg (gw_V wd_364 wd_365 wd_366 wd_350 wd_363) rfl rfl rfl (by decide +kernel) ⟨Nat.le_of_ble_eq_true rfl, Nat.le_of_ble_eq_true rfl⟩) ⟨gP_blind, va_recv (q0 := 0) (ci := 8) (q := (R_Unifier, F_Unifier, 7)) hK hP rfl rfl, gP_pre hPc hDc hK hgl hkn hkr hS hFc⟩ rfl rfl hl.1 rfl (lv_room (Nat.le_of_ble_eq_true rfl)) d_Unifier_joinAll_44 ⟨show cells3 + 0 + 0 + 0 ≤ mc from by omega, show slots3 + 0 + 0 + 0 ≤ ms from by omega⟩) hS (fun q _ h => hFc q h) hFc (fun r12' u t H locs ht hvm hr12 hB hz1 hk1 hS => ?_)
          subst hr12
          rw [ht] at hB
          obtain ⟨hP1, hD1⟩ := hB
          obtain ⟨hP, hD⟩ := jn_A hP hD [0, 1, 7, 8] [2, 3, 4, 5, 6, 9, 10, 11, 12] rfl rfl (by decide) (by decide) hk1 hFc hP1 hD1
          obtain ⟨hP, hD⟩ : PD g A H [(a_terms_shapes, .inl (cs 0, a_terms_shapes_n, .inl a_terms_shapes_f)), (a_terms_values, .inl (cs 2, a_terms_values_n, .inr (.inl a_terms_values_f))), (a_terms_firstParts, .inl (cs 0, a_terms_firstParts_n, .inl a_terms_firstParts_f)), (a_terms_parts, .inr (1, [.ref a_terms_parts_items, .int a_terms_parts_size])), (a_terms_parts_items, .inl (cs 0, a_terms_parts_items_n, .inl a_terms_parts_items_f)), (a_joined, .inr (1, [.ref a_joined_items_3, .int a_joined_size_3])), (a_joined_items_3, .inl (cs 0, a_joined_items_3n, .inl a_joined_items_3f)), (a_pairs, .inr (1, [.ref a_pairs_items_3, .int a_size_11])), (a_pairs_items_3, .inl (cs 0, a_pairs_items_3n, .inl a_pairs_items_3f)), (a, .inr (8, [.ref a_terms, .ref a_links, .ref a_states, .ref a_pairs, .ref a_joined, .ref a_seen, .ref a_path])), (a_terms, .inr (7, [.ref a_terms_shapes, .ref a_terms_values, .ref a_terms_firstParts, .int a_terms_nodes, .ref a_terms_parts, .ref a_terms_variableNames, .ref a_terms_became, .int a_terms_variables, .int a_terms_variablesLack, .int a_terms_symbols, .int a_terms_nodesBefore, .int a_terms_partsBefore, .int a_terms_variablesBefore])), (a_terms_became, .inl (cs 0, a_terms_became_n, .inl a_terms_became_f)), (a_links, .inl (cs 0, a_links_n, .inl a_links_f_12))] := ⟨hP, hD⟩
          refine lv_istore hx hb d_Unifier_joinAll_47 hl (by decide) rfl (fun ls hl => ?_)
          have hl : lv_has ls 7 [(5, .int r12), (4, .int x4_3), (0, .ref a), (1, .int x), (2, .int y), (3, .int mayBind)] := hl
          refine lv_aload_n hx hb d_Unifier_joinAll_49 rfl (lv_at hl 2 rfl) ?_
          refine lv_aload_n hx hb d_Unifier_joinAll_50 rfl (lv_at hl 2 rfl) ?_
          refine va_get (D := g) (ci := 8) (v := .ref a_pairs) (C := R_Unifier) (T := F_Unifier) (N := 7) hx hb hg ul_Unifier hown hK hP 9 rfl rfl 3 (by decide) (hg _ wd_323) (fun _ h9 => h9) rfl d_Unifier_joinAll_51 ?_
          obtain ⟨⟨r13, a_size_13⟩, hc13, hok⟩ := bd_some hok
          dsimp only at hok
          obtain ⟨hPc, hDc, hFc⟩ := cut0 (wc := [(a_pairs, .inr (1, [.ref a_pairs_items_3, .int a_size_11])), (a_pairs_items_3, .inl (cs 0, a_pairs_items_3n, .inl a_pairs_items_3f))]) hP hD hS hA [7, 8] (by decide) rfl
          refine va_calli (va_runV (As := []) (rest := [.ref a]) ⟨hx, hb, hml, hown, hg⟩ (c_Ints_pop l g cs ka a_pairs a_pairs_items_3 H.size a_size_11 a_pairs_items_3n a_pairs_items_3f r13 a_size_13 hc13) (cwV (C := R_Ints) 0 hg (gw_V wd_362 wd_279 wd_280 wd_234 wd_277) rfl rfl rfl (by decide +kernel) ⟨Nat.le_of_ble_eq_true rfl, Nat.le_of_ble_eq_true rfl⟩) ⟨gP_blind, va_recv (q0 := 7) (ci := 1) (q := (R_Ints, F_Ints, 2)) hK hP rfl rfl, gP_pre hPc hDc hK hgl hkn hkr hS hFc⟩ rfl rfl hl.1 rfl (lv_room (Nat.le_of_ble_eq_true rfl)) d_Unifier_joinAll_54 ⟨show cells3 + 0 + 0 + 0 + 0 ≤ mc from by omega, show slots3 + 0 + 0 + 0 + 0 ≤ ms from by omega⟩) hS (fun q _ h => hFc q h) hFc (fun r13' u t H locs ht hvm hr13 hB hz1 hk1 hS => ?_)
          subst hr13
          rw [ht] at hB
          obtain ⟨hP1, hD1⟩ := hB
          obtain ⟨hP, hD⟩ := jn_A hP hD [7, 8] [0, 1, 2, 3, 4, 5, 6, 9, 10, 11, 12] rfl rfl (by decide) (by decide) hk1 hFc hP1 hD1
          obtain ⟨hP, hD⟩ : PD g A H [(a_terms_shapes, .inl (cs 0, a_terms_shapes_n, .inl a_terms_shapes_f)), (a_terms_values, .inl (cs 2, a_terms_values_n, .inr (.inl a_terms_values_f))), (a_terms_firstParts, .inl (cs 0, a_terms_firstParts_n, .inl a_terms_firstParts_f)), (a_terms_parts, .inr (1, [.ref a_terms_parts_items, .int a_terms_parts_size])), (a_terms_parts_items, .inl (cs 0, a_terms_parts_items_n, .inl a_terms_parts_items_f)), (a_joined, .inr (1, [.ref a_joined_items_3, .int a_joined_size_3])), (a_joined_items_3, .inl (cs 0, a_joined_items_3n, .inl a_joined_items_3f)), (a, .inr (8, [.ref a_terms, .ref a_links, .ref a_states, .ref a_pairs, .ref a_joined, .ref a_seen, .ref a_path])), (a_terms, .inr (7, [.ref a_terms_shapes, .ref a_terms_values, .ref a_terms_firstParts, .int a_terms_nodes, .ref a_terms_parts, .ref a_terms_variableNames, .ref a_terms_became, .int a_terms_variables, .int a_terms_variablesLack, .int a_terms_symbols, .int a_terms_nodesBefore, .int a_terms_partsBefore, .int a_terms_variablesBefore])), (a_terms_became, .inl (cs 0, a_terms_became_n, .inl a_terms_became_f)), (a_links, .inl (cs 0, a_links_n, .inl a_links_f_12)), (a_pairs, .inr (1, [.ref a_pairs_items_3, .int a_size_13])), (a_pairs_items_3, .inl (cs 0, a_pairs_items_3n, .inl a_pairs_items_3f))] := ⟨hP, hD⟩
          obtain ⟨⟨r14, a_links_f_14⟩, hc14, hok⟩ := bd_some hok
          dsimp only at hok
          obtain ⟨hPc, hDc, hFc⟩ := cut0 (wc := [(a, .inr (8, [.ref a_terms, .ref a_links, .ref a_states, .ref a_pairs, .ref a_joined, .ref a_seen, .ref a_path])), (a_terms, .inr (7, [.ref a_terms_shapes, .ref a_terms_values, .ref a_terms_firstParts, .int a_terms_nodes, .ref a_terms_parts, .ref a_terms_variableNames, .ref a_terms_became, .int a_terms_variables, .int a_terms_variablesLack, .int a_terms_symbols, .int a_terms_nodesBefore, .int a_terms_partsBefore, .int a_terms_variablesBefore])), (a_terms_became, .inl (cs 0, a_terms_became_n, .inl a_terms_became_f)), (a_links, .inl (cs 0, a_links_n, .inl a_links_f_12))]) hP hD hS hA [7, 8, 9, 10] (by decide) rfl
          refine va_calli (va_runV (As := [.int r13]) (rest := []) ⟨hx, hb, hml, hown, hg⟩ (c_Unifier_rootOf l g cs ka a_states a_pairs a_joined a_seen a_path a_terms_shapes a_terms_values a_terms_firstParts a_terms_parts a_terms_variableNames a a_terms a_terms_became a_links H.size n r13 a_terms_nodes a_terms_variables a_terms_variablesLack a_terms_symbols a_terms_nodesBefore a_terms_partsBefore a_terms_variablesBefore a_terms_became_n a_terms_became_f a_links_n a_links_f_12 r14 a_links_f_14 hc14) (cwV (C := R_Unifier) 1 hg (gw_V wd_364 wd_365 wd_366 wd_350 wd_363) rfl rfl rfl (by decide +kernel) ⟨Nat.le_of_ble_eq_true rfl, Nat.le_of_ble_eq_true rfl⟩) ⟨gP_blind, va_recv (q0 := 7) (ci := 8) (q := (R_Unifier, F_Unifier, 7)) hK hP rfl rfl, gP_pre hPc hDc hK hgl hkn hkr hS hFc⟩ rfl rfl hl.1 rfl (lv_room (Nat.le_of_ble_eq_true rfl)) d_Unifier_joinAll_57 ⟨show cells3 + 0 + 0 + 0 + 0 + 0 ≤ mc from by omega, show slots3 + 0 + 0 + 0 + 0 + 0 ≤ ms from by omega⟩) hS (fun q _ h => hFc q h) hFc (fun r14' u t H locs ht hvm hr14 hB hz1 hk1 hS => ?_)
          subst hr14
          rw [ht] at hB
          obtain ⟨hP1, hD1⟩ := hB
          obtain ⟨hP, hD⟩ := jn_A hP hD [7, 8, 9, 10] [0, 1, 2, 3, 4, 5, 6, 11, 12] rfl rfl (by decide) (by decide) hk1 hFc hP1 hD1
          obtain ⟨hP, hD⟩ : PD g A H [(a_terms_shapes, .inl (cs 0, a_terms_shapes_n, .inl a_terms_shapes_f)), (a_terms_values, .inl (cs 2, a_terms_values_n, .inr (.inl a_terms_values_f))), (a_terms_firstParts, .inl (cs 0, a_terms_firstParts_n, .inl a_terms_firstParts_f)), (a_terms_parts, .inr (1, [.ref a_terms_parts_items, .int a_terms_parts_size])), (a_terms_parts_items, .inl (cs 0, a_terms_parts_items_n, .inl a_terms_parts_items_f)), (a_joined, .inr (1, [.ref a_joined_items_3, .int a_joined_size_3])), (a_joined_items_3, .inl (cs 0, a_joined_items_3n, .inl a_joined_items_3f)), (a_pairs, .inr (1, [.ref a_pairs_items_3, .int a_size_13])), (a_pairs_items_3, .inl (cs 0, a_pairs_items_3n, .inl a_pairs_items_3f)), (a, .inr (8, [.ref a_terms, .ref a_links, .ref a_states, .ref a_pairs, .ref a_joined, .ref a_seen, .ref a_path])), (a_terms, .inr (7, [.ref a_terms_shapes, .ref a_terms_values, .ref a_terms_firstParts, .int a_terms_nodes, .ref a_terms_parts, .ref a_terms_variableNames, .ref a_terms_became, .int a_terms_variables, .int a_terms_variablesLack, .int a_terms_symbols, .int a_terms_nodesBefore, .int a_terms_partsBefore, .int a_terms_variablesBefore])), (a_terms_became, .inl (cs 0, a_terms_became_n, .inl a_terms_became_f)), (a_links, .inl (cs 0, a_links_n, .inl a_links_f_14))] := ⟨hP, hD⟩
          refine lv_istore hx hb d_Unifier_joinAll_60 hl (by decide) rfl (fun ls hl => ?_)
          have hl : lv_has ls 7 [(6, .int r14), (5, .int r12), (4, .int x4_3), (0, .ref a), (1, .int x), (2, .int y), (3, .int mayBind)] := hl
          refine lv_iload hx hb d_Unifier_joinAll_62 (lv_at hl 0 rfl) ?_
          refine lv_iload hx hb d_Unifier_joinAll_64 (lv_at hl 1 rfl) ?_
          refine lv_icmp_eq hx hb d_Unifier_joinAll_66 rfl (fun h15 => ?_) (fun h15 => ?_)
          · rw [if_pos h15] at hok
            refine lv_iinc (k := 2) (v := x4_3 + 1) hx hb d_Unifier_joinAll_83 hl rfl rfl (by decide) rfl (fun ls hl => ?_)
            have hl : lv_has ls 7 [(4, .int (x4_3 + 1)), (6, .int r14), (5, .int r12), (0, .ref a), (1, .int x), (2, .int y), (3, .int mayBind)] := hl
            refine lv_goto hx hb d_Unifier_joinAll_86 rfl ?_
            exact ih3 _ _ _ _ _ _ _ a_joined_items_3 a_pairs_items_3 (x4_3 + 1) a_joined_size_3 a_size_13 a_links_f_14 a_joined_items_3n a_joined_items_3f a_pairs_items_3n a_pairs_items_3f (lv_sub hl [0, 3, 4, 5, 6] rfl) (sub3 hP hD [9, 10, 0, 1, 2, 3, 4, 11, 12, 5, 6, 7, 8] (by decide)) hS (by omega) (by omega) hok
          · rw [if_neg h15] at hok
            refine lv_aload_n hx hb d_Unifier_joinAll_69 rfl (lv_at hl 3 rfl) ?_
            refine lv_iload hx hb d_Unifier_joinAll_70 (lv_at hl 0 rfl) ?_
            refine lv_iload hx hb d_Unifier_joinAll_72 (lv_at hl 1 rfl) ?_
            refine lv_iload_n hx hb d_Unifier_joinAll_74 rfl (lv_at hl 6 rfl) ?_
            obtain ⟨⟨⟨r16, a_links_f_16, a_pairs_size_16, a_pairs_items_n_16, a_pairs_items_f_16, a_joined_size_16, a_joined_items_n_16, a_joined_items_f_16⟩, mk16, sk16⟩, hc16, hok⟩ := bd_some hok
            dsimp only at hok
            obtain ⟨m16, s16, hok, hmc16, hms16⟩ := al_some hok
            obtain ⟨hPc, hDc, hFc⟩ := cut0 (wc := [(a, .inr (8, [.ref a_terms, .ref a_links, .ref a_states, .ref a_pairs, .ref a_joined, .ref a_seen, .ref a_path])), (a_terms, .inr (7, [.ref a_terms_shapes, .ref a_terms_values, .ref a_terms_firstParts, .int a_terms_nodes, .ref a_terms_parts, .ref a_terms_variableNames, .ref a_terms_became, .int a_terms_variables, .int a_terms_variablesLack, .int a_terms_symbols, .int a_terms_nodesBefore, .int a_terms_partsBefore, .int a_terms_variablesBefore])), (a_terms_shapes, .inl (cs 0, a_terms_shapes_n, .inl a_terms_shapes_f)), (a_terms_values, .inl (cs 2, a_terms_values_n, .inr (.inl a_terms_values_f))), (a_terms_firstParts, .inl (cs 0, a_terms_firstParts_n, .inl a_terms_firstParts_f)), (a_terms_parts, .inr (1, [.ref a_terms_parts_items, .int a_terms_parts_size])), (a_terms_parts_items, .inl (cs 0, a_terms_parts_items_n, .inl a_terms_parts_items_f)), (a_links, .inl (cs 0, a_links_n, .inl a_links_f_14)), (a_pairs, .inr (1, [.ref a_pairs_items_3, .int a_size_13])), (a_pairs_items_3, .inl (cs 0, a_pairs_items_3n, .inl a_pairs_items_3f)), (a_joined, .inr (1, [.ref a_joined_items_3, .int a_joined_size_3])), (a_joined_items_3, .inl (cs 0, a_joined_items_3n, .inl a_joined_items_3f))]) hP hD hS hA [9, 10, 0, 1, 2, 3, 4, 12, 7, 8, 5, 6] (by decide) rfl
            refine va_calli (va_runV (As := [.int r14, .int r12, .int mayBind]) (rest := []) ⟨hx, hb, hml, hown, hg⟩ (c_Unifier_joinRoots l g cs ka a_states a_seen a_path a_terms_variableNames a_terms_became a a_terms a_terms_shapes a_terms_values a_terms_firstParts a_terms_parts a_terms_parts_items a_links a_pairs a_pairs_items_3 a_joined a_joined_items_3 H.size n r14 r12 mayBind a_terms_nodes a_terms_variables a_terms_variablesLack a_terms_symbols a_terms_nodesBefore a_terms_partsBefore a_terms_variablesBefore a_terms_shapes_n a_terms_shapes_f a_terms_values_n a_terms_values_f a_terms_firstParts_n a_terms_firstParts_f a_terms_parts_size a_terms_parts_items_n a_terms_parts_items_f a_links_n a_links_f_14 a_size_13 a_pairs_items_3n a_pairs_items_3f a_joined_size_3 a_joined_items_3n a_joined_items_3f r16 a_links_f_16 a_pairs_size_16 a_pairs_items_n_16 a_pairs_items_f_16 a_joined_size_16 a_joined_items_n_16 a_joined_items_f_16 mk16 sk16 hc16) (cwV (C := R_Unifier) 3 hg (gw_V wd_368 wd_369 wd_370 wd_350 wd_367) rfl rfl rfl (by decide +kernel) ⟨Nat.le_of_ble_eq_true rfl, Nat.le_of_ble_eq_true rfl⟩) ⟨gP_blind, va_recv (q0 := 9) (ci := 8) (q := (R_Unifier, F_Unifier, 7)) hK hP rfl rfl, gP_pre hPc hDc hK hgl hkn hkr hS hFc⟩ rfl rfl hl.1 rfl (lv_room (Nat.le_of_ble_eq_true rfl)) d_Unifier_joinAll_75 ⟨show cells3 + 0 + 0 + 0 + 0 + 0 + mk16 ≤ mc from by omega, show slots3 + 0 + 0 + 0 + 0 + 0 + sk16 ≤ ms from by omega⟩) hS (fun q _ h => hFc q h) hFc (fun r16' u t H locs ht hvm hr16 hB hz1 hk1 hS => ?_)
            subst hr16
            rw [ht] at hB
            obtain ⟨a_pairs_items_16, a_joined_items_16, hP1, hD1⟩ := hB
            obtain ⟨hP, hD⟩ := jn_A hP hD [9, 10, 0, 1, 2, 3, 4, 12, 7, 8, 5, 6] [11] rfl rfl (by decide) (by decide) hk1 hFc hP1 hD1
            obtain ⟨hP, hD⟩ : PD g A H [(a_terms_became, .inl (cs 0, a_terms_became_n, .inl a_terms_became_f)), (a, .inr (8, [.ref a_terms, .ref a_links, .ref a_states, .ref a_pairs, .ref a_joined, .ref a_seen, .ref a_path])), (a_terms, .inr (7, [.ref a_terms_shapes, .ref a_terms_values, .ref a_terms_firstParts, .int a_terms_nodes, .ref a_terms_parts, .ref a_terms_variableNames, .ref a_terms_became, .int a_terms_variables, .int a_terms_variablesLack, .int a_terms_symbols, .int a_terms_nodesBefore, .int a_terms_partsBefore, .int a_terms_variablesBefore])), (a_terms_shapes, .inl (cs 0, a_terms_shapes_n, .inl a_terms_shapes_f)), (a_terms_values, .inl (cs 2, a_terms_values_n, .inr (.inl a_terms_values_f))), (a_terms_firstParts, .inl (cs 0, a_terms_firstParts_n, .inl a_terms_firstParts_f)), (a_terms_parts, .inr (1, [.ref a_terms_parts_items, .int a_terms_parts_size])), (a_terms_parts_items, .inl (cs 0, a_terms_parts_items_n, .inl a_terms_parts_items_f)), (a_links, .inl (cs 0, a_links_n, .inl a_links_f_16)), (a_pairs, .inr (1, [.ref a_pairs_items_16, .int a_pairs_size_16])), (a_pairs_items_16, .inl (cs 0, a_pairs_items_n_16, .inl a_pairs_items_f_16)), (a_joined, .inr (1, [.ref a_joined_items_16, .int a_joined_size_16])), (a_joined_items_16, .inl (cs 0, a_joined_items_n_16, .inl a_joined_items_f_16))] := ⟨hP, hD⟩
            refine lv_if_ne hx hb d_Unifier_joinAll_78 rfl (fun h17 => ?_) (fun h17 => ?_)
            · rw [if_neg h17] at hok
              refine lv_iinc (k := 2) (v := x4_3 + 1) hx hb d_Unifier_joinAll_83 hl rfl rfl (by decide) rfl (fun ls hl => ?_)
              have hl : lv_has ls 7 [(4, .int (x4_3 + 1)), (6, .int r14), (5, .int r12), (0, .ref a), (1, .int x), (2, .int y), (3, .int mayBind)] := hl
              refine lv_goto hx hb d_Unifier_joinAll_86 rfl ?_
              exact ih3 _ _ _ _ _ _ _ a_joined_items_16 a_pairs_items_16 (x4_3 + 1) a_joined_size_16 a_pairs_size_16 a_links_f_16 a_joined_items_n_16 a_joined_items_f_16 a_pairs_items_n_16 a_pairs_items_f_16 (lv_sub hl [0, 3, 4, 5, 6] rfl) (sub3 hP hD [1, 2, 3, 4, 5, 6, 7, 0, 8, 11, 12, 9, 10] (by decide)) hS (by omega) (by omega) hok
            · rw [if_pos h17] at hok
              refine lv_iconst (v := 0) hx hb d_Unifier_joinAll_81 (by decide) ?_
              obtain ⟨hq, hw⟩ := Prod.mk.inj (Option.some.inj hok)
              obtain ⟨hmc0, hms0⟩ := Prod.mk.inj hw
              obtain ⟨hq0, hq⟩ := Prod.mk.inj hq
              obtain ⟨hq1, hq⟩ := Prod.mk.inj hq
              obtain ⟨hq2, hq⟩ := Prod.mk.inj hq
              obtain ⟨hq3, hq⟩ := Prod.mk.inj hq
              obtain ⟨hq4, hq⟩ := Prod.mk.inj hq
              obtain ⟨hq5, hq⟩ := Prod.mk.inj hq
              obtain ⟨hq6, hq⟩ := Prod.mk.inj hq
              have hq7 := hq
              subst hq0
              subst hq1
              subst hq2
              subst hq3
              subst hq4
              subst hq5
              subst hq6
              subst hq7
              obtain ⟨hP9, hD9⟩ := sub2 (ws' := [(a, .inr (8, [.ref a_terms, .ref a_links, .ref a_states, .ref a_pairs, .ref a_joined, .ref a_seen, .ref a_path])), (a_terms, .inr (7, [.ref a_terms_shapes, .ref a_terms_values, .ref a_terms_firstParts, .int a_terms_nodes, .ref a_terms_parts, .ref a_terms_variableNames, .ref a_terms_became, .int a_terms_variables, .int a_terms_variablesLack, .int a_terms_symbols, .int a_terms_nodesBefore, .int a_terms_partsBefore, .int a_terms_variablesBefore])), (a_terms_shapes, .inl (cs 0, a_terms_shapes_n, .inl a_terms_shapes_f)), (a_terms_values, .inl (cs 2, a_terms_values_n, .inr (.inl a_terms_values_f))), (a_terms_firstParts, .inl (cs 0, a_terms_firstParts_n, .inl a_terms_firstParts_f)), (a_terms_parts, .inr (1, [.ref a_terms_parts_items, .int a_terms_parts_size])), (a_terms_parts_items, .inl (cs 0, a_terms_parts_items_n, .inl a_terms_parts_items_f)), (a_terms_became, .inl (cs 0, a_terms_became_n, .inl a_terms_became_f)), (a_links, .inl (cs 0, a_links_n, .inl a_links_f_16)), (a_pairs, .inr (1, [.ref a_pairs_items_16, .int a_pairs_size_16])), (a_pairs_items_16, .inl (cs 0, a_pairs_items_n_16, .inl a_pairs_items_f_16)), (a_joined, .inr (1, [.ref a_joined_items_16, .int a_joined_size_16])), (a_joined_items_16, .inl (cs 0, a_joined_items_n_16, .inl a_joined_items_f_16))]) hP hD [1, 2, 3, 4, 5, 6, 7, 0, 8, 9, 10, 11, 12] rfl (by decide) rfl
              refine W.widen (k := mc) (n := ms) (by omega) (by omega) ?_
              rw [hQ]
              exact W.zret (v := 0) hx hb hr rfl (fun t ht hW => ⟨⟨_, (), rfl, rfl, a_pairs_items_16, a_joined_items_16, by rw [ht]; exact hP9, hD9⟩, hS.F ht⟩) hS.2.2 d_Unifier_joinAll_82
  exact J3 n H locs ls _ _ _ _ a_joined_items a_items_2 (0 : Int32) a_joined_size a_size_2 a_links_f a_joined_items_n a_joined_items_f a_items_n_2 a_items_f_2 hl ⟨hP, hD⟩ hS (by omega) (by omega) hok

theorem d_Unifier_enter_0 : decode b_Unifier_enter 0 = .ok (.aload_n 0, 1) := by decide +kernel
theorem d_Unifier_enter_1 : decode b_Unifier_enter 1 = .ok (.getfield 15, 3) := by decide +kernel
theorem d_Unifier_enter_4 : decode b_Unifier_enter 4 = .ok (.iload_n 1, 1) := by decide +kernel
theorem d_Unifier_enter_5 : decode b_Unifier_enter 5 = .ok (.iconst 1, 1) := by decide +kernel
theorem d_Unifier_enter_6 : decode b_Unifier_enter 6 = .ok (.iastore, 1) := by decide +kernel
theorem d_Unifier_enter_7 : decode b_Unifier_enter 7 = .ok (.aload_n 0, 1) := by decide +kernel
theorem d_Unifier_enter_8 : decode b_Unifier_enter 8 = .ok (.getfield 28, 3) := by decide +kernel
theorem d_Unifier_enter_11 : decode b_Unifier_enter 11 = .ok (.iload_n 1, 1) := by decide +kernel
theorem d_Unifier_enter_12 : decode b_Unifier_enter 12 = .ok (.invokevirtual 72, 3) := by decide +kernel
theorem d_Unifier_enter_15 : decode b_Unifier_enter 15 = .ok (.aload_n 0, 1) := by decide +kernel
theorem d_Unifier_enter_16 : decode b_Unifier_enter 16 = .ok (.getfield 31, 3) := by decide +kernel
theorem d_Unifier_enter_19 : decode b_Unifier_enter 19 = .ok (.iload_n 1, 1) := by decide +kernel
theorem d_Unifier_enter_20 : decode b_Unifier_enter 20 = .ok (.invokevirtual 72, 3) := by decide +kernel
theorem d_Unifier_enter_23 : decode b_Unifier_enter 23 = .ok (.aload_n 0, 1) := by decide +kernel
theorem d_Unifier_enter_24 : decode b_Unifier_enter 24 = .ok (.getfield 31, 3) := by decide +kernel
theorem d_Unifier_enter_27 : decode b_Unifier_enter 27 = .ok (.iconst 0, 1) := by decide +kernel
theorem d_Unifier_enter_28 : decode b_Unifier_enter 28 = .ok (.invokevirtual 72, 3) := by decide +kernel
theorem d_Unifier_enter_31 : decode b_Unifier_enter 31 = .ok (.return_, 1) := by decide +kernel
def p_Unifier_enter (node : Int32) (a_states_n : Nat) (a_states_f : Nat → Int32) (a_seen_size : Int32) (a_seen_items_n : Nat) (a_seen_items_f : Nat → Int32) (a_path_size : Int32) (a_path_items_n : Nat) (a_path_items_f : Nat → Int32) : Option (((Nat → Int32) × Int32 × Nat × (Nat → Int32) × Int32 × Nat × (Nat → Int32)) × Nat × Nat) := ck (ixb node a_states_n) ((p_Ints_push node a_seen_size a_seen_items_n a_seen_items_f).bind (fun ((a_size_2, a_items_n_2, a_items_f_2), mk2, sk2) => al mk2 sk2 ((p_Ints_push node a_path_size a_path_items_n a_path_items_f).bind (fun ((a_size_3, a_items_n_3, a_items_f_3), mk3, sk3) => al mk3 sk3 ((p_Ints_push (0 : Int32) a_size_3 a_items_n_3 a_items_f_3).bind (fun ((a_size_4, a_items_n_4, a_items_f_4), mk4, sk4) => al mk4 sk4 (some ((upd a_states_f node.toNatClampNeg 1, a_size_2, a_items_n_2, a_items_f_2, a_size_4, a_items_n_4, a_items_f_4), 0, 0))))))))
set_option maxHeartbeats 4000000 in
set_option maxRecDepth 100000 in
theorem c_Unifier_enter (l : Launch) (g : va_G) (cs : Nat → ClassId) (ka : Nat → Nat) (a_terms : Nat) (a_links : Nat) (a_pairs : Nat) (a_joined : Nat) (a a_states a_seen a_seen_items a_path a_path_items : Nat) (sz : Nat) (node : Int32) (a_states_n : Nat) (a_states_f : Nat → Int32) (a_seen_size : Int32) (a_seen_items_n : Nat) (a_seen_items_f : Nat → Int32) (a_path_size : Int32) (a_path_items_n : Nat) (a_path_items_f : Nat → Int32) (o_a_states_f : Nat → Int32) (o_a_seen_size : Int32) (o_a_seen_items_n : Nat) (o_a_seen_items_f : Nat → Int32) (o_a_path_size : Int32) (o_a_path_items_n : Nat) (o_a_path_items_f : Nat → Int32) (mc ms : Nat) (hok : p_Unifier_enter node a_states_n a_states_f a_seen_size a_seen_items_n a_seen_items_f a_path_size a_path_items_n a_path_items_f = some ((o_a_states_f, o_a_seen_size, o_a_seen_items_n, o_a_seen_items_f, o_a_path_size, o_a_path_items_n, o_a_path_items_f), mc, ms)) : Met l y_Unifier_enter (.code y_Unifier_enter b_Unifier_enter 2 none :: GW) { frames := 3, cells := mc, slots := ms, locals := 143 } (va_Pc [.ref a, .int node] (gP g cs ka [(a, .inr (8, [.ref a_terms, .ref a_links, .ref a_states, .ref a_pairs, .ref a_joined, .ref a_seen, .ref a_path])), (a_states, .inl (cs 0, a_states_n, .inl a_states_f)), (a_seen, .inr (1, [.ref a_seen_items, .int a_seen_size])), (a_seen_items, .inl (cs 0, a_seen_items_n, .inl a_seen_items_f)), (a_path, .inr (1, [.ref a_path_items, .int a_path_size])), (a_path_items, .inl (cs 0, a_path_items_n, .inl a_path_items_f))] sz)) (va_Qv (fun _ : Unit => True) (fun _ t => ∃ b_a_seen_items b_a_path_items : Nat, va_P g classes [(a, .inr (8, [.ref a_terms, .ref a_links, .ref a_states, .ref a_pairs, .ref a_joined, .ref a_seen, .ref a_path])), (a_states, .inl (cs 0, a_states_n, .inl o_a_states_f)), (a_seen, .inr (1, [.ref b_a_seen_items, .int o_a_seen_size])), (b_a_seen_items, .inl (cs 0, o_a_seen_items_n, .inl o_a_seen_items_f)), (a_path, .inr (1, [.ref b_a_path_items, .int o_a_path_size])), (b_a_path_items, .inl (cs 0, o_a_path_items_n, .inl o_a_path_items_f))] t.heap ∧ va_D (va_A [(a, .inr (8, [.ref a_terms, .ref a_links, .ref a_states, .ref a_pairs, .ref a_joined, .ref a_seen, .ref a_path])), (a_states, .inl (cs 0, a_states_n, .inl a_states_f)), (a_seen, .inr (1, [.ref a_seen_items, .int a_seen_size])), (a_seen_items, .inl (cs 0, a_seen_items_n, .inl a_seen_items_f)), (a_path, .inr (1, [.ref a_path_items, .int a_path_size])), (a_path_items, .inl (cs 0, a_path_items_n, .inl a_path_items_f))] sz) [(a, .inr (8, [.ref a_terms, .ref a_links, .ref a_states, .ref a_pairs, .ref a_joined, .ref a_seen, .ref a_path])), (a_states, .inl (cs 0, a_states_n, .inl o_a_states_f)), (a_seen, .inr (1, [.ref b_a_seen_items, .int o_a_seen_size])), (b_a_seen_items, .inl (cs 0, o_a_seen_items_n, .inl o_a_seen_items_f)), (a_path, .inr (1, [.ref b_a_path_items, .int o_a_path_size])), (b_a_path_items, .inl (cs 0, o_a_path_items_n, .inl o_a_path_items_f))]) (va_A [(a, .inr (8, [.ref a_terms, .ref a_links, .ref a_states, .ref a_pairs, .ref a_joined, .ref a_seen, .ref a_path])), (a_states, .inl (cs 0, a_states_n, .inl a_states_f)), (a_seen, .inr (1, [.ref a_seen_items, .int a_seen_size])), (a_seen_items, .inl (cs 0, a_seen_items_n, .inl a_seen_items_f)), (a_path, .inr (1, [.ref a_path_items, .int a_path_size])), (a_path_items, .inl (cs 0, a_path_items_n, .inl a_path_items_f))] sz)) mc ms (va_A [(a, .inr (8, [.ref a_terms, .ref a_links, .ref a_states, .ref a_pairs, .ref a_joined, .ref a_seen, .ref a_path])), (a_states, .inl (cs 0, a_states_n, .inl a_states_f)), (a_seen, .inr (1, [.ref a_seen_items, .int a_seen_size])), (a_seen_items, .inl (cs 0, a_seen_items_n, .inl a_seen_items_f)), (a_path, .inr (1, [.ref a_path_items, .int a_path_size])), (a_path_items, .inl (cs 0, a_path_items_n, .inl a_path_items_f))] sz) := by
  refine Met.ofW (cc := b_Unifier_enter) (maxL := 2) (ret := none) (by decide) rfl ?_
  intro p e s m args below meth c s₁ B hml hv
  obtain ⟨rfl, hsz, hP, hK, hD0, hgl, hkn, hkr⟩ := hv
  have hx := B.exec
  have hb := B.bytes
  have hr := B.returns
  have hg : ∀ w ∈ GW, w.before ([.ref a, .int node] : List Value).toArray s = true := fun w hw => atoms_spec (ws := .code y_Unifier_enter b_Unifier_enter 2 none :: GW) B.pre w (List.mem_cons_of_mem _ hw)
  have hown : s.vm.findClass R_Unifier = some m.cls := findClass_of_methodNamed B.named
  have hlocks := B.notSynchronized
  subst hsz
  have hD := hD0.self (sz := s.heap.size)
  generalize hAe : va_A [(a, .inr (8, [.ref a_terms, .ref a_links, .ref a_states, .ref a_pairs, .ref a_joined, .ref a_seen, .ref a_path])), (a_states, .inl (cs 0, a_states_n, .inl a_states_f)), (a_seen, .inr (1, [.ref a_seen_items, .int a_seen_size])), (a_seen_items, .inl (cs 0, a_seen_items_n, .inl a_seen_items_f)), (a_path, .inr (1, [.ref a_path_items, .int a_path_size])), (a_path_items, .inl (cs 0, a_path_items_n, .inl a_path_items_f))] s.heap.size = A at hD hkn ⊢
  have hA : ∀ q : Nat, s.heap.size ≤ q → A q := fun q h => by rw [← hAe]; exact Or.inr h
  have hS : va_S A s.heap s.heap [] := va_S.rf
  have hP : va_P g classes [(a, .inr (8, [.ref a_terms, .ref a_links, .ref a_states, .ref a_pairs, .ref a_joined, .ref a_seen, .ref a_path])), (a_states, .inl (cs 0, a_states_n, .inl a_states_f)), (a_seen, .inr (1, [.ref a_seen_items, .int a_seen_size])), (a_seen_items, .inl (cs 0, a_seen_items_n, .inl a_seen_items_f)), (a_path, .inr (1, [.ref a_path_items, .int a_path_size])), (a_path_items, .inl (cs 0, a_path_items_n, .inl a_path_items_f))] s.heap := hP
  have hl := lv_entry ([.ref a, .int node]) (n := 2) (Nat.le_of_ble_eq_true rfl)
  rw [lg_entry_eq]
  generalize (lg_sl ([.ref a, .int node]) ++ List.replicate (2 - (lg_sl ([.ref a, .int node])).length) Slot.unset).toArray = ls at hl ⊢
  have hl : lv_has ls 2 [(0, .ref a), (1, .int node)] := hl
  refine gq (fun Q hQ => ?_)
  obtain ⟨H, hH⟩ : ∃ H : Heap, H = s.heap := ⟨_, rfl⟩
  rw [← hH] at hP
  have hS : va_S A s.heap H [] := by rw [hH]; exact hS
  refine W.eqH hH ?_
  obtain ⟨locs, hlc⟩ : ∃ L : List Loc, L = [] := ⟨_, rfl⟩
  rw [← hlc] at hS ⊢
  unfold p_Unifier_enter at hok
  refine lv_aload_n hx hb d_Unifier_enter_0 rfl (lv_at hl 0 rfl) ?_
  refine va_get (D := g) (ci := 8) (v := .ref a_states) (C := R_Unifier) (T := F_Unifier) (N := 7) hx hb hg ul_Unifier hown hK hP 0 rfl rfl 2 (by decide) (hg _ wd_320) (fun _ h9 => h9) rfl d_Unifier_enter_1 ?_
  refine lv_iload_n hx hb d_Unifier_enter_4 rfl (lv_at hl 1 rfl) ?_
  refine lv_iconst (v := 1) hx hb d_Unifier_enter_5 (by decide) ?_
  obtain ⟨hi1, hok⟩ := ck_some hok
  refine va_iast hx hb hK hP hD hS 1 0 rfl rfl (ixb_in hi1) d_Unifier_enter_6 (fun H locs hP hD hS => ?_)
  obtain ⟨hP, hD⟩ : PD g A H [(a, .inr (8, [.ref a_terms, .ref a_links, .ref a_states, .ref a_pairs, .ref a_joined, .ref a_seen, .ref a_path])), (a_states, .inl (cs 0, a_states_n, .inl (upd a_states_f node.toNatClampNeg 1))), (a_seen, .inr (1, [.ref a_seen_items, .int a_seen_size])), (a_seen_items, .inl (cs 0, a_seen_items_n, .inl a_seen_items_f)), (a_path, .inr (1, [.ref a_path_items, .int a_path_size])), (a_path_items, .inl (cs 0, a_path_items_n, .inl a_path_items_f))] := ⟨hP, hD⟩
  refine lv_aload_n hx hb d_Unifier_enter_7 rfl (lv_at hl 0 rfl) ?_
  refine va_get (D := g) (ci := 8) (v := .ref a_seen) (C := R_Unifier) (T := F_Unifier) (N := 7) hx hb hg ul_Unifier hown hK hP 0 rfl rfl 5 (by decide) (hg _ wd_325) (fun _ h9 => h9) rfl d_Unifier_enter_8 ?_
  refine lv_iload_n hx hb d_Unifier_enter_11 rfl (lv_at hl 1 rfl) ?_
  obtain ⟨⟨⟨a_size_2, a_items_n_2, a_items_f_2⟩, mk2, sk2⟩, hc2, hok⟩ := bd_some hok
  dsimp only at hok
  obtain ⟨m2, s2, hok, hmc2, hms2⟩ := al_some hok
  obtain ⟨hPc, hDc, hFc⟩ := cut0 (wc := [(a_seen, .inr (1, [.ref a_seen_items, .int a_seen_size])), (a_seen_items, .inl (cs 0, a_seen_items_n, .inl a_seen_items_f))]) hP hD hS hA [2, 3] (by decide) rfl
  refine va_callv (va_runV (As := [.int node]) (rest := []) ⟨hx, hb, hml, hown, hg⟩ (c_Ints_push l g cs ka a_seen a_seen_items H.size node a_seen_size a_seen_items_n a_seen_items_f a_size_2 a_items_n_2 a_items_f_2 mk2 sk2 hc2) (cwV (C := R_Ints) 1 hg (gw_V wd_335 wd_274 wd_275 wd_234 wd_272) rfl rfl rfl (by decide +kernel) ⟨Nat.le_of_ble_eq_true rfl, Nat.le_of_ble_eq_true rfl⟩) ⟨gP_blind, va_recv (q0 := 2) (ci := 1) (q := (R_Ints, F_Ints, 2)) hK hP rfl rfl, gP_pre hPc hDc hK hgl hkn hkr hS hFc⟩ rfl rfl hl.1 rfl (lv_room (Nat.le_of_ble_eq_true rfl)) d_Unifier_enter_12 ⟨show 0 + mk2 ≤ mc from by omega, show 0 + sk2 ≤ ms from by omega⟩) hS (fun q _ h => hFc q h) hFc (fun u t H locs ht hvm hr2 hB hz1 hk1 hS => ?_)
  rw [ht] at hB
  obtain ⟨a_items_2, hP1, hD1⟩ := hB
  obtain ⟨hP, hD⟩ := jn_A hP hD [2, 3] [0, 1, 4, 5] rfl rfl (by decide) (by decide) hk1 hFc hP1 hD1
  obtain ⟨hP, hD⟩ : PD g A H [(a, .inr (8, [.ref a_terms, .ref a_links, .ref a_states, .ref a_pairs, .ref a_joined, .ref a_seen, .ref a_path])), (a_states, .inl (cs 0, a_states_n, .inl (upd a_states_f node.toNatClampNeg 1))), (a_path, .inr (1, [.ref a_path_items, .int a_path_size])), (a_path_items, .inl (cs 0, a_path_items_n, .inl a_path_items_f)), (a_seen, .inr (1, [.ref a_items_2, .int a_size_2])), (a_items_2, .inl (cs 0, a_items_n_2, .inl a_items_f_2))] := ⟨hP, hD⟩
  refine lv_aload_n hx hb d_Unifier_enter_15 rfl (lv_at hl 0 rfl) ?_
  refine va_get (D := g) (ci := 8) (v := .ref a_path) (C := R_Unifier) (T := F_Unifier) (N := 7) hx hb hg ul_Unifier hown hK hP 0 rfl rfl 6 (by decide) (hg _ wd_326) (fun _ h9 => h9) rfl d_Unifier_enter_16 ?_
  refine lv_iload_n hx hb d_Unifier_enter_19 rfl (lv_at hl 1 rfl) ?_
  obtain ⟨⟨⟨a_size_3, a_items_n_3, a_items_f_3⟩, mk3, sk3⟩, hc3, hok⟩ := bd_some hok
  dsimp only at hok
  obtain ⟨m3, s3, hok, hmc3, hms3⟩ := al_some hok
  obtain ⟨hPc, hDc, hFc⟩ := cut0 (wc := [(a_path, .inr (1, [.ref a_path_items, .int a_path_size])), (a_path_items, .inl (cs 0, a_path_items_n, .inl a_path_items_f))]) hP hD hS hA [2, 3] (by decide) rfl
  refine va_callv (va_runV (As := [.int node]) (rest := []) ⟨hx, hb, hml, hown, hg⟩ (c_Ints_push l g cs ka a_path a_path_items H.size node a_path_size a_path_items_n a_path_items_f a_size_3 a_items_n_3 a_items_f_3 mk3 sk3 hc3) (cwV (C := R_Ints) 1 hg (gw_V wd_335 wd_274 wd_275 wd_234 wd_272) rfl rfl rfl (by decide +kernel) ⟨Nat.le_of_ble_eq_true rfl, Nat.le_of_ble_eq_true rfl⟩) ⟨gP_blind, va_recv (q0 := 2) (ci := 1) (q := (R_Ints, F_Ints, 2)) hK hP rfl rfl, gP_pre hPc hDc hK hgl hkn hkr hS hFc⟩ rfl rfl hl.1 rfl (lv_room (Nat.le_of_ble_eq_true rfl)) d_Unifier_enter_20 ⟨show 0 + mk2 + mk3 ≤ mc from by omega, show 0 + sk2 + sk3 ≤ ms from by omega⟩) hS (fun q _ h => hFc q h) hFc (fun u t H locs ht hvm hr3 hB hz1 hk1 hS => ?_)
  rw [ht] at hB
  obtain ⟨a_items_3, hP1, hD1⟩ := hB
  obtain ⟨hP, hD⟩ := jn_A hP hD [2, 3] [0, 1, 4, 5] rfl rfl (by decide) (by decide) hk1 hFc hP1 hD1
  obtain ⟨hP, hD⟩ : PD g A H [(a, .inr (8, [.ref a_terms, .ref a_links, .ref a_states, .ref a_pairs, .ref a_joined, .ref a_seen, .ref a_path])), (a_states, .inl (cs 0, a_states_n, .inl (upd a_states_f node.toNatClampNeg 1))), (a_seen, .inr (1, [.ref a_items_2, .int a_size_2])), (a_items_2, .inl (cs 0, a_items_n_2, .inl a_items_f_2)), (a_path, .inr (1, [.ref a_items_3, .int a_size_3])), (a_items_3, .inl (cs 0, a_items_n_3, .inl a_items_f_3))] := ⟨hP, hD⟩
  refine lv_aload_n hx hb d_Unifier_enter_23 rfl (lv_at hl 0 rfl) ?_
  refine va_get (D := g) (ci := 8) (v := .ref a_path) (C := R_Unifier) (T := F_Unifier) (N := 7) hx hb hg ul_Unifier hown hK hP 0 rfl rfl 6 (by decide) (hg _ wd_326) (fun _ h9 => h9) rfl d_Unifier_enter_24 ?_
  refine lv_iconst (v := 0) hx hb d_Unifier_enter_27 (by decide) ?_
  obtain ⟨⟨⟨a_size_4, a_items_n_4, a_items_f_4⟩, mk4, sk4⟩, hc4, hok⟩ := bd_some hok
  dsimp only at hok
  obtain ⟨m4, s4, hok, hmc4, hms4⟩ := al_some hok
  obtain ⟨hPc, hDc, hFc⟩ := cut0 (wc := [(a_path, .inr (1, [.ref a_items_3, .int a_size_3])), (a_items_3, .inl (cs 0, a_items_n_3, .inl a_items_f_3))]) hP hD hS hA [4, 5] (by decide) rfl
  refine va_callv (va_runV (As := [.int 0]) (rest := []) ⟨hx, hb, hml, hown, hg⟩ (c_Ints_push l g cs ka a_path a_items_3 H.size (0 : Int32) a_size_3 a_items_n_3 a_items_f_3 a_size_4 a_items_n_4 a_items_f_4 mk4 sk4 hc4) (cwV (C := R_Ints) 1 hg (gw_V wd_335 wd_274 wd_275 wd_234 wd_272) rfl rfl rfl (by decide +kernel) ⟨Nat.le_of_ble_eq_true rfl, Nat.le_of_ble_eq_true rfl⟩) ⟨gP_blind, va_recv (q0 := 4) (ci := 1) (q := (R_Ints, F_Ints, 2)) hK hP rfl rfl, gP_pre hPc hDc hK hgl hkn hkr hS hFc⟩ rfl rfl hl.1 rfl (lv_room (Nat.le_of_ble_eq_true rfl)) d_Unifier_enter_28 ⟨show 0 + mk2 + mk3 + mk4 ≤ mc from by omega, show 0 + sk2 + sk3 + sk4 ≤ ms from by omega⟩) hS (fun q _ h => hFc q h) hFc (fun u t H locs ht hvm hr4 hB hz1 hk1 hS => ?_)
  rw [ht] at hB
  obtain ⟨a_items_4, hP1, hD1⟩ := hB
  obtain ⟨hP, hD⟩ := jn_A hP hD [4, 5] [0, 1, 2, 3] rfl rfl (by decide) (by decide) hk1 hFc hP1 hD1
  obtain ⟨hP, hD⟩ : PD g A H [(a, .inr (8, [.ref a_terms, .ref a_links, .ref a_states, .ref a_pairs, .ref a_joined, .ref a_seen, .ref a_path])), (a_states, .inl (cs 0, a_states_n, .inl (upd a_states_f node.toNatClampNeg 1))), (a_seen, .inr (1, [.ref a_items_2, .int a_size_2])), (a_items_2, .inl (cs 0, a_items_n_2, .inl a_items_f_2)), (a_path, .inr (1, [.ref a_items_4, .int a_size_4])), (a_items_4, .inl (cs 0, a_items_n_4, .inl a_items_f_4))] := ⟨hP, hD⟩
  obtain ⟨hq, hw⟩ := Prod.mk.inj (Option.some.inj hok)
  obtain ⟨hmc0, hms0⟩ := Prod.mk.inj hw
  obtain ⟨hq0, hq⟩ := Prod.mk.inj hq
  obtain ⟨hq1, hq⟩ := Prod.mk.inj hq
  obtain ⟨hq2, hq⟩ := Prod.mk.inj hq
  obtain ⟨hq3, hq⟩ := Prod.mk.inj hq
  obtain ⟨hq4, hq⟩ := Prod.mk.inj hq
  obtain ⟨hq5, hq⟩ := Prod.mk.inj hq
  have hq6 := hq
  subst hq0
  subst hq1
  subst hq2
  subst hq3
  subst hq4
  subst hq5
  subst hq6
  obtain ⟨hP9, hD9⟩ := sub2 (ws' := [(a, .inr (8, [.ref a_terms, .ref a_links, .ref a_states, .ref a_pairs, .ref a_joined, .ref a_seen, .ref a_path])), (a_states, .inl (cs 0, a_states_n, .inl (upd a_states_f node.toNatClampNeg 1))), (a_seen, .inr (1, [.ref a_items_2, .int a_size_2])), (a_items_2, .inl (cs 0, a_items_n_2, .inl a_items_f_2)), (a_path, .inr (1, [.ref a_items_4, .int a_size_4])), (a_items_4, .inl (cs 0, a_items_n_4, .inl a_items_f_4))]) hP hD [0, 1, 2, 3, 4, 5] rfl (by decide) rfl
  refine W.widen (k := mc) (n := ms) (by omega) (by omega) ?_
  rw [hQ]
  exact W.vret hx hb hr (fun t ht hW => ⟨⟨(), rfl, trivial, a_items_2, a_items_4, by rw [ht]; exact hP9, hD9⟩, hS.F ht⟩) hS.2.2 d_Unifier_enter_31

theorem d_Unifier_standsInNone_0 : decode b_Unifier_standsInNone 0 = .ok (.aload_n 0, 1) := by decide +kernel
theorem d_Unifier_standsInNone_1 : decode b_Unifier_standsInNone 1 = .ok (.aload_n 0, 1) := by decide +kernel
theorem d_Unifier_standsInNone_2 : decode b_Unifier_standsInNone 2 = .ok (.iload_n 1, 1) := by decide +kernel
theorem d_Unifier_standsInNone_3 : decode b_Unifier_standsInNone 3 = .ok (.invokevirtual 79, 3) := by decide +kernel
theorem d_Unifier_standsInNone_6 : decode b_Unifier_standsInNone 6 = .ok (.invokevirtual 106, 3) := by decide +kernel
theorem d_Unifier_standsInNone_9 : decode b_Unifier_standsInNone 9 = .ok (.iconst 0, 1) := by decide +kernel
theorem d_Unifier_standsInNone_10 : decode b_Unifier_standsInNone 10 = .ok (.istore_n 2, 1) := by decide +kernel
theorem d_Unifier_standsInNone_11 : decode b_Unifier_standsInNone 11 = .ok (.iload_n 2, 1) := by decide +kernel
theorem d_Unifier_standsInNone_12 : decode b_Unifier_standsInNone 12 = .ok (.ldc 75, 2) := by decide +kernel
theorem d_Unifier_standsInNone_14 : decode b_Unifier_standsInNone 14 = .ok (.if_icmp .ge 124, 3) := by decide +kernel
theorem d_Unifier_standsInNone_17 : decode b_Unifier_standsInNone 17 = .ok (.aload_n 0, 1) := by decide +kernel
theorem d_Unifier_standsInNone_18 : decode b_Unifier_standsInNone 18 = .ok (.getfield 31, 3) := by decide +kernel
theorem d_Unifier_standsInNone_21 : decode b_Unifier_standsInNone 21 = .ok (.invokevirtual 61, 3) := by decide +kernel
theorem d_Unifier_standsInNone_24 : decode b_Unifier_standsInNone 24 = .ok (.ifCond .le 114, 3) := by decide +kernel
theorem d_Unifier_standsInNone_27 : decode b_Unifier_standsInNone 27 = .ok (.aload_n 0, 1) := by decide +kernel
theorem d_Unifier_standsInNone_28 : decode b_Unifier_standsInNone 28 = .ok (.getfield 31, 3) := by decide +kernel
theorem d_Unifier_standsInNone_31 : decode b_Unifier_standsInNone 31 = .ok (.invokevirtual 76, 3) := by decide +kernel
theorem d_Unifier_standsInNone_34 : decode b_Unifier_standsInNone 34 = .ok (.istore_n 3, 1) := by decide +kernel
theorem d_Unifier_standsInNone_35 : decode b_Unifier_standsInNone 35 = .ok (.aload_n 0, 1) := by decide +kernel
theorem d_Unifier_standsInNone_36 : decode b_Unifier_standsInNone 36 = .ok (.getfield 31, 3) := by decide +kernel
theorem d_Unifier_standsInNone_39 : decode b_Unifier_standsInNone 39 = .ok (.invokevirtual 76, 3) := by decide +kernel
theorem d_Unifier_standsInNone_42 : decode b_Unifier_standsInNone 42 = .ok (.istore 4, 2) := by decide +kernel
theorem d_Unifier_standsInNone_44 : decode b_Unifier_standsInNone 44 = .ok (.iload_n 3, 1) := by decide +kernel
theorem d_Unifier_standsInNone_45 : decode b_Unifier_standsInNone 45 = .ok (.aload_n 0, 1) := by decide +kernel
theorem d_Unifier_standsInNone_46 : decode b_Unifier_standsInNone 46 = .ok (.getfield 34, 3) := by decide +kernel
theorem d_Unifier_standsInNone_49 : decode b_Unifier_standsInNone 49 = .ok (.iload 4, 2) := by decide +kernel
theorem d_Unifier_standsInNone_51 : decode b_Unifier_standsInNone 51 = .ok (.invokevirtual 96, 3) := by decide +kernel
theorem d_Unifier_standsInNone_54 : decode b_Unifier_standsInNone 54 = .ok (.if_icmp .ne 14, 3) := by decide +kernel
theorem d_Unifier_standsInNone_57 : decode b_Unifier_standsInNone 57 = .ok (.aload_n 0, 1) := by decide +kernel
theorem d_Unifier_standsInNone_58 : decode b_Unifier_standsInNone 58 = .ok (.getfield 15, 3) := by decide +kernel
theorem d_Unifier_standsInNone_61 : decode b_Unifier_standsInNone 61 = .ok (.iload 4, 2) := by decide +kernel
theorem d_Unifier_standsInNone_63 : decode b_Unifier_standsInNone 63 = .ok (.iconst 2, 1) := by decide +kernel
theorem d_Unifier_standsInNone_64 : decode b_Unifier_standsInNone 64 = .ok (.iastore, 1) := by decide +kernel
theorem d_Unifier_standsInNone_65 : decode b_Unifier_standsInNone 65 = .ok (.goto 67, 3) := by decide +kernel
theorem d_Unifier_standsInNone_68 : decode b_Unifier_standsInNone 68 = .ok (.aload_n 0, 1) := by decide +kernel
theorem d_Unifier_standsInNone_69 : decode b_Unifier_standsInNone 69 = .ok (.getfield 31, 3) := by decide +kernel
theorem d_Unifier_standsInNone_72 : decode b_Unifier_standsInNone 72 = .ok (.iload 4, 2) := by decide +kernel
theorem d_Unifier_standsInNone_74 : decode b_Unifier_standsInNone 74 = .ok (.invokevirtual 72, 3) := by decide +kernel
theorem d_Unifier_standsInNone_77 : decode b_Unifier_standsInNone 77 = .ok (.aload_n 0, 1) := by decide +kernel
theorem d_Unifier_standsInNone_78 : decode b_Unifier_standsInNone 78 = .ok (.getfield 31, 3) := by decide +kernel
theorem d_Unifier_standsInNone_81 : decode b_Unifier_standsInNone 81 = .ok (.iload_n 3, 1) := by decide +kernel
theorem d_Unifier_standsInNone_82 : decode b_Unifier_standsInNone 82 = .ok (.iconst 1, 1) := by decide +kernel
theorem d_Unifier_standsInNone_83 : decode b_Unifier_standsInNone 83 = .ok (.iadd, 1) := by decide +kernel
theorem d_Unifier_standsInNone_84 : decode b_Unifier_standsInNone 84 = .ok (.invokevirtual 72, 3) := by decide +kernel
theorem d_Unifier_standsInNone_87 : decode b_Unifier_standsInNone 87 = .ok (.aload_n 0, 1) := by decide +kernel
theorem d_Unifier_standsInNone_88 : decode b_Unifier_standsInNone 88 = .ok (.aload_n 0, 1) := by decide +kernel
theorem d_Unifier_standsInNone_89 : decode b_Unifier_standsInNone 89 = .ok (.getfield 34, 3) := by decide +kernel
theorem d_Unifier_standsInNone_92 : decode b_Unifier_standsInNone 92 = .ok (.iload 4, 2) := by decide +kernel
theorem d_Unifier_standsInNone_94 : decode b_Unifier_standsInNone 94 = .ok (.iload_n 3, 1) := by decide +kernel
theorem d_Unifier_standsInNone_95 : decode b_Unifier_standsInNone 95 = .ok (.invokevirtual 99, 3) := by decide +kernel
theorem d_Unifier_standsInNone_98 : decode b_Unifier_standsInNone 98 = .ok (.invokevirtual 79, 3) := by decide +kernel
theorem d_Unifier_standsInNone_101 : decode b_Unifier_standsInNone 101 = .ok (.istore 5, 2) := by decide +kernel
theorem d_Unifier_standsInNone_103 : decode b_Unifier_standsInNone 103 = .ok (.aload_n 0, 1) := by decide +kernel
theorem d_Unifier_standsInNone_104 : decode b_Unifier_standsInNone 104 = .ok (.getfield 15, 3) := by decide +kernel
theorem d_Unifier_standsInNone_107 : decode b_Unifier_standsInNone 107 = .ok (.iload 5, 2) := by decide +kernel
theorem d_Unifier_standsInNone_109 : decode b_Unifier_standsInNone 109 = .ok (.iaload, 1) := by decide +kernel
theorem d_Unifier_standsInNone_110 : decode b_Unifier_standsInNone 110 = .ok (.iconst 1, 1) := by decide +kernel
theorem d_Unifier_standsInNone_111 : decode b_Unifier_standsInNone 111 = .ok (.if_icmp .ne 5, 3) := by decide +kernel
theorem d_Unifier_standsInNone_114 : decode b_Unifier_standsInNone 114 = .ok (.iconst 0, 1) := by decide +kernel
theorem d_Unifier_standsInNone_115 : decode b_Unifier_standsInNone 115 = .ok (.ireturn, 1) := by decide +kernel
theorem d_Unifier_standsInNone_116 : decode b_Unifier_standsInNone 116 = .ok (.aload_n 0, 1) := by decide +kernel
theorem d_Unifier_standsInNone_117 : decode b_Unifier_standsInNone 117 = .ok (.getfield 15, 3) := by decide +kernel
theorem d_Unifier_standsInNone_120 : decode b_Unifier_standsInNone 120 = .ok (.iload 5, 2) := by decide +kernel
theorem d_Unifier_standsInNone_122 : decode b_Unifier_standsInNone 122 = .ok (.iaload, 1) := by decide +kernel
theorem d_Unifier_standsInNone_123 : decode b_Unifier_standsInNone 123 = .ok (.ifCond .ne 9, 3) := by decide +kernel
theorem d_Unifier_standsInNone_126 : decode b_Unifier_standsInNone 126 = .ok (.aload_n 0, 1) := by decide +kernel
theorem d_Unifier_standsInNone_127 : decode b_Unifier_standsInNone 127 = .ok (.iload 5, 2) := by decide +kernel
theorem d_Unifier_standsInNone_129 : decode b_Unifier_standsInNone 129 = .ok (.invokevirtual 106, 3) := by decide +kernel
theorem d_Unifier_standsInNone_132 : decode b_Unifier_standsInNone 132 = .ok (.iinc 2 1, 3) := by decide +kernel
theorem d_Unifier_standsInNone_135 : decode b_Unifier_standsInNone 135 = .ok (.goto (-124), 3) := by decide +kernel
theorem d_Unifier_standsInNone_138 : decode b_Unifier_standsInNone 138 = .ok (.aload_n 0, 1) := by decide +kernel
theorem d_Unifier_standsInNone_139 : decode b_Unifier_standsInNone 139 = .ok (.getfield 31, 3) := by decide +kernel
theorem d_Unifier_standsInNone_142 : decode b_Unifier_standsInNone 142 = .ok (.invokevirtual 61, 3) := by decide +kernel
theorem d_Unifier_standsInNone_145 : decode b_Unifier_standsInNone 145 = .ok (.ifCond .ne 7, 3) := by decide +kernel
theorem d_Unifier_standsInNone_148 : decode b_Unifier_standsInNone 148 = .ok (.iconst 1, 1) := by decide +kernel
theorem d_Unifier_standsInNone_149 : decode b_Unifier_standsInNone 149 = .ok (.goto 4, 3) := by decide +kernel
theorem d_Unifier_standsInNone_152 : decode b_Unifier_standsInNone 152 = .ok (.iconst 0, 1) := by decide +kernel
theorem d_Unifier_standsInNone_153 : decode b_Unifier_standsInNone 153 = .ok (.ireturn, 1) := by decide +kernel
def p_Unifier_standsInNone_11 (n : Nat) (a_terms_nodes : Int32) (a_terms_variables : Int32) (a_terms_variablesLack : Int32) (a_terms_symbols : Int32) (a_terms_nodesBefore : Int32) (a_terms_partsBefore : Int32) (a_terms_variablesBefore : Int32) (a_terms_shapes_n : Nat) (a_terms_shapes_f : Nat → Int32) (a_terms_firstParts_n : Nat) (a_terms_firstParts_f : Nat → Int32) (a_terms_parts_size : Int32) (a_terms_parts_items_n : Nat) (a_terms_parts_items_f : Nat → Int32) (a_terms_became_n : Nat) (a_terms_became_f : Nat → Int32) (a_links_n : Nat) (a_states_n : Nat) (kf3 : Nat) (x2_3 : Int32) (a_seen_size_3 : Int32) (a_path_size_3 : Int32) (a_links_3f : Nat → Int32) (a_states_3f : Nat → Int32) (a_seen_items_3n : Nat) (a_seen_items_3f : Nat → Int32) (a_path_items_3n : Nat) (a_path_items_3f : Nat → Int32) : Option ((Int32 × (Nat → Int32) × (Nat → Int32) × Int32 × Nat × (Nat → Int32) × Int32 × Nat × (Nat → Int32)) × Nat × Nat) := match kf3 with
  | 0 => none
  | kf3 + 1 => if 1000000 ≤ x2_3 then ((p_Ints_size a_path_size_3).bind (fun r5 => if r5 = 0 then (some (((1 : Int32), a_links_3f, a_states_3f, a_seen_size_3, a_seen_items_3n, a_seen_items_3f, a_path_size_3, a_path_items_3n, a_path_items_3f), 0, 0)) else (some (((0 : Int32), a_links_3f, a_states_3f, a_seen_size_3, a_seen_items_3n, a_seen_items_3f, a_path_size_3, a_path_items_3n, a_path_items_3f), 0, 0)))) else ((p_Ints_size a_path_size_3).bind (fun r7 => if r7 ≤ 0 then ((p_Ints_size a_path_size_3).bind (fun r9 => if r9 = 0 then (some (((1 : Int32), a_links_3f, a_states_3f, a_seen_size_3, a_seen_items_3n, a_seen_items_3f, a_path_size_3, a_path_items_3n, a_path_items_3f), 0, 0)) else (some (((0 : Int32), a_links_3f, a_states_3f, a_seen_size_3, a_seen_items_3n, a_seen_items_3f, a_path_size_3, a_path_items_3n, a_path_items_3f), 0, 0)))) else ((p_Ints_pop a_path_size_3 a_path_items_3n a_path_items_3f).bind (fun (r11, a_size_11) => (p_Ints_pop a_size_11 a_path_items_3n a_path_items_3f).bind (fun (r12, a_size_12) => (p_Terms_partsOf r12 a_terms_nodes a_terms_variables a_terms_variablesLack a_terms_symbols a_terms_nodesBefore a_terms_partsBefore a_terms_variablesBefore a_terms_shapes_n a_terms_shapes_f).bind (fun r13 => if r11 = r13 then (ck (ixb r12 a_states_n) (p_Unifier_standsInNone_11 n a_terms_nodes a_terms_variables a_terms_variablesLack a_terms_symbols a_terms_nodesBefore a_terms_partsBefore a_terms_variablesBefore a_terms_shapes_n a_terms_shapes_f a_terms_firstParts_n a_terms_firstParts_f a_terms_parts_size a_terms_parts_items_n a_terms_parts_items_f a_terms_became_n a_terms_became_f a_links_n a_states_n kf3 (x2_3 + 1) a_seen_size_3 a_size_12 a_links_3f (upd a_states_3f r12.toNatClampNeg 2) a_seen_items_3n a_seen_items_3f a_path_items_3n a_path_items_3f)) else ((p_Ints_push r12 a_size_12 a_path_items_3n a_path_items_3f).bind (fun ((a_size_15, a_items_n_15, a_items_f_15), mk15, sk15) => al mk15 sk15 ((p_Ints_push (r11 + 1) a_size_15 a_items_n_15 a_items_f_15).bind (fun ((a_size_16, a_items_n_16, a_items_f_16), mk16, sk16) => al mk16 sk16 ((p_Terms_partAt r12 r11 a_terms_nodes a_terms_variables a_terms_variablesLack a_terms_symbols a_terms_nodesBefore a_terms_partsBefore a_terms_variablesBefore a_terms_firstParts_n a_terms_firstParts_f a_terms_parts_size a_terms_parts_items_n a_terms_parts_items_f).bind (fun r17 => (p_Unifier_rootOf n r17 a_terms_nodes a_terms_variables a_terms_variablesLack a_terms_symbols a_terms_nodesBefore a_terms_partsBefore a_terms_variablesBefore a_terms_became_n a_terms_became_f a_links_n a_links_3f).bind (fun (r18, a_links_f_18) => ck (ixb r18 a_states_n) (if (a_states_3f r18.toNatClampNeg) = 1 then (some (((0 : Int32), a_links_f_18, a_states_3f, a_seen_size_3, a_seen_items_3n, a_seen_items_3f, a_size_16, a_items_n_16, a_items_f_16), 0, 0)) else (ck (ixb r18 a_states_n) (if (a_states_3f r18.toNatClampNeg) = 0 then ((p_Unifier_enter r18 a_states_n a_states_3f a_seen_size_3 a_seen_items_3n a_seen_items_3f a_size_16 a_items_n_16 a_items_f_16).bind (fun ((a_states_f_23, a_seen_size_23, a_seen_items_n_23, a_seen_items_f_23, a_path_size_23, a_path_items_n_23, a_path_items_f_23), mk23, sk23) => al mk23 sk23 (p_Unifier_standsInNone_11 n a_terms_nodes a_terms_variables a_terms_variablesLack a_terms_symbols a_terms_nodesBefore a_terms_partsBefore a_terms_variablesBefore a_terms_shapes_n a_terms_shapes_f a_terms_firstParts_n a_terms_firstParts_f a_terms_parts_size a_terms_parts_items_n a_terms_parts_items_f a_terms_became_n a_terms_became_f a_links_n a_states_n kf3 (x2_3 + 1) a_seen_size_23 a_path_size_23 a_links_f_18 a_states_f_23 a_seen_items_n_23 a_seen_items_f_23 a_path_items_n_23 a_path_items_f_23))) else (p_Unifier_standsInNone_11 n a_terms_nodes a_terms_variables a_terms_variablesLack a_terms_symbols a_terms_nodesBefore a_terms_partsBefore a_terms_variablesBefore a_terms_shapes_n a_terms_shapes_f a_terms_firstParts_n a_terms_firstParts_f a_terms_parts_size a_terms_parts_items_n a_terms_parts_items_f a_terms_became_n a_terms_became_f a_links_n a_states_n kf3 (x2_3 + 1) a_seen_size_3 a_size_16 a_links_f_18 a_states_3f a_seen_items_3n a_seen_items_3f a_items_n_16 a_items_f_16)))))))))))))))))
def p_Unifier_standsInNone (n : Nat) (node : Int32) (a_terms_nodes : Int32) (a_terms_variables : Int32) (a_terms_variablesLack : Int32) (a_terms_symbols : Int32) (a_terms_nodesBefore : Int32) (a_terms_partsBefore : Int32) (a_terms_variablesBefore : Int32) (a_terms_shapes_n : Nat) (a_terms_shapes_f : Nat → Int32) (a_terms_firstParts_n : Nat) (a_terms_firstParts_f : Nat → Int32) (a_terms_parts_size : Int32) (a_terms_parts_items_n : Nat) (a_terms_parts_items_f : Nat → Int32) (a_terms_became_n : Nat) (a_terms_became_f : Nat → Int32) (a_links_n : Nat) (a_links_f : Nat → Int32) (a_states_n : Nat) (a_states_f : Nat → Int32) (a_seen_size : Int32) (a_seen_items_n : Nat) (a_seen_items_f : Nat → Int32) (a_path_size : Int32) (a_path_items_n : Nat) (a_path_items_f : Nat → Int32) : Option ((Int32 × (Nat → Int32) × (Nat → Int32) × Int32 × Nat × (Nat → Int32) × Int32 × Nat × (Nat → Int32)) × Nat × Nat) := (p_Unifier_rootOf n node a_terms_nodes a_terms_variables a_terms_variablesLack a_terms_symbols a_terms_nodesBefore a_terms_partsBefore a_terms_variablesBefore a_terms_became_n a_terms_became_f a_links_n a_links_f).bind (fun (r1, a_links_f_1) => (p_Unifier_enter r1 a_states_n a_states_f a_seen_size a_seen_items_n a_seen_items_f a_path_size a_path_items_n a_path_items_f).bind (fun ((a_states_f_2, a_seen_size_2, a_seen_items_n_2, a_seen_items_f_2, a_path_size_2, a_path_items_n_2, a_path_items_f_2), mk2, sk2) => al mk2 sk2 (p_Unifier_standsInNone_11 n a_terms_nodes a_terms_variables a_terms_variablesLack a_terms_symbols a_terms_nodesBefore a_terms_partsBefore a_terms_variablesBefore a_terms_shapes_n a_terms_shapes_f a_terms_firstParts_n a_terms_firstParts_f a_terms_parts_size a_terms_parts_items_n a_terms_parts_items_f a_terms_became_n a_terms_became_f a_links_n a_states_n n (0 : Int32) a_seen_size_2 a_path_size_2 a_links_f_1 a_states_f_2 a_seen_items_n_2 a_seen_items_f_2 a_path_items_n_2 a_path_items_f_2)))
set_option maxHeartbeats 4000000 in
set_option maxRecDepth 100000 in
theorem c_Unifier_standsInNone (l : Launch) (g : va_G) (cs : Nat → ClassId) (ka : Nat → Nat) (a_pairs : Nat) (a_joined : Nat) (a_terms_values : Nat) (a_terms_variableNames : Nat) (a a_terms a_terms_shapes a_terms_firstParts a_terms_parts a_terms_parts_items a_terms_became a_links a_states a_seen a_seen_items a_path a_path_items : Nat) (sz : Nat) (n : Nat) (node : Int32) (a_terms_nodes : Int32) (a_terms_variables : Int32) (a_terms_variablesLack : Int32) (a_terms_symbols : Int32) (a_terms_nodesBefore : Int32) (a_terms_partsBefore : Int32) (a_terms_variablesBefore : Int32) (a_terms_shapes_n : Nat) (a_terms_shapes_f : Nat → Int32) (a_terms_firstParts_n : Nat) (a_terms_firstParts_f : Nat → Int32) (a_terms_parts_size : Int32) (a_terms_parts_items_n : Nat) (a_terms_parts_items_f : Nat → Int32) (a_terms_became_n : Nat) (a_terms_became_f : Nat → Int32) (a_links_n : Nat) (a_links_f : Nat → Int32) (a_states_n : Nat) (a_states_f : Nat → Int32) (a_seen_size : Int32) (a_seen_items_n : Nat) (a_seen_items_f : Nat → Int32) (a_path_size : Int32) (a_path_items_n : Nat) (a_path_items_f : Nat → Int32) (r : Int32) (o_a_links_f : Nat → Int32) (o_a_states_f : Nat → Int32) (o_a_seen_size : Int32) (o_a_seen_items_n : Nat) (o_a_seen_items_f : Nat → Int32) (o_a_path_size : Int32) (o_a_path_items_n : Nat) (o_a_path_items_f : Nat → Int32) (mc ms : Nat) (hok : p_Unifier_standsInNone n node a_terms_nodes a_terms_variables a_terms_variablesLack a_terms_symbols a_terms_nodesBefore a_terms_partsBefore a_terms_variablesBefore a_terms_shapes_n a_terms_shapes_f a_terms_firstParts_n a_terms_firstParts_f a_terms_parts_size a_terms_parts_items_n a_terms_parts_items_f a_terms_became_n a_terms_became_f a_links_n a_links_f a_states_n a_states_f a_seen_size a_seen_items_n a_seen_items_f a_path_size a_path_items_n a_path_items_f = some ((r, o_a_links_f, o_a_states_f, o_a_seen_size, o_a_seen_items_n, o_a_seen_items_f, o_a_path_size, o_a_path_items_n, o_a_path_items_f), mc, ms)) : Met l y_Unifier_standsInNone (.code y_Unifier_standsInNone b_Unifier_standsInNone 6 (some .boolean) :: GW) { frames := 4, cells := mc, slots := ms, locals := 164 } (va_Pc [.ref a, .int node] (gP g cs ka [(a, .inr (8, [.ref a_terms, .ref a_links, .ref a_states, .ref a_pairs, .ref a_joined, .ref a_seen, .ref a_path])), (a_terms, .inr (7, [.ref a_terms_shapes, .ref a_terms_values, .ref a_terms_firstParts, .int a_terms_nodes, .ref a_terms_parts, .ref a_terms_variableNames, .ref a_terms_became, .int a_terms_variables, .int a_terms_variablesLack, .int a_terms_symbols, .int a_terms_nodesBefore, .int a_terms_partsBefore, .int a_terms_variablesBefore])), (a_terms_shapes, .inl (cs 0, a_terms_shapes_n, .inl a_terms_shapes_f)), (a_terms_firstParts, .inl (cs 0, a_terms_firstParts_n, .inl a_terms_firstParts_f)), (a_terms_parts, .inr (1, [.ref a_terms_parts_items, .int a_terms_parts_size])), (a_terms_parts_items, .inl (cs 0, a_terms_parts_items_n, .inl a_terms_parts_items_f)), (a_terms_became, .inl (cs 0, a_terms_became_n, .inl a_terms_became_f)), (a_links, .inl (cs 0, a_links_n, .inl a_links_f)), (a_states, .inl (cs 0, a_states_n, .inl a_states_f)), (a_seen, .inr (1, [.ref a_seen_items, .int a_seen_size])), (a_seen_items, .inl (cs 0, a_seen_items_n, .inl a_seen_items_f)), (a_path, .inr (1, [.ref a_path_items, .int a_path_size])), (a_path_items, .inl (cs 0, a_path_items_n, .inl a_path_items_f))] sz)) (va_Qi (fun (r' : Int32) (_ : Unit) => r = r') (fun _ t => ∃ b_a_seen_items b_a_path_items : Nat, va_P g classes [(a, .inr (8, [.ref a_terms, .ref a_links, .ref a_states, .ref a_pairs, .ref a_joined, .ref a_seen, .ref a_path])), (a_terms, .inr (7, [.ref a_terms_shapes, .ref a_terms_values, .ref a_terms_firstParts, .int a_terms_nodes, .ref a_terms_parts, .ref a_terms_variableNames, .ref a_terms_became, .int a_terms_variables, .int a_terms_variablesLack, .int a_terms_symbols, .int a_terms_nodesBefore, .int a_terms_partsBefore, .int a_terms_variablesBefore])), (a_terms_shapes, .inl (cs 0, a_terms_shapes_n, .inl a_terms_shapes_f)), (a_terms_firstParts, .inl (cs 0, a_terms_firstParts_n, .inl a_terms_firstParts_f)), (a_terms_parts, .inr (1, [.ref a_terms_parts_items, .int a_terms_parts_size])), (a_terms_parts_items, .inl (cs 0, a_terms_parts_items_n, .inl a_terms_parts_items_f)), (a_terms_became, .inl (cs 0, a_terms_became_n, .inl a_terms_became_f)), (a_links, .inl (cs 0, a_links_n, .inl o_a_links_f)), (a_states, .inl (cs 0, a_states_n, .inl o_a_states_f)), (a_seen, .inr (1, [.ref b_a_seen_items, .int o_a_seen_size])), (b_a_seen_items, .inl (cs 0, o_a_seen_items_n, .inl o_a_seen_items_f)), (a_path, .inr (1, [.ref b_a_path_items, .int o_a_path_size])), (b_a_path_items, .inl (cs 0, o_a_path_items_n, .inl o_a_path_items_f))] t.heap ∧ va_D (va_A [(a, .inr (8, [.ref a_terms, .ref a_links, .ref a_states, .ref a_pairs, .ref a_joined, .ref a_seen, .ref a_path])), (a_terms, .inr (7, [.ref a_terms_shapes, .ref a_terms_values, .ref a_terms_firstParts, .int a_terms_nodes, .ref a_terms_parts, .ref a_terms_variableNames, .ref a_terms_became, .int a_terms_variables, .int a_terms_variablesLack, .int a_terms_symbols, .int a_terms_nodesBefore, .int a_terms_partsBefore, .int a_terms_variablesBefore])), (a_terms_shapes, .inl (cs 0, a_terms_shapes_n, .inl a_terms_shapes_f)), (a_terms_firstParts, .inl (cs 0, a_terms_firstParts_n, .inl a_terms_firstParts_f)), (a_terms_parts, .inr (1, [.ref a_terms_parts_items, .int a_terms_parts_size])), (a_terms_parts_items, .inl (cs 0, a_terms_parts_items_n, .inl a_terms_parts_items_f)), (a_terms_became, .inl (cs 0, a_terms_became_n, .inl a_terms_became_f)), (a_links, .inl (cs 0, a_links_n, .inl a_links_f)), (a_states, .inl (cs 0, a_states_n, .inl a_states_f)), (a_seen, .inr (1, [.ref a_seen_items, .int a_seen_size])), (a_seen_items, .inl (cs 0, a_seen_items_n, .inl a_seen_items_f)), (a_path, .inr (1, [.ref a_path_items, .int a_path_size])), (a_path_items, .inl (cs 0, a_path_items_n, .inl a_path_items_f))] sz) [(a, .inr (8, [.ref a_terms, .ref a_links, .ref a_states, .ref a_pairs, .ref a_joined, .ref a_seen, .ref a_path])), (a_terms, .inr (7, [.ref a_terms_shapes, .ref a_terms_values, .ref a_terms_firstParts, .int a_terms_nodes, .ref a_terms_parts, .ref a_terms_variableNames, .ref a_terms_became, .int a_terms_variables, .int a_terms_variablesLack, .int a_terms_symbols, .int a_terms_nodesBefore, .int a_terms_partsBefore, .int a_terms_variablesBefore])), (a_terms_shapes, .inl (cs 0, a_terms_shapes_n, .inl a_terms_shapes_f)), (a_terms_firstParts, .inl (cs 0, a_terms_firstParts_n, .inl a_terms_firstParts_f)), (a_terms_parts, .inr (1, [.ref a_terms_parts_items, .int a_terms_parts_size])), (a_terms_parts_items, .inl (cs 0, a_terms_parts_items_n, .inl a_terms_parts_items_f)), (a_terms_became, .inl (cs 0, a_terms_became_n, .inl a_terms_became_f)), (a_links, .inl (cs 0, a_links_n, .inl o_a_links_f)), (a_states, .inl (cs 0, a_states_n, .inl o_a_states_f)), (a_seen, .inr (1, [.ref b_a_seen_items, .int o_a_seen_size])), (b_a_seen_items, .inl (cs 0, o_a_seen_items_n, .inl o_a_seen_items_f)), (a_path, .inr (1, [.ref b_a_path_items, .int o_a_path_size])), (b_a_path_items, .inl (cs 0, o_a_path_items_n, .inl o_a_path_items_f))]) (va_A [(a, .inr (8, [.ref a_terms, .ref a_links, .ref a_states, .ref a_pairs, .ref a_joined, .ref a_seen, .ref a_path])), (a_terms, .inr (7, [.ref a_terms_shapes, .ref a_terms_values, .ref a_terms_firstParts, .int a_terms_nodes, .ref a_terms_parts, .ref a_terms_variableNames, .ref a_terms_became, .int a_terms_variables, .int a_terms_variablesLack, .int a_terms_symbols, .int a_terms_nodesBefore, .int a_terms_partsBefore, .int a_terms_variablesBefore])), (a_terms_shapes, .inl (cs 0, a_terms_shapes_n, .inl a_terms_shapes_f)), (a_terms_firstParts, .inl (cs 0, a_terms_firstParts_n, .inl a_terms_firstParts_f)), (a_terms_parts, .inr (1, [.ref a_terms_parts_items, .int a_terms_parts_size])), (a_terms_parts_items, .inl (cs 0, a_terms_parts_items_n, .inl a_terms_parts_items_f)), (a_terms_became, .inl (cs 0, a_terms_became_n, .inl a_terms_became_f)), (a_links, .inl (cs 0, a_links_n, .inl a_links_f)), (a_states, .inl (cs 0, a_states_n, .inl a_states_f)), (a_seen, .inr (1, [.ref a_seen_items, .int a_seen_size])), (a_seen_items, .inl (cs 0, a_seen_items_n, .inl a_seen_items_f)), (a_path, .inr (1, [.ref a_path_items, .int a_path_size])), (a_path_items, .inl (cs 0, a_path_items_n, .inl a_path_items_f))] sz)) mc ms (va_A [(a, .inr (8, [.ref a_terms, .ref a_links, .ref a_states, .ref a_pairs, .ref a_joined, .ref a_seen, .ref a_path])), (a_terms, .inr (7, [.ref a_terms_shapes, .ref a_terms_values, .ref a_terms_firstParts, .int a_terms_nodes, .ref a_terms_parts, .ref a_terms_variableNames, .ref a_terms_became, .int a_terms_variables, .int a_terms_variablesLack, .int a_terms_symbols, .int a_terms_nodesBefore, .int a_terms_partsBefore, .int a_terms_variablesBefore])), (a_terms_shapes, .inl (cs 0, a_terms_shapes_n, .inl a_terms_shapes_f)), (a_terms_firstParts, .inl (cs 0, a_terms_firstParts_n, .inl a_terms_firstParts_f)), (a_terms_parts, .inr (1, [.ref a_terms_parts_items, .int a_terms_parts_size])), (a_terms_parts_items, .inl (cs 0, a_terms_parts_items_n, .inl a_terms_parts_items_f)), (a_terms_became, .inl (cs 0, a_terms_became_n, .inl a_terms_became_f)), (a_links, .inl (cs 0, a_links_n, .inl a_links_f)), (a_states, .inl (cs 0, a_states_n, .inl a_states_f)), (a_seen, .inr (1, [.ref a_seen_items, .int a_seen_size])), (a_seen_items, .inl (cs 0, a_seen_items_n, .inl a_seen_items_f)), (a_path, .inr (1, [.ref a_path_items, .int a_path_size])), (a_path_items, .inl (cs 0, a_path_items_n, .inl a_path_items_f))] sz) := by
  refine Met.ofW (cc := b_Unifier_standsInNone) (maxL := 6) (ret := (some .boolean)) (by decide) rfl ?_
  intro p e s m args below meth c s₁ B hml hv
  obtain ⟨rfl, hsz, hP, hK, hD0, hgl, hkn, hkr⟩ := hv
  have hx := B.exec
  have hb := B.bytes
  have hr := B.returns
  have hg : ∀ w ∈ GW, w.before ([.ref a, .int node] : List Value).toArray s = true := fun w hw => atoms_spec (ws := .code y_Unifier_standsInNone b_Unifier_standsInNone 6 (some .boolean) :: GW) B.pre w (List.mem_cons_of_mem _ hw)
  have hown : s.vm.findClass R_Unifier = some m.cls := findClass_of_methodNamed B.named
  have hlocks := B.notSynchronized
  subst hsz
  have hD := hD0.self (sz := s.heap.size)
  generalize hAe : va_A [(a, .inr (8, [.ref a_terms, .ref a_links, .ref a_states, .ref a_pairs, .ref a_joined, .ref a_seen, .ref a_path])), (a_terms, .inr (7, [.ref a_terms_shapes, .ref a_terms_values, .ref a_terms_firstParts, .int a_terms_nodes, .ref a_terms_parts, .ref a_terms_variableNames, .ref a_terms_became, .int a_terms_variables, .int a_terms_variablesLack, .int a_terms_symbols, .int a_terms_nodesBefore, .int a_terms_partsBefore, .int a_terms_variablesBefore])), (a_terms_shapes, .inl (cs 0, a_terms_shapes_n, .inl a_terms_shapes_f)), (a_terms_firstParts, .inl (cs 0, a_terms_firstParts_n, .inl a_terms_firstParts_f)), (a_terms_parts, .inr (1, [.ref a_terms_parts_items, .int a_terms_parts_size])), (a_terms_parts_items, .inl (cs 0, a_terms_parts_items_n, .inl a_terms_parts_items_f)), (a_terms_became, .inl (cs 0, a_terms_became_n, .inl a_terms_became_f)), (a_links, .inl (cs 0, a_links_n, .inl a_links_f)), (a_states, .inl (cs 0, a_states_n, .inl a_states_f)), (a_seen, .inr (1, [.ref a_seen_items, .int a_seen_size])), (a_seen_items, .inl (cs 0, a_seen_items_n, .inl a_seen_items_f)), (a_path, .inr (1, [.ref a_path_items, .int a_path_size])), (a_path_items, .inl (cs 0, a_path_items_n, .inl a_path_items_f))] s.heap.size = A at hD hkn ⊢
  have hA : ∀ q : Nat, s.heap.size ≤ q → A q := fun q h => by rw [← hAe]; exact Or.inr h
  have hS : va_S A s.heap s.heap [] := va_S.rf
  have hP : va_P g classes [(a, .inr (8, [.ref a_terms, .ref a_links, .ref a_states, .ref a_pairs, .ref a_joined, .ref a_seen, .ref a_path])), (a_terms, .inr (7, [.ref a_terms_shapes, .ref a_terms_values, .ref a_terms_firstParts, .int a_terms_nodes, .ref a_terms_parts, .ref a_terms_variableNames, .ref a_terms_became, .int a_terms_variables, .int a_terms_variablesLack, .int a_terms_symbols, .int a_terms_nodesBefore, .int a_terms_partsBefore, .int a_terms_variablesBefore])), (a_terms_shapes, .inl (cs 0, a_terms_shapes_n, .inl a_terms_shapes_f)), (a_terms_firstParts, .inl (cs 0, a_terms_firstParts_n, .inl a_terms_firstParts_f)), (a_terms_parts, .inr (1, [.ref a_terms_parts_items, .int a_terms_parts_size])), (a_terms_parts_items, .inl (cs 0, a_terms_parts_items_n, .inl a_terms_parts_items_f)), (a_terms_became, .inl (cs 0, a_terms_became_n, .inl a_terms_became_f)), (a_links, .inl (cs 0, a_links_n, .inl a_links_f)), (a_states, .inl (cs 0, a_states_n, .inl a_states_f)), (a_seen, .inr (1, [.ref a_seen_items, .int a_seen_size])), (a_seen_items, .inl (cs 0, a_seen_items_n, .inl a_seen_items_f)), (a_path, .inr (1, [.ref a_path_items, .int a_path_size])), (a_path_items, .inl (cs 0, a_path_items_n, .inl a_path_items_f))] s.heap := hP
  have hl := lv_entry ([.ref a, .int node]) (n := 6) (Nat.le_of_ble_eq_true rfl)
  rw [lg_entry_eq]
  generalize (lg_sl ([.ref a, .int node]) ++ List.replicate (6 - (lg_sl ([.ref a, .int node])).length) Slot.unset).toArray = ls at hl ⊢
  have hl : lv_has ls 6 [(0, .ref a), (1, .int node)] := hl
  refine gq (fun Q hQ => ?_)
  obtain ⟨H, hH⟩ : ∃ H : Heap, H = s.heap := ⟨_, rfl⟩
  rw [← hH] at hP
  have hS : va_S A s.heap H [] := by rw [hH]; exact hS
  refine W.eqH hH ?_
  obtain ⟨locs, hlc⟩ : ∃ L : List Loc, L = [] := ⟨_, rfl⟩
  rw [← hlc] at hS ⊢
  unfold p_Unifier_standsInNone at hok
  refine lv_aload_n hx hb d_Unifier_standsInNone_0 rfl (lv_at hl 0 rfl) ?_
  refine lv_aload_n hx hb d_Unifier_standsInNone_1 rfl (lv_at hl 0 rfl) ?_
  refine lv_iload_n hx hb d_Unifier_standsInNone_2 rfl (lv_at hl 1 rfl) ?_
  obtain ⟨⟨r1, a_links_f_1⟩, hc1, hok⟩ := bd_some hok
  dsimp only at hok
  obtain ⟨hPc, hDc, hFc⟩ := cut0 (wc := [(a, .inr (8, [.ref a_terms, .ref a_links, .ref a_states, .ref a_pairs, .ref a_joined, .ref a_seen, .ref a_path])), (a_terms, .inr (7, [.ref a_terms_shapes, .ref a_terms_values, .ref a_terms_firstParts, .int a_terms_nodes, .ref a_terms_parts, .ref a_terms_variableNames, .ref a_terms_became, .int a_terms_variables, .int a_terms_variablesLack, .int a_terms_symbols, .int a_terms_nodesBefore, .int a_terms_partsBefore, .int a_terms_variablesBefore])), (a_terms_became, .inl (cs 0, a_terms_became_n, .inl a_terms_became_f)), (a_links, .inl (cs 0, a_links_n, .inl a_links_f))]) hP hD hS hA [0, 1, 6, 7] (by decide) rfl
  refine va_calli (va_runV (As := [.int node]) (rest := [.ref a]) ⟨hx, hb, hml, hown, hg⟩ (c_Unifier_rootOf l g cs ka a_states a_pairs a_joined a_seen a_path a_terms_shapes a_terms_values a_terms_firstParts a_terms_parts a_terms_variableNames a a_terms a_terms_became a_links H.size n node a_terms_nodes a_terms_variables a_terms_variablesLack a_terms_symbols a_terms_nodesBefore a_terms_partsBefore a_terms_variablesBefore a_terms_became_n a_terms_became_f a_links_n a_links_f r1 a_links_f_1 hc1) (cwV (C := R_Unifier) 1 hg (gw_V wd_364 wd_365 wd_366 wd_350 wd_363) rfl rfl rfl (by decide +kernel) ⟨Nat.le_of_ble_eq_true rfl, Nat.le_of_ble_eq_true rfl⟩) ⟨gP_blind, va_recv (q0 := 0) (ci := 8) (q := (R_Unifier, F_Unifier, 7)) hK hP rfl rfl, gP_pre hPc hDc hK hgl hkn hkr hS hFc⟩ rfl rfl hl.1 rfl (lv_room (Nat.le_of_ble_eq_true rfl)) d_Unifier_standsInNone_3 ⟨show 0 + 0 ≤ mc from by omega, show 0 + 0 ≤ ms from by omega⟩) hS (fun q _ h => hFc q h) hFc (fun r1' u t H locs ht hvm hr1 hB hz1 hk1 hS => ?_)
  subst hr1
  rw [ht] at hB
  obtain ⟨hP1, hD1⟩ := hB
  obtain ⟨hP, hD⟩ := jn_A hP hD [0, 1, 6, 7] [2, 3, 4, 5, 8, 9, 10, 11, 12] rfl rfl (by decide) (by decide) hk1 hFc hP1 hD1
  obtain ⟨hP, hD⟩ : PD g A H [(a_terms_shapes, .inl (cs 0, a_terms_shapes_n, .inl a_terms_shapes_f)), (a_terms_firstParts, .inl (cs 0, a_terms_firstParts_n, .inl a_terms_firstParts_f)), (a_terms_parts, .inr (1, [.ref a_terms_parts_items, .int a_terms_parts_size])), (a_terms_parts_items, .inl (cs 0, a_terms_parts_items_n, .inl a_terms_parts_items_f)), (a_states, .inl (cs 0, a_states_n, .inl a_states_f)), (a_seen, .inr (1, [.ref a_seen_items, .int a_seen_size])), (a_seen_items, .inl (cs 0, a_seen_items_n, .inl a_seen_items_f)), (a_path, .inr (1, [.ref a_path_items, .int a_path_size])), (a_path_items, .inl (cs 0, a_path_items_n, .inl a_path_items_f)), (a, .inr (8, [.ref a_terms, .ref a_links, .ref a_states, .ref a_pairs, .ref a_joined, .ref a_seen, .ref a_path])), (a_terms, .inr (7, [.ref a_terms_shapes, .ref a_terms_values, .ref a_terms_firstParts, .int a_terms_nodes, .ref a_terms_parts, .ref a_terms_variableNames, .ref a_terms_became, .int a_terms_variables, .int a_terms_variablesLack, .int a_terms_symbols, .int a_terms_nodesBefore, .int a_terms_partsBefore, .int a_terms_variablesBefore])), (a_terms_became, .inl (cs 0, a_terms_became_n, .inl a_terms_became_f)), (a_links, .inl (cs 0, a_links_n, .inl a_links_f_1))] := ⟨hP, hD⟩
  obtain ⟨⟨⟨a_states_f_2, a_seen_size_2, a_seen_items_n_2, a_seen_items_f_2, a_path_size_2, a_path_items_n_2, a_path_items_f_2⟩, mk2, sk2⟩, hc2, hok⟩ := bd_some hok
  dsimp only at hok
  obtain ⟨m2, s2, hok, hmc2, hms2⟩ := al_some hok
  obtain ⟨hPc, hDc, hFc⟩ := cut0 (wc := [(a, .inr (8, [.ref a_terms, .ref a_links, .ref a_states, .ref a_pairs, .ref a_joined, .ref a_seen, .ref a_path])), (a_states, .inl (cs 0, a_states_n, .inl a_states_f)), (a_seen, .inr (1, [.ref a_seen_items, .int a_seen_size])), (a_seen_items, .inl (cs 0, a_seen_items_n, .inl a_seen_items_f)), (a_path, .inr (1, [.ref a_path_items, .int a_path_size])), (a_path_items, .inl (cs 0, a_path_items_n, .inl a_path_items_f))]) hP hD hS hA [9, 4, 5, 6, 7, 8] (by decide) rfl
  refine va_callv (va_runV (As := [.int r1]) (rest := []) ⟨hx, hb, hml, hown, hg⟩ (c_Unifier_enter l g cs ka a_terms a_links a_pairs a_joined a a_states a_seen a_seen_items a_path a_path_items H.size r1 a_states_n a_states_f a_seen_size a_seen_items_n a_seen_items_f a_path_size a_path_items_n a_path_items_f a_states_f_2 a_seen_size_2 a_seen_items_n_2 a_seen_items_f_2 a_path_size_2 a_path_items_n_2 a_path_items_f_2 mk2 sk2 hc2) (cwV (C := R_Unifier) 1 hg (gw_V wd_372 wd_373 wd_374 wd_350 wd_371) rfl rfl rfl (by decide +kernel) ⟨Nat.le_of_ble_eq_true rfl, Nat.le_of_ble_eq_true rfl⟩) ⟨gP_blind, va_recv (q0 := 9) (ci := 8) (q := (R_Unifier, F_Unifier, 7)) hK hP rfl rfl, gP_pre hPc hDc hK hgl hkn hkr hS hFc⟩ rfl rfl hl.1 rfl (lv_room (Nat.le_of_ble_eq_true rfl)) d_Unifier_standsInNone_6 ⟨show 0 + 0 + mk2 ≤ mc from by omega, show 0 + 0 + sk2 ≤ ms from by omega⟩) hS (fun q _ h => hFc q h) hFc (fun u t H locs ht hvm hr2 hB hz1 hk1 hS => ?_)
  rw [ht] at hB
  obtain ⟨a_seen_items_2, a_path_items_2, hP1, hD1⟩ := hB
  obtain ⟨hP, hD⟩ := jn_A hP hD [9, 4, 5, 6, 7, 8] [0, 1, 2, 3, 10, 11, 12] rfl rfl (by decide) (by decide) hk1 hFc hP1 hD1
  obtain ⟨hP, hD⟩ : PD g A H [(a_terms_shapes, .inl (cs 0, a_terms_shapes_n, .inl a_terms_shapes_f)), (a_terms_firstParts, .inl (cs 0, a_terms_firstParts_n, .inl a_terms_firstParts_f)), (a_terms_parts, .inr (1, [.ref a_terms_parts_items, .int a_terms_parts_size])), (a_terms_parts_items, .inl (cs 0, a_terms_parts_items_n, .inl a_terms_parts_items_f)), (a_terms, .inr (7, [.ref a_terms_shapes, .ref a_terms_values, .ref a_terms_firstParts, .int a_terms_nodes, .ref a_terms_parts, .ref a_terms_variableNames, .ref a_terms_became, .int a_terms_variables, .int a_terms_variablesLack, .int a_terms_symbols, .int a_terms_nodesBefore, .int a_terms_partsBefore, .int a_terms_variablesBefore])), (a_terms_became, .inl (cs 0, a_terms_became_n, .inl a_terms_became_f)), (a_links, .inl (cs 0, a_links_n, .inl a_links_f_1)), (a, .inr (8, [.ref a_terms, .ref a_links, .ref a_states, .ref a_pairs, .ref a_joined, .ref a_seen, .ref a_path])), (a_states, .inl (cs 0, a_states_n, .inl a_states_f_2)), (a_seen, .inr (1, [.ref a_seen_items_2, .int a_seen_size_2])), (a_seen_items_2, .inl (cs 0, a_seen_items_n_2, .inl a_seen_items_f_2)), (a_path, .inr (1, [.ref a_path_items_2, .int a_path_size_2])), (a_path_items_2, .inl (cs 0, a_path_items_n_2, .inl a_path_items_f_2))] := ⟨hP, hD⟩
  refine lv_iconst (v := 0) hx hb d_Unifier_standsInNone_9 (by decide) ?_
  refine lv_istore_n hx hb d_Unifier_standsInNone_10 rfl hl (by decide) rfl (fun ls hl => ?_)
  have hl : lv_has ls 6 [(2, .int 0), (0, .ref a), (1, .int node)] := hl
  have J3 : ∀ (kf3 : Nat) (H : Heap) (locs : List Loc) (ls : Array Slot) (cells3 slots3 mr3 sr3 : Nat) (a_seen_items_3 : Nat) (a_path_items_3 : Nat) (x2_3 : Int32) (a_seen_size_3 : Int32) (a_path_size_3 : Int32) (a_links_3f : Nat → Int32) (a_states_3f : Nat → Int32) (a_seen_items_3n : Nat) (a_seen_items_3f : Nat → Int32) (a_path_items_3n : Nat) (a_path_items_3f : Nat → Int32), lv_has ls 6 [(2, .int x2_3), (0, .ref a), (1, .int node)] → PD g A H [(a_terms_shapes, .inl (cs 0, a_terms_shapes_n, .inl a_terms_shapes_f)), (a_terms_firstParts, .inl (cs 0, a_terms_firstParts_n, .inl a_terms_firstParts_f)), (a_terms_parts, .inr (1, [.ref a_terms_parts_items, .int a_terms_parts_size])), (a_terms_parts_items, .inl (cs 0, a_terms_parts_items_n, .inl a_terms_parts_items_f)), (a_terms, .inr (7, [.ref a_terms_shapes, .ref a_terms_values, .ref a_terms_firstParts, .int a_terms_nodes, .ref a_terms_parts, .ref a_terms_variableNames, .ref a_terms_became, .int a_terms_variables, .int a_terms_variablesLack, .int a_terms_symbols, .int a_terms_nodesBefore, .int a_terms_partsBefore, .int a_terms_variablesBefore])), (a_terms_became, .inl (cs 0, a_terms_became_n, .inl a_terms_became_f)), (a_links, .inl (cs 0, a_links_n, .inl a_links_3f)), (a, .inr (8, [.ref a_terms, .ref a_links, .ref a_states, .ref a_pairs, .ref a_joined, .ref a_seen, .ref a_path])), (a_states, .inl (cs 0, a_states_n, .inl a_states_3f)), (a_seen, .inr (1, [.ref a_seen_items_3, .int a_seen_size_3])), (a_seen_items_3, .inl (cs 0, a_seen_items_3n, .inl a_seen_items_3f)), (a_path, .inr (1, [.ref a_path_items_3, .int a_path_size_3])), (a_path_items_3, .inl (cs 0, a_path_items_3n, .inl a_path_items_3f))] → va_S A s.heap H locs → cells3 + mr3 = mc → slots3 + sr3 = ms → p_Unifier_standsInNone_11 n a_terms_nodes a_terms_variables a_terms_variablesLack a_terms_symbols a_terms_nodesBefore a_terms_partsBefore a_terms_variablesBefore a_terms_shapes_n a_terms_shapes_f a_terms_firstParts_n a_terms_firstParts_f a_terms_parts_size a_terms_parts_items_n a_terms_parts_items_f a_terms_became_n a_terms_became_f a_links_n a_states_n kf3 x2_3 a_seen_size_3 a_path_size_3 a_links_3f a_states_3f a_seen_items_3n a_seen_items_3f a_path_items_3n a_path_items_3f = some ((r, o_a_links_f, o_a_states_f, o_a_seen_size, o_a_seen_items_n, o_a_seen_items_f, o_a_path_size, o_a_path_items_n, o_a_path_items_f), mr3, sr3) → W p l e (headSpec (.code y_Unifier_standsInNone b_Unifier_standsInNone 6 (some .boolean) :: GW) { frames := 4, cells := mc, slots := ms, locals := 164 }).room s m ([.ref a, .int node] : List Value).toArray below meth c H locs cells3 slots3 Q (F0 m 11 ls []) := by
    intro kf3
    induction kf3 with
    | zero => intro H locs ls cells3 slots3 mr3 sr3 a_seen_items_3 a_path_items_3 x2_3 a_seen_size_3 a_path_size_3 a_links_3f a_states_3f a_seen_items_3n a_seen_items_3f a_path_items_3n a_path_items_3f hl ⟨hP, hD⟩ hS hmr3 hsr3 hok; rw [p_Unifier_standsInNone_11] at hok; cases hok
    | succ kf3 ih3 =>
      intro H locs ls cells3 slots3 mr3 sr3 a_seen_items_3 a_path_items_3 x2_3 a_seen_size_3 a_path_size_3 a_links_3f a_states_3f a_seen_items_3n a_seen_items_3f a_path_items_3n a_path_items_3f hl ⟨hP, hD⟩ hS hmr3 hsr3 hok
      rw [p_Unifier_standsInNone_11] at hok
      refine lv_iload_n hx hb d_Unifier_standsInNone_11 rfl (lv_at hl 0 rfl) ?_
      refine lv_ldc hx hb hown (hg _ wd_340) d_Unifier_standsInNone_12 ?_
      refine lv_icmp_ge hx hb d_Unifier_standsInNone_14 rfl (fun h4 => ?_) (fun h4 => ?_)
      · rw [if_pos h4] at hok
        refine lv_aload_n hx hb d_Unifier_standsInNone_138 rfl (lv_at hl 1 rfl) ?_
        refine va_get (D := g) (ci := 8) (v := .ref a_path) (C := R_Unifier) (T := F_Unifier) (N := 7) hx hb hg ul_Unifier hown hK hP 7 rfl rfl 6 (by decide) (hg _ wd_326) (fun _ h9 => h9) rfl d_Unifier_standsInNone_139 ?_
        obtain ⟨r5, hc5, hok⟩ := bd_some hok
        obtain ⟨hPc, hDc, hFc⟩ := cut0 (wc := [(a_path, .inr (1, [.ref a_path_items_3, .int a_path_size_3]))]) hP hD hS hA [11] (by decide) rfl
        refine va_calli (va_runV (As := []) (rest := []) ⟨hx, hb, hml, hown, hg⟩ (c_Ints_size l g cs ka a_path_items_3 a_path H.size a_path_size_3 r5 hc5) (cwV (C := R_Ints) 0 hg (gw_V wd_332 wd_249 wd_250 wd_234 wd_247) rfl rfl rfl (by decide +kernel) ⟨Nat.le_of_ble_eq_true rfl, Nat.le_of_ble_eq_true rfl⟩) ⟨gP_blind, va_recv (q0 := 11) (ci := 1) (q := (R_Ints, F_Ints, 2)) hK hP rfl rfl, gP_pre hPc hDc hK hgl hkn hkr hS hFc⟩ rfl rfl hl.1 rfl (lv_room (Nat.le_of_ble_eq_true rfl)) d_Unifier_standsInNone_142 ⟨show cells3 + 0 ≤ mc from by omega, show slots3 + 0 ≤ ms from by omega⟩) hS (fun q _ h => hFc q h) hFc (fun r5' u t H locs ht hvm hr5 hB hz1 hk1 hS => ?_)
        subst hr5
        rw [ht] at hB
        obtain ⟨hP1, hD1⟩ := hB
        obtain ⟨hP, hD⟩ := jn_A hP hD [11] [0, 1, 2, 3, 4, 5, 6, 7, 8, 9, 10, 12] rfl rfl (by decide) (by decide) hk1 hFc hP1 hD1
        obtain ⟨hP, hD⟩ : PD g A H [(a_terms_shapes, .inl (cs 0, a_terms_shapes_n, .inl a_terms_shapes_f)), (a_terms_firstParts, .inl (cs 0, a_terms_firstParts_n, .inl a_terms_firstParts_f)), (a_terms_parts, .inr (1, [.ref a_terms_parts_items, .int a_terms_parts_size])), (a_terms_parts_items, .inl (cs 0, a_terms_parts_items_n, .inl a_terms_parts_items_f)), (a_terms, .inr (7, [.ref a_terms_shapes, .ref a_terms_values, .ref a_terms_firstParts, .int a_terms_nodes, .ref a_terms_parts, .ref a_terms_variableNames, .ref a_terms_became, .int a_terms_variables, .int a_terms_variablesLack, .int a_terms_symbols, .int a_terms_nodesBefore, .int a_terms_partsBefore, .int a_terms_variablesBefore])), (a_terms_became, .inl (cs 0, a_terms_became_n, .inl a_terms_became_f)), (a_links, .inl (cs 0, a_links_n, .inl a_links_3f)), (a, .inr (8, [.ref a_terms, .ref a_links, .ref a_states, .ref a_pairs, .ref a_joined, .ref a_seen, .ref a_path])), (a_states, .inl (cs 0, a_states_n, .inl a_states_3f)), (a_seen, .inr (1, [.ref a_seen_items_3, .int a_seen_size_3])), (a_seen_items_3, .inl (cs 0, a_seen_items_3n, .inl a_seen_items_3f)), (a_path_items_3, .inl (cs 0, a_path_items_3n, .inl a_path_items_3f)), (a_path, .inr (1, [.ref a_path_items_3, .int a_path_size_3]))] := ⟨hP, hD⟩
        refine lv_if_ne hx hb d_Unifier_standsInNone_145 rfl (fun h6 => ?_) (fun h6 => ?_)
        · rw [if_neg h6] at hok
          refine lv_iconst (v := 0) hx hb d_Unifier_standsInNone_152 (by decide) ?_
          obtain ⟨hq, hw⟩ := Prod.mk.inj (Option.some.inj hok)
          obtain ⟨hmc0, hms0⟩ := Prod.mk.inj hw
          obtain ⟨hq0, hq⟩ := Prod.mk.inj hq
          obtain ⟨hq1, hq⟩ := Prod.mk.inj hq
          obtain ⟨hq2, hq⟩ := Prod.mk.inj hq
          obtain ⟨hq3, hq⟩ := Prod.mk.inj hq
          obtain ⟨hq4, hq⟩ := Prod.mk.inj hq
          obtain ⟨hq5, hq⟩ := Prod.mk.inj hq
          obtain ⟨hq6, hq⟩ := Prod.mk.inj hq
          obtain ⟨hq7, hq⟩ := Prod.mk.inj hq
          have hq8 := hq
          subst hq0
          subst hq1
          subst hq2
          subst hq3
          subst hq4
          subst hq5
          subst hq6
          subst hq7
          subst hq8
          obtain ⟨hP9, hD9⟩ := sub2 (ws' := [(a, .inr (8, [.ref a_terms, .ref a_links, .ref a_states, .ref a_pairs, .ref a_joined, .ref a_seen, .ref a_path])), (a_terms, .inr (7, [.ref a_terms_shapes, .ref a_terms_values, .ref a_terms_firstParts, .int a_terms_nodes, .ref a_terms_parts, .ref a_terms_variableNames, .ref a_terms_became, .int a_terms_variables, .int a_terms_variablesLack, .int a_terms_symbols, .int a_terms_nodesBefore, .int a_terms_partsBefore, .int a_terms_variablesBefore])), (a_terms_shapes, .inl (cs 0, a_terms_shapes_n, .inl a_terms_shapes_f)), (a_terms_firstParts, .inl (cs 0, a_terms_firstParts_n, .inl a_terms_firstParts_f)), (a_terms_parts, .inr (1, [.ref a_terms_parts_items, .int a_terms_parts_size])), (a_terms_parts_items, .inl (cs 0, a_terms_parts_items_n, .inl a_terms_parts_items_f)), (a_terms_became, .inl (cs 0, a_terms_became_n, .inl a_terms_became_f)), (a_links, .inl (cs 0, a_links_n, .inl a_links_3f)), (a_states, .inl (cs 0, a_states_n, .inl a_states_3f)), (a_seen, .inr (1, [.ref a_seen_items_3, .int a_seen_size_3])), (a_seen_items_3, .inl (cs 0, a_seen_items_3n, .inl a_seen_items_3f)), (a_path, .inr (1, [.ref a_path_items_3, .int a_path_size_3])), (a_path_items_3, .inl (cs 0, a_path_items_3n, .inl a_path_items_3f))]) hP hD [7, 4, 0, 1, 2, 3, 5, 6, 8, 9, 10, 12, 11] rfl (by decide) rfl
          refine W.widen (k := mc) (n := ms) (by omega) (by omega) ?_
          rw [hQ]
          exact W.zret (v := 0) hx hb hr rfl (fun t ht hW => ⟨⟨_, (), rfl, rfl, a_seen_items_3, a_path_items_3, by rw [ht]; exact hP9, hD9⟩, hS.F ht⟩) hS.2.2 d_Unifier_standsInNone_153
        · rw [if_pos h6] at hok
          refine lv_iconst (v := 1) hx hb d_Unifier_standsInNone_148 (by decide) ?_
          refine lv_goto hx hb d_Unifier_standsInNone_149 rfl ?_
          obtain ⟨hq, hw⟩ := Prod.mk.inj (Option.some.inj hok)
          obtain ⟨hmc0, hms0⟩ := Prod.mk.inj hw
          obtain ⟨hq0, hq⟩ := Prod.mk.inj hq
          obtain ⟨hq1, hq⟩ := Prod.mk.inj hq
          obtain ⟨hq2, hq⟩ := Prod.mk.inj hq
          obtain ⟨hq3, hq⟩ := Prod.mk.inj hq
          obtain ⟨hq4, hq⟩ := Prod.mk.inj hq
          obtain ⟨hq5, hq⟩ := Prod.mk.inj hq
          obtain ⟨hq6, hq⟩ := Prod.mk.inj hq
          obtain ⟨hq7, hq⟩ := Prod.mk.inj hq
          have hq8 := hq
          subst hq0
          subst hq1
          subst hq2
          subst hq3
          subst hq4
          subst hq5
          subst hq6
          subst hq7
          subst hq8
          obtain ⟨hP9, hD9⟩ := sub2 (ws' := [(a, .inr (8, [.ref a_terms, .ref a_links, .ref a_states, .ref a_pairs, .ref a_joined, .ref a_seen, .ref a_path])), (a_terms, .inr (7, [.ref a_terms_shapes, .ref a_terms_values, .ref a_terms_firstParts, .int a_terms_nodes, .ref a_terms_parts, .ref a_terms_variableNames, .ref a_terms_became, .int a_terms_variables, .int a_terms_variablesLack, .int a_terms_symbols, .int a_terms_nodesBefore, .int a_terms_partsBefore, .int a_terms_variablesBefore])), (a_terms_shapes, .inl (cs 0, a_terms_shapes_n, .inl a_terms_shapes_f)), (a_terms_firstParts, .inl (cs 0, a_terms_firstParts_n, .inl a_terms_firstParts_f)), (a_terms_parts, .inr (1, [.ref a_terms_parts_items, .int a_terms_parts_size])), (a_terms_parts_items, .inl (cs 0, a_terms_parts_items_n, .inl a_terms_parts_items_f)), (a_terms_became, .inl (cs 0, a_terms_became_n, .inl a_terms_became_f)), (a_links, .inl (cs 0, a_links_n, .inl a_links_3f)), (a_states, .inl (cs 0, a_states_n, .inl a_states_3f)), (a_seen, .inr (1, [.ref a_seen_items_3, .int a_seen_size_3])), (a_seen_items_3, .inl (cs 0, a_seen_items_3n, .inl a_seen_items_3f)), (a_path, .inr (1, [.ref a_path_items_3, .int a_path_size_3])), (a_path_items_3, .inl (cs 0, a_path_items_3n, .inl a_path_items_3f))]) hP hD [7, 4, 0, 1, 2, 3, 5, 6, 8, 9, 10, 12, 11] rfl (by decide) rfl
          refine W.widen (k := mc) (n := ms) (by omega) (by omega) ?_
          rw [hQ]
          exact W.zret (v := 1) hx hb hr rfl (fun t ht hW => ⟨⟨_, (), rfl, rfl, a_seen_items_3, a_path_items_3, by rw [ht]; exact hP9, hD9⟩, hS.F ht⟩) hS.2.2 d_Unifier_standsInNone_153
      · rw [if_neg h4] at hok
        refine lv_aload_n hx hb d_Unifier_standsInNone_17 rfl (lv_at hl 1 rfl) ?_
        refine va_get (D := g) (ci := 8) (v := .ref a_path) (C := R_Unifier) (T := F_Unifier) (N := 7) hx hb hg ul_Unifier hown hK hP 7 rfl rfl 6 (by decide) (hg _ wd_326) (fun _ h9 => h9) rfl d_Unifier_standsInNone_18 ?_
        obtain ⟨r7, hc7, hok⟩ := bd_some hok
        obtain ⟨hPc, hDc, hFc⟩ := cut0 (wc := [(a_path, .inr (1, [.ref a_path_items_3, .int a_path_size_3]))]) hP hD hS hA [11] (by decide) rfl
        refine va_calli (va_runV (As := []) (rest := []) ⟨hx, hb, hml, hown, hg⟩ (c_Ints_size l g cs ka a_path_items_3 a_path H.size a_path_size_3 r7 hc7) (cwV (C := R_Ints) 0 hg (gw_V wd_332 wd_249 wd_250 wd_234 wd_247) rfl rfl rfl (by decide +kernel) ⟨Nat.le_of_ble_eq_true rfl, Nat.le_of_ble_eq_true rfl⟩) ⟨gP_blind, va_recv (q0 := 11) (ci := 1) (q := (R_Ints, F_Ints, 2)) hK hP rfl rfl, gP_pre hPc hDc hK hgl hkn hkr hS hFc⟩ rfl rfl hl.1 rfl (lv_room (Nat.le_of_ble_eq_true rfl)) d_Unifier_standsInNone_21 ⟨show cells3 + 0 ≤ mc from by omega, show slots3 + 0 ≤ ms from by omega⟩) hS (fun q _ h => hFc q h) hFc (fun r7' u t H locs ht hvm hr7 hB hz1 hk1 hS => ?_)
        subst hr7
        rw [ht] at hB
        obtain ⟨hP1, hD1⟩ := hB
        obtain ⟨hP, hD⟩ := jn_A hP hD [11] [0, 1, 2, 3, 4, 5, 6, 7, 8, 9, 10, 12] rfl rfl (by decide) (by decide) hk1 hFc hP1 hD1
        obtain ⟨hP, hD⟩ : PD g A H [(a_terms_shapes, .inl (cs 0, a_terms_shapes_n, .inl a_terms_shapes_f)), (a_terms_firstParts, .inl (cs 0, a_terms_firstParts_n, .inl a_terms_firstParts_f)), (a_terms_parts, .inr (1, [.ref a_terms_parts_items, .int a_terms_parts_size])), (a_terms_parts_items, .inl (cs 0, a_terms_parts_items_n, .inl a_terms_parts_items_f)), (a_terms, .inr (7, [.ref a_terms_shapes, .ref a_terms_values, .ref a_terms_firstParts, .int a_terms_nodes, .ref a_terms_parts, .ref a_terms_variableNames, .ref a_terms_became, .int a_terms_variables, .int a_terms_variablesLack, .int a_terms_symbols, .int a_terms_nodesBefore, .int a_terms_partsBefore, .int a_terms_variablesBefore])), (a_terms_became, .inl (cs 0, a_terms_became_n, .inl a_terms_became_f)), (a_links, .inl (cs 0, a_links_n, .inl a_links_3f)), (a, .inr (8, [.ref a_terms, .ref a_links, .ref a_states, .ref a_pairs, .ref a_joined, .ref a_seen, .ref a_path])), (a_states, .inl (cs 0, a_states_n, .inl a_states_3f)), (a_seen, .inr (1, [.ref a_seen_items_3, .int a_seen_size_3])), (a_seen_items_3, .inl (cs 0, a_seen_items_3n, .inl a_seen_items_3f)), (a_path_items_3, .inl (cs 0, a_path_items_3n, .inl a_path_items_3f)), (a_path, .inr (1, [.ref a_path_items_3, .int a_path_size_3]))] := ⟨hP, hD⟩
        refine lv_if_le hx hb d_Unifier_standsInNone_24 rfl (fun h8 => ?_) (fun h8 => ?_)
        · rw [if_pos h8] at hok
          refine lv_aload_n hx hb d_Unifier_standsInNone_138 rfl (lv_at hl 1 rfl) ?_
          refine va_get (D := g) (ci := 8) (v := .ref a_path) (C := R_Unifier) (T := F_Unifier) (N := 7) hx hb hg ul_Unifier hown hK hP 7 rfl rfl 6 (by decide) (hg _ wd_326) (fun _ h9 => h9) rfl d_Unifier_standsInNone_139 ?_
          obtain ⟨r9, hc9, hok⟩ := bd_some hok
          obtain ⟨hPc, hDc, hFc⟩ := cut0 (wc := [(a_path, .inr (1, [.ref a_path_items_3, .int a_path_size_3]))]) hP hD hS hA [12] (by decide) rfl
          refine va_calli (va_runV (As := []) (rest := []) ⟨hx, hb, hml, hown, hg⟩ (c_Ints_size l g cs ka a_path_items_3 a_path H.size a_path_size_3 r9 hc9) (cwV (C := R_Ints) 0 hg (gw_V wd_332 wd_249 wd_250 wd_234 wd_247) rfl rfl rfl (by decide +kernel) ⟨Nat.le_of_ble_eq_true rfl, Nat.le_of_ble_eq_true rfl⟩) ⟨gP_blind, va_recv (q0 := 12) (ci := 1) (q := (R_Ints, F_Ints, 2)) hK hP rfl rfl, gP_pre hPc hDc hK hgl hkn hkr hS hFc⟩ rfl rfl hl.1 rfl (lv_room (Nat.le_of_ble_eq_true rfl)) d_Unifier_standsInNone_142 ⟨show cells3 + 0 + 0 ≤ mc from by omega, show slots3 + 0 + 0 ≤ ms from by omega⟩) hS (fun q _ h => hFc q h) hFc (fun r9' u t H locs ht hvm hr9 hB hz1 hk1 hS => ?_)
          subst hr9
          rw [ht] at hB
          obtain ⟨hP1, hD1⟩ := hB
          obtain ⟨hP, hD⟩ := jn_A hP hD [12] [0, 1, 2, 3, 4, 5, 6, 7, 8, 9, 10, 11] rfl rfl (by decide) (by decide) hk1 hFc hP1 hD1
          obtain ⟨hP, hD⟩ : PD g A H [(a_terms_shapes, .inl (cs 0, a_terms_shapes_n, .inl a_terms_shapes_f)), (a_terms_firstParts, .inl (cs 0, a_terms_firstParts_n, .inl a_terms_firstParts_f)), (a_terms_parts, .inr (1, [.ref a_terms_parts_items, .int a_terms_parts_size])), (a_terms_parts_items, .inl (cs 0, a_terms_parts_items_n, .inl a_terms_parts_items_f)), (a_terms, .inr (7, [.ref a_terms_shapes, .ref a_terms_values, .ref a_terms_firstParts, .int a_terms_nodes, .ref a_terms_parts, .ref a_terms_variableNames, .ref a_terms_became, .int a_terms_variables, .int a_terms_variablesLack, .int a_terms_symbols, .int a_terms_nodesBefore, .int a_terms_partsBefore, .int a_terms_variablesBefore])), (a_terms_became, .inl (cs 0, a_terms_became_n, .inl a_terms_became_f)), (a_links, .inl (cs 0, a_links_n, .inl a_links_3f)), (a, .inr (8, [.ref a_terms, .ref a_links, .ref a_states, .ref a_pairs, .ref a_joined, .ref a_seen, .ref a_path])), (a_states, .inl (cs 0, a_states_n, .inl a_states_3f)), (a_seen, .inr (1, [.ref a_seen_items_3, .int a_seen_size_3])), (a_seen_items_3, .inl (cs 0, a_seen_items_3n, .inl a_seen_items_3f)), (a_path_items_3, .inl (cs 0, a_path_items_3n, .inl a_path_items_3f)), (a_path, .inr (1, [.ref a_path_items_3, .int a_path_size_3]))] := ⟨hP, hD⟩
          refine lv_if_ne hx hb d_Unifier_standsInNone_145 rfl (fun h10 => ?_) (fun h10 => ?_)
          · rw [if_neg h10] at hok
            refine lv_iconst (v := 0) hx hb d_Unifier_standsInNone_152 (by decide) ?_
            obtain ⟨hq, hw⟩ := Prod.mk.inj (Option.some.inj hok)
            obtain ⟨hmc0, hms0⟩ := Prod.mk.inj hw
            obtain ⟨hq0, hq⟩ := Prod.mk.inj hq
            obtain ⟨hq1, hq⟩ := Prod.mk.inj hq
            obtain ⟨hq2, hq⟩ := Prod.mk.inj hq
            obtain ⟨hq3, hq⟩ := Prod.mk.inj hq
            obtain ⟨hq4, hq⟩ := Prod.mk.inj hq
            obtain ⟨hq5, hq⟩ := Prod.mk.inj hq
            obtain ⟨hq6, hq⟩ := Prod.mk.inj hq
            obtain ⟨hq7, hq⟩ := Prod.mk.inj hq
            have hq8 := hq
            subst hq0
            subst hq1
            subst hq2
            subst hq3
            subst hq4
            subst hq5
            subst hq6
            subst hq7
            subst hq8
            obtain ⟨hP9, hD9⟩ := sub2 (ws' := [(a, .inr (8, [.ref a_terms, .ref a_links, .ref a_states, .ref a_pairs, .ref a_joined, .ref a_seen, .ref a_path])), (a_terms, .inr (7, [.ref a_terms_shapes, .ref a_terms_values, .ref a_terms_firstParts, .int a_terms_nodes, .ref a_terms_parts, .ref a_terms_variableNames, .ref a_terms_became, .int a_terms_variables, .int a_terms_variablesLack, .int a_terms_symbols, .int a_terms_nodesBefore, .int a_terms_partsBefore, .int a_terms_variablesBefore])), (a_terms_shapes, .inl (cs 0, a_terms_shapes_n, .inl a_terms_shapes_f)), (a_terms_firstParts, .inl (cs 0, a_terms_firstParts_n, .inl a_terms_firstParts_f)), (a_terms_parts, .inr (1, [.ref a_terms_parts_items, .int a_terms_parts_size])), (a_terms_parts_items, .inl (cs 0, a_terms_parts_items_n, .inl a_terms_parts_items_f)), (a_terms_became, .inl (cs 0, a_terms_became_n, .inl a_terms_became_f)), (a_links, .inl (cs 0, a_links_n, .inl a_links_3f)), (a_states, .inl (cs 0, a_states_n, .inl a_states_3f)), (a_seen, .inr (1, [.ref a_seen_items_3, .int a_seen_size_3])), (a_seen_items_3, .inl (cs 0, a_seen_items_3n, .inl a_seen_items_3f)), (a_path, .inr (1, [.ref a_path_items_3, .int a_path_size_3])), (a_path_items_3, .inl (cs 0, a_path_items_3n, .inl a_path_items_3f))]) hP hD [7, 4, 0, 1, 2, 3, 5, 6, 8, 9, 10, 12, 11] rfl (by decide) rfl
            refine W.widen (k := mc) (n := ms) (by omega) (by omega) ?_
            rw [hQ]
            exact W.zret (v := 0) hx hb hr rfl (fun t ht hW => ⟨⟨_, (), rfl, rfl, a_seen_items_3, a_path_items_3, by rw [ht]; exact hP9, hD9⟩, hS.F ht⟩) hS.2.2 d_Unifier_standsInNone_153
          · rw [if_pos h10] at hok
            refine lv_iconst (v := 1) hx hb d_Unifier_standsInNone_148 (by decide) ?_
            refine lv_goto hx hb d_Unifier_standsInNone_149 rfl ?_
            obtain ⟨hq, hw⟩ := Prod.mk.inj (Option.some.inj hok)
            obtain ⟨hmc0, hms0⟩ := Prod.mk.inj hw
            obtain ⟨hq0, hq⟩ := Prod.mk.inj hq
            obtain ⟨hq1, hq⟩ := Prod.mk.inj hq
            obtain ⟨hq2, hq⟩ := Prod.mk.inj hq
            obtain ⟨hq3, hq⟩ := Prod.mk.inj hq
            obtain ⟨hq4, hq⟩ := Prod.mk.inj hq
            obtain ⟨hq5, hq⟩ := Prod.mk.inj hq
            obtain ⟨hq6, hq⟩ := Prod.mk.inj hq
            obtain ⟨hq7, hq⟩ := Prod.mk.inj hq
            have hq8 := hq
            subst hq0
            subst hq1
            subst hq2
            subst hq3
            subst hq4
            subst hq5
            subst hq6
            subst hq7
            subst hq8
            obtain ⟨hP9, hD9⟩ := sub2 (ws' := [(a, .inr (8, [.ref a_terms, .ref a_links, .ref a_states, .ref a_pairs, .ref a_joined, .ref a_seen, .ref a_path])), (a_terms, .inr (7, [.ref a_terms_shapes, .ref a_terms_values, .ref a_terms_firstParts, .int a_terms_nodes, .ref a_terms_parts, .ref a_terms_variableNames, .ref a_terms_became, .int a_terms_variables, .int a_terms_variablesLack, .int a_terms_symbols, .int a_terms_nodesBefore, .int a_terms_partsBefore, .int a_terms_variablesBefore])), (a_terms_shapes, .inl (cs 0, a_terms_shapes_n, .inl a_terms_shapes_f)), (a_terms_firstParts, .inl (cs 0, a_terms_firstParts_n, .inl a_terms_firstParts_f)), (a_terms_parts, .inr (1, [.ref a_terms_parts_items, .int a_terms_parts_size])), (a_terms_parts_items, .inl (cs 0, a_terms_parts_items_n, .inl a_terms_parts_items_f)), (a_terms_became, .inl (cs 0, a_terms_became_n, .inl a_terms_became_f)), (a_links, .inl (cs 0, a_links_n, .inl a_links_3f)), (a_states, .inl (cs 0, a_states_n, .inl a_states_3f)), (a_seen, .inr (1, [.ref a_seen_items_3, .int a_seen_size_3])), (a_seen_items_3, .inl (cs 0, a_seen_items_3n, .inl a_seen_items_3f)), (a_path, .inr (1, [.ref a_path_items_3, .int a_path_size_3])), (a_path_items_3, .inl (cs 0, a_path_items_3n, .inl a_path_items_3f))]) hP hD [7, 4, 0, 1, 2, 3, 5, 6, 8, 9, 10, 12, 11] rfl (by decide) rfl
            refine W.widen (k := mc) (n := ms) (by omega) (by omega) ?_
            rw [hQ]
            exact W.zret (v := 1) hx hb hr rfl (fun t ht hW => ⟨⟨_, (), rfl, rfl, a_seen_items_3, a_path_items_3, by rw [ht]; exact hP9, hD9⟩, hS.F ht⟩) hS.2.2 d_Unifier_standsInNone_153
        · rw [if_neg h8] at hok
          refine lv_aload_n hx hb d_Unifier_standsInNone_27 rfl (lv_at hl 1 rfl) ?_
          refine va_get (D := g) (ci := 8) (v := .ref a_path) (C := R_Unifier) (T := F_Unifier) (N := 7) hx hb hg ul_Unifier hown hK hP 7 rfl rfl 6 (by decide) (hg _ wd_326) (fun _ h9 => h9) rfl d_Unifier_standsInNone_28 ?_
          obtain ⟨⟨r11, a_size_11⟩, hc11, hok⟩ := bd_some hok
          dsimp only at hok
          obtain ⟨hPc, hDc, hFc⟩ := cut0 (wc := [(a_path, .inr (1, [.ref a_path_items_3, .int a_path_size_3])), (a_path_items_3, .inl (cs 0, a_path_items_3n, .inl a_path_items_3f))]) hP hD hS hA [12, 11] (by decide) rfl
          refine va_calli (va_runV (As := []) (rest := []) ⟨hx, hb, hml, hown, hg⟩ (c_Ints_pop l g cs ka a_path a_path_items_3 H.size a_path_size_3 a_path_items_3n a_path_items_3f r11 a_size_11 hc11) (cwV (C := R_Ints) 0 hg (gw_V wd_362 wd_279 wd_280 wd_234 wd_277) rfl rfl rfl (by decide +kernel) ⟨Nat.le_of_ble_eq_true rfl, Nat.le_of_ble_eq_true rfl⟩) ⟨gP_blind, va_recv (q0 := 12) (ci := 1) (q := (R_Ints, F_Ints, 2)) hK hP rfl rfl, gP_pre hPc hDc hK hgl hkn hkr hS hFc⟩ rfl rfl hl.1 rfl (lv_room (Nat.le_of_ble_eq_true rfl)) d_Unifier_standsInNone_31 ⟨show cells3 + 0 + 0 ≤ mc from by omega, show slots3 + 0 + 0 ≤ ms from by omega⟩) hS (fun q _ h => hFc q h) hFc (fun r11' u t H locs ht hvm hr11 hB hz1 hk1 hS => ?_)
          subst hr11
          rw [ht] at hB
          obtain ⟨hP1, hD1⟩ := hB
          obtain ⟨hP, hD⟩ := jn_A hP hD [12, 11] [0, 1, 2, 3, 4, 5, 6, 7, 8, 9, 10] rfl rfl (by decide) (by decide) hk1 hFc hP1 hD1
          obtain ⟨hP, hD⟩ : PD g A H [(a_terms_shapes, .inl (cs 0, a_terms_shapes_n, .inl a_terms_shapes_f)), (a_terms_firstParts, .inl (cs 0, a_terms_firstParts_n, .inl a_terms_firstParts_f)), (a_terms_parts, .inr (1, [.ref a_terms_parts_items, .int a_terms_parts_size])), (a_terms_parts_items, .inl (cs 0, a_terms_parts_items_n, .inl a_terms_parts_items_f)), (a_terms, .inr (7, [.ref a_terms_shapes, .ref a_terms_values, .ref a_terms_firstParts, .int a_terms_nodes, .ref a_terms_parts, .ref a_terms_variableNames, .ref a_terms_became, .int a_terms_variables, .int a_terms_variablesLack, .int a_terms_symbols, .int a_terms_nodesBefore, .int a_terms_partsBefore, .int a_terms_variablesBefore])), (a_terms_became, .inl (cs 0, a_terms_became_n, .inl a_terms_became_f)), (a_links, .inl (cs 0, a_links_n, .inl a_links_3f)), (a, .inr (8, [.ref a_terms, .ref a_links, .ref a_states, .ref a_pairs, .ref a_joined, .ref a_seen, .ref a_path])), (a_states, .inl (cs 0, a_states_n, .inl a_states_3f)), (a_seen, .inr (1, [.ref a_seen_items_3, .int a_seen_size_3])), (a_seen_items_3, .inl (cs 0, a_seen_items_3n, .inl a_seen_items_3f)), (a_path, .inr (1, [.ref a_path_items_3, .int a_size_11])), (a_path_items_3, .inl (cs 0, a_path_items_3n, .inl a_path_items_3f))] := ⟨hP, hD⟩
          refine lv_istore_n hx hb d_Unifier_standsInNone_34 rfl hl (by decide) rfl (fun ls hl => ?_)
          have hl : lv_has ls 6 [(3, .int r11), (2, .int x2_3), (0, .ref a), (1, .int node)] := hl
          refine lv_aload_n hx hb d_Unifier_standsInNone_35 rfl (lv_at hl 2 rfl) ?_
          refine va_get (D := g) (ci := 8) (v := .ref a_path) (C := R_Unifier) (T := F_Unifier) (N := 7) hx hb hg ul_Unifier hown hK hP 7 rfl rfl 6 (by decide) (hg _ wd_326) (fun _ h9 => h9) rfl d_Unifier_standsInNone_36 ?_
          obtain ⟨⟨r12, a_size_12⟩, hc12, hok⟩ := bd_some hok
          dsimp only at hok
          obtain ⟨hPc, hDc, hFc⟩ := cut0 (wc := [(a_path, .inr (1, [.ref a_path_items_3, .int a_size_11])), (a_path_items_3, .inl (cs 0, a_path_items_3n, .inl a_path_items_3f))]) hP hD hS hA [11, 12] (by decide) rfl
          refine va_calli (va_runV (As := []) (rest := []) ⟨hx, hb, hml, hown, hg⟩ (c_Ints_pop l g cs ka a_path a_path_items_3 H.size a_size_11 a_path_items_3n a_path_items_3f r12 a_size_12 hc12) (cwV (C := R_Ints) 0 hg (gw_V wd_362 wd_279 wd_280 wd_234 wd_277) rfl rfl rfl (by decide +kernel) ⟨Nat.le_of_ble_eq_true rfl, Nat.le_of_ble_eq_true rfl⟩) ⟨gP_blind, va_recv (q0 := 11) (ci := 1) (q := (R_Ints, F_Ints, 2)) hK hP rfl rfl, gP_pre hPc hDc hK hgl hkn hkr hS hFc⟩ rfl rfl hl.1 rfl (lv_room (Nat.le_of_ble_eq_true rfl)) d_Unifier_standsInNone_39 ⟨show cells3 + 0 + 0 + 0 ≤ mc from by omega, show slots3 + 0 + 0 + 0 ≤ ms from by omega⟩) hS (fun q _ h => hFc q h) hFc (fun r12' u t H locs ht hvm hr12 hB hz1 hk1 hS => ?_)
          subst hr12
          rw [ht] at hB
          obtain ⟨hP1, hD1⟩ := hB
          obtain ⟨hP, hD⟩ := jn_A hP hD [11, 12] [0, 1, 2, 3, 4, 5, 6, 7, 8, 9, 10] rfl rfl (by decide) (by decide) hk1 hFc hP1 hD1
          obtain ⟨hP, hD⟩ : PD g A H [(a_terms_shapes, .inl (cs 0, a_terms_shapes_n, .inl a_terms_shapes_f)), (a_terms_firstParts, .inl (cs 0, a_terms_firstParts_n, .inl a_terms_firstParts_f)), (a_terms_parts, .inr (1, [.ref a_terms_parts_items, .int a_terms_parts_size])), (a_terms_parts_items, .inl (cs 0, a_terms_parts_items_n, .inl a_terms_parts_items_f)), (a_terms, .inr (7, [.ref a_terms_shapes, .ref a_terms_values, .ref a_terms_firstParts, .int a_terms_nodes, .ref a_terms_parts, .ref a_terms_variableNames, .ref a_terms_became, .int a_terms_variables, .int a_terms_variablesLack, .int a_terms_symbols, .int a_terms_nodesBefore, .int a_terms_partsBefore, .int a_terms_variablesBefore])), (a_terms_became, .inl (cs 0, a_terms_became_n, .inl a_terms_became_f)), (a_links, .inl (cs 0, a_links_n, .inl a_links_3f)), (a, .inr (8, [.ref a_terms, .ref a_links, .ref a_states, .ref a_pairs, .ref a_joined, .ref a_seen, .ref a_path])), (a_states, .inl (cs 0, a_states_n, .inl a_states_3f)), (a_seen, .inr (1, [.ref a_seen_items_3, .int a_seen_size_3])), (a_seen_items_3, .inl (cs 0, a_seen_items_3n, .inl a_seen_items_3f)), (a_path, .inr (1, [.ref a_path_items_3, .int a_size_12])), (a_path_items_3, .inl (cs 0, a_path_items_3n, .inl a_path_items_3f))] := ⟨hP, hD⟩
          refine lv_istore hx hb d_Unifier_standsInNone_42 hl (by decide) rfl (fun ls hl => ?_)
          have hl : lv_has ls 6 [(4, .int r12), (3, .int r11), (2, .int x2_3), (0, .ref a), (1, .int node)] := hl
          refine lv_iload_n hx hb d_Unifier_standsInNone_44 rfl (lv_at hl 1 rfl) ?_
          refine lv_aload_n hx hb d_Unifier_standsInNone_45 rfl (lv_at hl 3 rfl) ?_
          refine va_get (D := g) (ci := 8) (v := .ref a_terms) (C := R_Unifier) (T := F_Unifier) (N := 7) hx hb hg ul_Unifier hown hK hP 7 rfl rfl 0 (by decide) (hg _ wd_327) (fun _ h9 => h9) rfl d_Unifier_standsInNone_46 ?_
          refine lv_iload hx hb d_Unifier_standsInNone_49 (lv_at hl 0 rfl) ?_
          obtain ⟨r13, hc13, hok⟩ := bd_some hok
          obtain ⟨hPc, hDc, hFc⟩ := cut0 (wc := [(a_terms, .inr (7, [.ref a_terms_shapes, .ref a_terms_values, .ref a_terms_firstParts, .int a_terms_nodes, .ref a_terms_parts, .ref a_terms_variableNames, .ref a_terms_became, .int a_terms_variables, .int a_terms_variablesLack, .int a_terms_symbols, .int a_terms_nodesBefore, .int a_terms_partsBefore, .int a_terms_variablesBefore])), (a_terms_shapes, .inl (cs 0, a_terms_shapes_n, .inl a_terms_shapes_f))]) hP hD hS hA [4, 0] (by decide) rfl
          refine va_calli (va_runV (As := [.int r12]) (rest := [.int r11]) ⟨hx, hb, hml, hown, hg⟩ (c_Terms_partsOf l g cs ka a_terms_values a_terms_firstParts a_terms_parts a_terms_variableNames a_terms_became a_terms a_terms_shapes H.size r12 a_terms_nodes a_terms_variables a_terms_variablesLack a_terms_symbols a_terms_nodesBefore a_terms_partsBefore a_terms_variablesBefore a_terms_shapes_n a_terms_shapes_f r13 hc13) (cwV (C := R_Terms) 1 hg (gw_V wd_355 wd_356 wd_357 wd_264 wd_354) rfl rfl rfl (by decide +kernel) ⟨Nat.le_of_ble_eq_true rfl, Nat.le_of_ble_eq_true rfl⟩) ⟨gP_blind, va_recv (q0 := 4) (ci := 7) (q := (R_Terms, F_Terms, 13)) hK hP rfl rfl, gP_pre hPc hDc hK hgl hkn hkr hS hFc⟩ rfl rfl hl.1 rfl (lv_room (Nat.le_of_ble_eq_true rfl)) d_Unifier_standsInNone_51 ⟨show cells3 + 0 + 0 + 0 + 0 ≤ mc from by omega, show slots3 + 0 + 0 + 0 + 0 ≤ ms from by omega⟩) hS (fun q _ h => hFc q h) hFc (fun r13' u t H locs ht hvm hr13 hB hz1 hk1 hS => ?_)
          subst hr13
          rw [ht] at hB
          obtain ⟨hP1, hD1⟩ := hB
          obtain ⟨hP, hD⟩ := jn_A hP hD [4, 0] [1, 2, 3, 5, 6, 7, 8, 9, 10, 11, 12] rfl rfl (by decide) (by decide) hk1 hFc hP1 hD1
          obtain ⟨hP, hD⟩ : PD g A H [(a_terms_firstParts, .inl (cs 0, a_terms_firstParts_n, .inl a_terms_firstParts_f)), (a_terms_parts, .inr (1, [.ref a_terms_parts_items, .int a_terms_parts_size])), (a_terms_parts_items, .inl (cs 0, a_terms_parts_items_n, .inl a_terms_parts_items_f)), (a_terms_became, .inl (cs 0, a_terms_became_n, .inl a_terms_became_f)), (a_links, .inl (cs 0, a_links_n, .inl a_links_3f)), (a, .inr (8, [.ref a_terms, .ref a_links, .ref a_states, .ref a_pairs, .ref a_joined, .ref a_seen, .ref a_path])), (a_states, .inl (cs 0, a_states_n, .inl a_states_3f)), (a_seen, .inr (1, [.ref a_seen_items_3, .int a_seen_size_3])), (a_seen_items_3, .inl (cs 0, a_seen_items_3n, .inl a_seen_items_3f)), (a_path, .inr (1, [.ref a_path_items_3, .int a_size_12])), (a_path_items_3, .inl (cs 0, a_path_items_3n, .inl a_path_items_3f)), (a_terms, .inr (7, [.ref a_terms_shapes, .ref a_terms_values, .ref a_terms_firstParts, .int a_terms_nodes, .ref a_terms_parts, .ref a_terms_variableNames, .ref a_terms_became, .int a_terms_variables, .int a_terms_variablesLack, .int a_terms_symbols, .int a_terms_nodesBefore, .int a_terms_partsBefore, .int a_terms_variablesBefore])), (a_terms_shapes, .inl (cs 0, a_terms_shapes_n, .inl a_terms_shapes_f))] := ⟨hP, hD⟩
          refine lv_icmp_ne hx hb d_Unifier_standsInNone_54 rfl (fun h14 => ?_) (fun h14 => ?_)
          · rw [if_neg h14] at hok
            refine lv_aload_n hx hb d_Unifier_standsInNone_68 rfl (lv_at hl 3 rfl) ?_
            refine va_get (D := g) (ci := 8) (v := .ref a_path) (C := R_Unifier) (T := F_Unifier) (N := 7) hx hb hg ul_Unifier hown hK hP 5 rfl rfl 6 (by decide) (hg _ wd_326) (fun _ h9 => h9) rfl d_Unifier_standsInNone_69 ?_
            refine lv_iload hx hb d_Unifier_standsInNone_72 (lv_at hl 0 rfl) ?_
            obtain ⟨⟨⟨a_size_15, a_items_n_15, a_items_f_15⟩, mk15, sk15⟩, hc15, hok⟩ := bd_some hok
            dsimp only at hok
            obtain ⟨m15, s15, hok, hmc15, hms15⟩ := al_some hok
            obtain ⟨hPc, hDc, hFc⟩ := cut0 (wc := [(a_path, .inr (1, [.ref a_path_items_3, .int a_size_12])), (a_path_items_3, .inl (cs 0, a_path_items_3n, .inl a_path_items_3f))]) hP hD hS hA [9, 10] (by decide) rfl
            refine va_callv (va_runV (As := [.int r12]) (rest := []) ⟨hx, hb, hml, hown, hg⟩ (c_Ints_push l g cs ka a_path a_path_items_3 H.size r12 a_size_12 a_path_items_3n a_path_items_3f a_size_15 a_items_n_15 a_items_f_15 mk15 sk15 hc15) (cwV (C := R_Ints) 1 hg (gw_V wd_335 wd_274 wd_275 wd_234 wd_272) rfl rfl rfl (by decide +kernel) ⟨Nat.le_of_ble_eq_true rfl, Nat.le_of_ble_eq_true rfl⟩) ⟨gP_blind, va_recv (q0 := 9) (ci := 1) (q := (R_Ints, F_Ints, 2)) hK hP rfl rfl, gP_pre hPc hDc hK hgl hkn hkr hS hFc⟩ rfl rfl hl.1 rfl (lv_room (Nat.le_of_ble_eq_true rfl)) d_Unifier_standsInNone_74 ⟨show cells3 + 0 + 0 + 0 + 0 + mk15 ≤ mc from by omega, show slots3 + 0 + 0 + 0 + 0 + sk15 ≤ ms from by omega⟩) hS (fun q _ h => hFc q h) hFc (fun u t H locs ht hvm hr15 hB hz1 hk1 hS => ?_)
            rw [ht] at hB
            obtain ⟨a_items_15, hP1, hD1⟩ := hB
            obtain ⟨hP, hD⟩ := jn_A hP hD [9, 10] [0, 1, 2, 3, 4, 5, 6, 7, 8, 11, 12] rfl rfl (by decide) (by decide) hk1 hFc hP1 hD1
            obtain ⟨hP, hD⟩ : PD g A H [(a_terms_firstParts, .inl (cs 0, a_terms_firstParts_n, .inl a_terms_firstParts_f)), (a_terms_parts, .inr (1, [.ref a_terms_parts_items, .int a_terms_parts_size])), (a_terms_parts_items, .inl (cs 0, a_terms_parts_items_n, .inl a_terms_parts_items_f)), (a_terms_became, .inl (cs 0, a_terms_became_n, .inl a_terms_became_f)), (a_links, .inl (cs 0, a_links_n, .inl a_links_3f)), (a, .inr (8, [.ref a_terms, .ref a_links, .ref a_states, .ref a_pairs, .ref a_joined, .ref a_seen, .ref a_path])), (a_states, .inl (cs 0, a_states_n, .inl a_states_3f)), (a_seen, .inr (1, [.ref a_seen_items_3, .int a_seen_size_3])), (a_seen_items_3, .inl (cs 0, a_seen_items_3n, .inl a_seen_items_3f)), (a_terms, .inr (7, [.ref a_terms_shapes, .ref a_terms_values, .ref a_terms_firstParts, .int a_terms_nodes, .ref a_terms_parts, .ref a_terms_variableNames, .ref a_terms_became, .int a_terms_variables, .int a_terms_variablesLack, .int a_terms_symbols, .int a_terms_nodesBefore, .int a_terms_partsBefore, .int a_terms_variablesBefore])), (a_terms_shapes, .inl (cs 0, a_terms_shapes_n, .inl a_terms_shapes_f)), (a_path, .inr (1, [.ref a_items_15, .int a_size_15])), (a_items_15, .inl (cs 0, a_items_n_15, .inl a_items_f_15))] := ⟨hP, hD⟩
            refine lv_aload_n hx hb d_Unifier_standsInNone_77 rfl (lv_at hl 3 rfl) ?_
            refine va_get (D := g) (ci := 8) (v := .ref a_path) (C := R_Unifier) (T := F_Unifier) (N := 7) hx hb hg ul_Unifier hown hK hP 5 rfl rfl 6 (by decide) (hg _ wd_326) (fun _ h9 => h9) rfl d_Unifier_standsInNone_78 ?_
            refine lv_iload_n hx hb d_Unifier_standsInNone_81 rfl (lv_at hl 1 rfl) ?_
            refine lv_iconst (v := 1) hx hb d_Unifier_standsInNone_82 (by decide) ?_
            refine lv_iadd hx hb d_Unifier_standsInNone_83 ?_
            obtain ⟨⟨⟨a_size_16, a_items_n_16, a_items_f_16⟩, mk16, sk16⟩, hc16, hok⟩ := bd_some hok
            dsimp only at hok
            obtain ⟨m16, s16, hok, hmc16, hms16⟩ := al_some hok
            obtain ⟨hPc, hDc, hFc⟩ := cut0 (wc := [(a_path, .inr (1, [.ref a_items_15, .int a_size_15])), (a_items_15, .inl (cs 0, a_items_n_15, .inl a_items_f_15))]) hP hD hS hA [11, 12] (by decide) rfl
            refine va_callv (va_runV (As := [.int (r11 + 1)]) (rest := []) ⟨hx, hb, hml, hown, hg⟩ (c_Ints_push l g cs ka a_path a_items_15 H.size (r11 + 1) a_size_15 a_items_n_15 a_items_f_15 a_size_16 a_items_n_16 a_items_f_16 mk16 sk16 hc16) (cwV (C := R_Ints) 1 hg (gw_V wd_335 wd_274 wd_275 wd_234 wd_272) rfl rfl rfl (by decide +kernel) ⟨Nat.le_of_ble_eq_true rfl, Nat.le_of_ble_eq_true rfl⟩) ⟨gP_blind, va_recv (q0 := 11) (ci := 1) (q := (R_Ints, F_Ints, 2)) hK hP rfl rfl, gP_pre hPc hDc hK hgl hkn hkr hS hFc⟩ rfl rfl hl.1 rfl (lv_room (Nat.le_of_ble_eq_true rfl)) d_Unifier_standsInNone_84 ⟨show cells3 + 0 + 0 + 0 + 0 + mk15 + mk16 ≤ mc from by omega, show slots3 + 0 + 0 + 0 + 0 + sk15 + sk16 ≤ ms from by omega⟩) hS (fun q _ h => hFc q h) hFc (fun u t H locs ht hvm hr16 hB hz1 hk1 hS => ?_)
            rw [ht] at hB
            obtain ⟨a_items_16, hP1, hD1⟩ := hB
            obtain ⟨hP, hD⟩ := jn_A hP hD [11, 12] [0, 1, 2, 3, 4, 5, 6, 7, 8, 9, 10] rfl rfl (by decide) (by decide) hk1 hFc hP1 hD1
            obtain ⟨hP, hD⟩ : PD g A H [(a_terms_firstParts, .inl (cs 0, a_terms_firstParts_n, .inl a_terms_firstParts_f)), (a_terms_parts, .inr (1, [.ref a_terms_parts_items, .int a_terms_parts_size])), (a_terms_parts_items, .inl (cs 0, a_terms_parts_items_n, .inl a_terms_parts_items_f)), (a_terms_became, .inl (cs 0, a_terms_became_n, .inl a_terms_became_f)), (a_links, .inl (cs 0, a_links_n, .inl a_links_3f)), (a, .inr (8, [.ref a_terms, .ref a_links, .ref a_states, .ref a_pairs, .ref a_joined, .ref a_seen, .ref a_path])), (a_states, .inl (cs 0, a_states_n, .inl a_states_3f)), (a_seen, .inr (1, [.ref a_seen_items_3, .int a_seen_size_3])), (a_seen_items_3, .inl (cs 0, a_seen_items_3n, .inl a_seen_items_3f)), (a_terms, .inr (7, [.ref a_terms_shapes, .ref a_terms_values, .ref a_terms_firstParts, .int a_terms_nodes, .ref a_terms_parts, .ref a_terms_variableNames, .ref a_terms_became, .int a_terms_variables, .int a_terms_variablesLack, .int a_terms_symbols, .int a_terms_nodesBefore, .int a_terms_partsBefore, .int a_terms_variablesBefore])), (a_terms_shapes, .inl (cs 0, a_terms_shapes_n, .inl a_terms_shapes_f)), (a_path, .inr (1, [.ref a_items_16, .int a_size_16])), (a_items_16, .inl (cs 0, a_items_n_16, .inl a_items_f_16))] := ⟨hP, hD⟩
            refine lv_aload_n hx hb d_Unifier_standsInNone_87 rfl (lv_at hl 3 rfl) ?_
            refine lv_aload_n hx hb d_Unifier_standsInNone_88 rfl (lv_at hl 3 rfl) ?_
            refine va_get (D := g) (ci := 8) (v := .ref a_terms) (C := R_Unifier) (T := F_Unifier) (N := 7) hx hb hg ul_Unifier hown hK hP 5 rfl rfl 0 (by decide) (hg _ wd_327) (fun _ h9 => h9) rfl d_Unifier_standsInNone_89 ?_
            refine lv_iload hx hb d_Unifier_standsInNone_92 (lv_at hl 0 rfl) ?_
            refine lv_iload_n hx hb d_Unifier_standsInNone_94 rfl (lv_at hl 1 rfl) ?_
            obtain ⟨r17, hc17, hok⟩ := bd_some hok
            obtain ⟨hPc, hDc, hFc⟩ := cut0 (wc := [(a_terms, .inr (7, [.ref a_terms_shapes, .ref a_terms_values, .ref a_terms_firstParts, .int a_terms_nodes, .ref a_terms_parts, .ref a_terms_variableNames, .ref a_terms_became, .int a_terms_variables, .int a_terms_variablesLack, .int a_terms_symbols, .int a_terms_nodesBefore, .int a_terms_partsBefore, .int a_terms_variablesBefore])), (a_terms_firstParts, .inl (cs 0, a_terms_firstParts_n, .inl a_terms_firstParts_f)), (a_terms_parts, .inr (1, [.ref a_terms_parts_items, .int a_terms_parts_size])), (a_terms_parts_items, .inl (cs 0, a_terms_parts_items_n, .inl a_terms_parts_items_f))]) hP hD hS hA [9, 0, 1, 2] (by decide) rfl
            refine va_calli (va_runV (As := [.int r12, .int r11]) (rest := [.ref a]) ⟨hx, hb, hml, hown, hg⟩ (c_Terms_partAt l g cs ka a_terms_shapes a_terms_values a_terms_variableNames a_terms_became a_terms a_terms_firstParts a_terms_parts a_terms_parts_items H.size r12 r11 a_terms_nodes a_terms_variables a_terms_variablesLack a_terms_symbols a_terms_nodesBefore a_terms_partsBefore a_terms_variablesBefore a_terms_firstParts_n a_terms_firstParts_f a_terms_parts_size a_terms_parts_items_n a_terms_parts_items_f r17 hc17) (cwV (C := R_Terms) 2 hg (gw_V wd_359 wd_360 wd_361 wd_264 wd_358) rfl rfl rfl (by decide +kernel) ⟨Nat.le_of_ble_eq_true rfl, Nat.le_of_ble_eq_true rfl⟩) ⟨gP_blind, va_recv (q0 := 9) (ci := 7) (q := (R_Terms, F_Terms, 13)) hK hP rfl rfl, gP_pre hPc hDc hK hgl hkn hkr hS hFc⟩ rfl rfl hl.1 rfl (lv_room (Nat.le_of_ble_eq_true rfl)) d_Unifier_standsInNone_95 ⟨show cells3 + 0 + 0 + 0 + 0 + mk15 + mk16 + 0 ≤ mc from by omega, show slots3 + 0 + 0 + 0 + 0 + sk15 + sk16 + 0 ≤ ms from by omega⟩) hS (fun q _ h => hFc q h) hFc (fun r17' u t H locs ht hvm hr17 hB hz1 hk1 hS => ?_)
            subst hr17
            rw [ht] at hB
            obtain ⟨hP1, hD1⟩ := hB
            obtain ⟨hP, hD⟩ := jn_A hP hD [9, 0, 1, 2] [3, 4, 5, 6, 7, 8, 10, 11, 12] rfl rfl (by decide) (by decide) hk1 hFc hP1 hD1
            obtain ⟨hP, hD⟩ : PD g A H [(a_terms_became, .inl (cs 0, a_terms_became_n, .inl a_terms_became_f)), (a_links, .inl (cs 0, a_links_n, .inl a_links_3f)), (a, .inr (8, [.ref a_terms, .ref a_links, .ref a_states, .ref a_pairs, .ref a_joined, .ref a_seen, .ref a_path])), (a_states, .inl (cs 0, a_states_n, .inl a_states_3f)), (a_seen, .inr (1, [.ref a_seen_items_3, .int a_seen_size_3])), (a_seen_items_3, .inl (cs 0, a_seen_items_3n, .inl a_seen_items_3f)), (a_terms_shapes, .inl (cs 0, a_terms_shapes_n, .inl a_terms_shapes_f)), (a_path, .inr (1, [.ref a_items_16, .int a_size_16])), (a_items_16, .inl (cs 0, a_items_n_16, .inl a_items_f_16)), (a_terms, .inr (7, [.ref a_terms_shapes, .ref a_terms_values, .ref a_terms_firstParts, .int a_terms_nodes, .ref a_terms_parts, .ref a_terms_variableNames, .ref a_terms_became, .int a_terms_variables, .int a_terms_variablesLack, .int a_terms_symbols, .int a_terms_nodesBefore, .int a_terms_partsBefore, .int a_terms_variablesBefore])), (a_terms_firstParts, .inl (cs 0, a_terms_firstParts_n, .inl a_terms_firstParts_f)), (a_terms_parts, .inr (1, [.ref a_terms_parts_items, .int a_terms_parts_size])), (a_terms_parts_items, .inl (cs 0, a_terms_parts_items_n, .inl a_terms_parts_items_f))] := ⟨hP, hD⟩
            obtain ⟨⟨r18, a_links_f_18⟩, hc18, hok⟩ := bd_some hok
            dsimp only at hok
            obtain ⟨hPc, hDc, hFc⟩ := cut0 (wc := [(a, .inr (8, [.ref a_terms, .ref a_links, .ref a_states, .ref a_pairs, .ref a_joined, .ref a_seen, .ref a_path])), (a_terms, .inr (7, [.ref a_terms_shapes, .ref a_terms_values, .ref a_terms_firstParts, .int a_terms_nodes, .ref a_terms_parts, .ref a_terms_variableNames, .ref a_terms_became, .int a_terms_variables, .int a_terms_variablesLack, .int a_terms_symbols, .int a_terms_nodesBefore, .int a_terms_partsBefore, .int a_terms_variablesBefore])), (a_terms_became, .inl (cs 0, a_terms_became_n, .inl a_terms_became_f)), (a_links, .inl (cs 0, a_links_n, .inl a_links_3f))]) hP hD hS hA [2, 9, 0, 1] (by decide) rfl
            refine va_calli (va_runV (As := [.int r17]) (rest := []) ⟨hx, hb, hml, hown, hg⟩ (c_Unifier_rootOf l g cs ka a_states a_pairs a_joined a_seen a_path a_terms_shapes a_terms_values a_terms_firstParts a_terms_parts a_terms_variableNames a a_terms a_terms_became a_links H.size n r17 a_terms_nodes a_terms_variables a_terms_variablesLack a_terms_symbols a_terms_nodesBefore a_terms_partsBefore a_terms_variablesBefore a_terms_became_n a_terms_became_f a_links_n a_links_3f r18 a_links_f_18 hc18) (cwV (C := R_Unifier) 1 hg (gw_V wd_364 wd_365 wd_366 wd_350 wd_363) rfl rfl rfl (by decide +kernel) ⟨Nat.le_of_ble_eq_true rfl, Nat.le_of_ble_eq_true rfl⟩) ⟨gP_blind, va_recv (q0 := 2) (ci := 8) (q := (R_Unifier, F_Unifier, 7)) hK hP rfl rfl, gP_pre hPc hDc hK hgl hkn hkr hS hFc⟩ rfl rfl hl.1 rfl (lv_room (Nat.le_of_ble_eq_true rfl)) d_Unifier_standsInNone_98 ⟨show cells3 + 0 + 0 + 0 + 0 + mk15 + mk16 + 0 + 0 ≤ mc from by omega, show slots3 + 0 + 0 + 0 + 0 + sk15 + sk16 + 0 + 0 ≤ ms from by omega⟩) hS (fun q _ h => hFc q h) hFc (fun r18' u t H locs ht hvm hr18 hB hz1 hk1 hS => ?_)
            subst hr18
            rw [ht] at hB
            obtain ⟨hP1, hD1⟩ := hB
            obtain ⟨hP, hD⟩ := jn_A hP hD [2, 9, 0, 1] [3, 4, 5, 6, 7, 8, 10, 11, 12] rfl rfl (by decide) (by decide) hk1 hFc hP1 hD1
            obtain ⟨hP, hD⟩ : PD g A H [(a_states, .inl (cs 0, a_states_n, .inl a_states_3f)), (a_seen, .inr (1, [.ref a_seen_items_3, .int a_seen_size_3])), (a_seen_items_3, .inl (cs 0, a_seen_items_3n, .inl a_seen_items_3f)), (a_terms_shapes, .inl (cs 0, a_terms_shapes_n, .inl a_terms_shapes_f)), (a_path, .inr (1, [.ref a_items_16, .int a_size_16])), (a_items_16, .inl (cs 0, a_items_n_16, .inl a_items_f_16)), (a_terms_firstParts, .inl (cs 0, a_terms_firstParts_n, .inl a_terms_firstParts_f)), (a_terms_parts, .inr (1, [.ref a_terms_parts_items, .int a_terms_parts_size])), (a_terms_parts_items, .inl (cs 0, a_terms_parts_items_n, .inl a_terms_parts_items_f)), (a, .inr (8, [.ref a_terms, .ref a_links, .ref a_states, .ref a_pairs, .ref a_joined, .ref a_seen, .ref a_path])), (a_terms, .inr (7, [.ref a_terms_shapes, .ref a_terms_values, .ref a_terms_firstParts, .int a_terms_nodes, .ref a_terms_parts, .ref a_terms_variableNames, .ref a_terms_became, .int a_terms_variables, .int a_terms_variablesLack, .int a_terms_symbols, .int a_terms_nodesBefore, .int a_terms_partsBefore, .int a_terms_variablesBefore])), (a_terms_became, .inl (cs 0, a_terms_became_n, .inl a_terms_became_f)), (a_links, .inl (cs 0, a_links_n, .inl a_links_f_18))] := ⟨hP, hD⟩
            refine lv_istore hx hb d_Unifier_standsInNone_101 hl (by decide) rfl (fun ls hl => ?_)
            have hl : lv_has ls 6 [(5, .int r18), (4, .int r12), (3, .int r11), (2, .int x2_3), (0, .ref a), (1, .int node)] := hl
            refine lv_aload_n hx hb d_Unifier_standsInNone_103 rfl (lv_at hl 4 rfl) ?_
            refine va_get (D := g) (ci := 8) (v := .ref a_states) (C := R_Unifier) (T := F_Unifier) (N := 7) hx hb hg ul_Unifier hown hK hP 9 rfl rfl 2 (by decide) (hg _ wd_320) (fun _ h9 => h9) rfl d_Unifier_standsInNone_104 ?_
            refine lv_iload hx hb d_Unifier_standsInNone_107 (lv_at hl 0 rfl) ?_
            obtain ⟨hi19, hok⟩ := ck_some hok
            refine va_iald hx hb hK hP 0 0 rfl rfl (ixb_in hi19) d_Unifier_standsInNone_109 ?_
            refine lv_iconst (v := 1) hx hb d_Unifier_standsInNone_110 (by decide) ?_
            refine lv_icmp_ne hx hb d_Unifier_standsInNone_111 rfl (fun h20 => ?_) (fun h20 => ?_)
            · rw [if_neg h20] at hok
              refine lv_aload_n hx hb d_Unifier_standsInNone_116 rfl (lv_at hl 4 rfl) ?_
              refine va_get (D := g) (ci := 8) (v := .ref a_states) (C := R_Unifier) (T := F_Unifier) (N := 7) hx hb hg ul_Unifier hown hK hP 9 rfl rfl 2 (by decide) (hg _ wd_320) (fun _ h9 => h9) rfl d_Unifier_standsInNone_117 ?_
              refine lv_iload hx hb d_Unifier_standsInNone_120 (lv_at hl 0 rfl) ?_
              obtain ⟨hi21, hok⟩ := ck_some hok
              refine va_iald hx hb hK hP 0 0 rfl rfl (ixb_in hi21) d_Unifier_standsInNone_122 ?_
              refine lv_if_ne hx hb d_Unifier_standsInNone_123 rfl (fun h22 => ?_) (fun h22 => ?_)
              · rw [if_neg h22] at hok
                refine lv_iinc (k := 3) (v := x2_3 + 1) hx hb d_Unifier_standsInNone_132 hl rfl rfl (by decide) rfl (fun ls hl => ?_)
                have hl : lv_has ls 6 [(2, .int (x2_3 + 1)), (5, .int r18), (4, .int r12), (3, .int r11), (0, .ref a), (1, .int node)] := hl
                refine lv_goto hx hb d_Unifier_standsInNone_135 rfl ?_
                exact ih3 _ _ _ _ _ _ _ a_seen_items_3 a_items_16 (x2_3 + 1) a_seen_size_3 a_size_16 a_links_f_18 a_states_3f a_seen_items_3n a_seen_items_3f a_items_n_16 a_items_f_16 (lv_sub hl [0, 4, 5] rfl) (sub3 hP hD [3, 6, 7, 8, 10, 11, 12, 9, 0, 1, 2, 4, 5] (by decide)) hS (by omega) (by omega) hok
              · rw [if_pos h22] at hok
                refine lv_aload_n hx hb d_Unifier_standsInNone_126 rfl (lv_at hl 4 rfl) ?_
                refine lv_iload hx hb d_Unifier_standsInNone_127 (lv_at hl 0 rfl) ?_
                obtain ⟨⟨⟨a_states_f_23, a_seen_size_23, a_seen_items_n_23, a_seen_items_f_23, a_path_size_23, a_path_items_n_23, a_path_items_f_23⟩, mk23, sk23⟩, hc23, hok⟩ := bd_some hok
                dsimp only at hok
                obtain ⟨m23, s23, hok, hmc23, hms23⟩ := al_some hok
                obtain ⟨hPc, hDc, hFc⟩ := cut0 (wc := [(a, .inr (8, [.ref a_terms, .ref a_links, .ref a_states, .ref a_pairs, .ref a_joined, .ref a_seen, .ref a_path])), (a_states, .inl (cs 0, a_states_n, .inl a_states_3f)), (a_seen, .inr (1, [.ref a_seen_items_3, .int a_seen_size_3])), (a_seen_items_3, .inl (cs 0, a_seen_items_3n, .inl a_seen_items_3f)), (a_path, .inr (1, [.ref a_items_16, .int a_size_16])), (a_items_16, .inl (cs 0, a_items_n_16, .inl a_items_f_16))]) hP hD hS hA [9, 0, 1, 2, 4, 5] (by decide) rfl
                refine va_callv (va_runV (As := [.int r18]) (rest := []) ⟨hx, hb, hml, hown, hg⟩ (c_Unifier_enter l g cs ka a_terms a_links a_pairs a_joined a a_states a_seen a_seen_items_3 a_path a_items_16 H.size r18 a_states_n a_states_3f a_seen_size_3 a_seen_items_3n a_seen_items_3f a_size_16 a_items_n_16 a_items_f_16 a_states_f_23 a_seen_size_23 a_seen_items_n_23 a_seen_items_f_23 a_path_size_23 a_path_items_n_23 a_path_items_f_23 mk23 sk23 hc23) (cwV (C := R_Unifier) 1 hg (gw_V wd_372 wd_373 wd_374 wd_350 wd_371) rfl rfl rfl (by decide +kernel) ⟨Nat.le_of_ble_eq_true rfl, Nat.le_of_ble_eq_true rfl⟩) ⟨gP_blind, va_recv (q0 := 9) (ci := 8) (q := (R_Unifier, F_Unifier, 7)) hK hP rfl rfl, gP_pre hPc hDc hK hgl hkn hkr hS hFc⟩ rfl rfl hl.1 rfl (lv_room (Nat.le_of_ble_eq_true rfl)) d_Unifier_standsInNone_129 ⟨show cells3 + 0 + 0 + 0 + 0 + mk15 + mk16 + 0 + 0 + mk23 ≤ mc from by omega, show slots3 + 0 + 0 + 0 + 0 + sk15 + sk16 + 0 + 0 + sk23 ≤ ms from by omega⟩) hS (fun q _ h => hFc q h) hFc (fun u t H locs ht hvm hr23 hB hz1 hk1 hS => ?_)
                rw [ht] at hB
                obtain ⟨a_seen_items_23, a_path_items_23, hP1, hD1⟩ := hB
                obtain ⟨hP, hD⟩ := jn_A hP hD [9, 0, 1, 2, 4, 5] [3, 6, 7, 8, 10, 11, 12] rfl rfl (by decide) (by decide) hk1 hFc hP1 hD1
                obtain ⟨hP, hD⟩ : PD g A H [(a_terms_shapes, .inl (cs 0, a_terms_shapes_n, .inl a_terms_shapes_f)), (a_terms_firstParts, .inl (cs 0, a_terms_firstParts_n, .inl a_terms_firstParts_f)), (a_terms_parts, .inr (1, [.ref a_terms_parts_items, .int a_terms_parts_size])), (a_terms_parts_items, .inl (cs 0, a_terms_parts_items_n, .inl a_terms_parts_items_f)), (a_terms, .inr (7, [.ref a_terms_shapes, .ref a_terms_values, .ref a_terms_firstParts, .int a_terms_nodes, .ref a_terms_parts, .ref a_terms_variableNames, .ref a_terms_became, .int a_terms_variables, .int a_terms_variablesLack, .int a_terms_symbols, .int a_terms_nodesBefore, .int a_terms_partsBefore, .int a_terms_variablesBefore])), (a_terms_became, .inl (cs 0, a_terms_became_n, .inl a_terms_became_f)), (a_links, .inl (cs 0, a_links_n, .inl a_links_f_18)), (a, .inr (8, [.ref a_terms, .ref a_links, .ref a_states, .ref a_pairs, .ref a_joined, .ref a_seen, .ref a_path])), (a_states, .inl (cs 0, a_states_n, .inl a_states_f_23)), (a_seen, .inr (1, [.ref a_seen_items_23, .int a_seen_size_23])), (a_seen_items_23, .inl (cs 0, a_seen_items_n_23, .inl a_seen_items_f_23)), (a_path, .inr (1, [.ref a_path_items_23, .int a_path_size_23])), (a_path_items_23, .inl (cs 0, a_path_items_n_23, .inl a_path_items_f_23))] := ⟨hP, hD⟩
                refine lv_iinc (k := 3) (v := x2_3 + 1) hx hb d_Unifier_standsInNone_132 hl rfl rfl (by decide) rfl (fun ls hl => ?_)
                have hl : lv_has ls 6 [(2, .int (x2_3 + 1)), (5, .int r18), (4, .int r12), (3, .int r11), (0, .ref a), (1, .int node)] := hl
                refine lv_goto hx hb d_Unifier_standsInNone_135 rfl ?_
                exact ih3 _ _ _ _ _ _ _ a_seen_items_23 a_path_items_23 (x2_3 + 1) a_seen_size_23 a_path_size_23 a_links_f_18 a_states_f_23 a_seen_items_n_23 a_seen_items_f_23 a_path_items_n_23 a_path_items_f_23 (lv_sub hl [0, 4, 5] rfl) (sub3 hP hD [0, 1, 2, 3, 4, 5, 6, 7, 8, 9, 10, 11, 12] (by decide)) hS (by omega) (by omega) hok
            · rw [if_pos h20] at hok
              refine lv_iconst (v := 0) hx hb d_Unifier_standsInNone_114 (by decide) ?_
              obtain ⟨hq, hw⟩ := Prod.mk.inj (Option.some.inj hok)
              obtain ⟨hmc0, hms0⟩ := Prod.mk.inj hw
              obtain ⟨hq0, hq⟩ := Prod.mk.inj hq
              obtain ⟨hq1, hq⟩ := Prod.mk.inj hq
              obtain ⟨hq2, hq⟩ := Prod.mk.inj hq
              obtain ⟨hq3, hq⟩ := Prod.mk.inj hq
              obtain ⟨hq4, hq⟩ := Prod.mk.inj hq
              obtain ⟨hq5, hq⟩ := Prod.mk.inj hq
              obtain ⟨hq6, hq⟩ := Prod.mk.inj hq
              obtain ⟨hq7, hq⟩ := Prod.mk.inj hq
              have hq8 := hq
              subst hq0
              subst hq1
              subst hq2
              subst hq3
              subst hq4
              subst hq5
              subst hq6
              subst hq7
              subst hq8
              obtain ⟨hP9, hD9⟩ := sub2 (ws' := [(a, .inr (8, [.ref a_terms, .ref a_links, .ref a_states, .ref a_pairs, .ref a_joined, .ref a_seen, .ref a_path])), (a_terms, .inr (7, [.ref a_terms_shapes, .ref a_terms_values, .ref a_terms_firstParts, .int a_terms_nodes, .ref a_terms_parts, .ref a_terms_variableNames, .ref a_terms_became, .int a_terms_variables, .int a_terms_variablesLack, .int a_terms_symbols, .int a_terms_nodesBefore, .int a_terms_partsBefore, .int a_terms_variablesBefore])), (a_terms_shapes, .inl (cs 0, a_terms_shapes_n, .inl a_terms_shapes_f)), (a_terms_firstParts, .inl (cs 0, a_terms_firstParts_n, .inl a_terms_firstParts_f)), (a_terms_parts, .inr (1, [.ref a_terms_parts_items, .int a_terms_parts_size])), (a_terms_parts_items, .inl (cs 0, a_terms_parts_items_n, .inl a_terms_parts_items_f)), (a_terms_became, .inl (cs 0, a_terms_became_n, .inl a_terms_became_f)), (a_links, .inl (cs 0, a_links_n, .inl a_links_f_18)), (a_states, .inl (cs 0, a_states_n, .inl a_states_3f)), (a_seen, .inr (1, [.ref a_seen_items_3, .int a_seen_size_3])), (a_seen_items_3, .inl (cs 0, a_seen_items_3n, .inl a_seen_items_3f)), (a_path, .inr (1, [.ref a_items_16, .int a_size_16])), (a_items_16, .inl (cs 0, a_items_n_16, .inl a_items_f_16))]) hP hD [9, 10, 3, 6, 7, 8, 11, 12, 0, 1, 2, 4, 5] rfl (by decide) rfl
              refine W.widen (k := mc) (n := ms) (by omega) (by omega) ?_
              rw [hQ]
              exact W.zret (v := 0) hx hb hr rfl (fun t ht hW => ⟨⟨_, (), rfl, rfl, a_seen_items_3, a_items_16, by rw [ht]; exact hP9, hD9⟩, hS.F ht⟩) hS.2.2 d_Unifier_standsInNone_115
          · rw [if_pos h14] at hok
            refine lv_aload_n hx hb d_Unifier_standsInNone_57 rfl (lv_at hl 3 rfl) ?_
            refine va_get (D := g) (ci := 8) (v := .ref a_states) (C := R_Unifier) (T := F_Unifier) (N := 7) hx hb hg ul_Unifier hown hK hP 5 rfl rfl 2 (by decide) (hg _ wd_320) (fun _ h9 => h9) rfl d_Unifier_standsInNone_58 ?_
            refine lv_iload hx hb d_Unifier_standsInNone_61 (lv_at hl 0 rfl) ?_
            refine lv_iconst (v := 2) hx hb d_Unifier_standsInNone_63 (by decide) ?_
            obtain ⟨hi24, hok⟩ := ck_some hok
            refine va_iast hx hb hK hP hD hS 6 0 rfl rfl (ixb_in hi24) d_Unifier_standsInNone_64 (fun H locs hP hD hS => ?_)
            obtain ⟨hP, hD⟩ : PD g A H [(a_terms_firstParts, .inl (cs 0, a_terms_firstParts_n, .inl a_terms_firstParts_f)), (a_terms_parts, .inr (1, [.ref a_terms_parts_items, .int a_terms_parts_size])), (a_terms_parts_items, .inl (cs 0, a_terms_parts_items_n, .inl a_terms_parts_items_f)), (a_terms_became, .inl (cs 0, a_terms_became_n, .inl a_terms_became_f)), (a_links, .inl (cs 0, a_links_n, .inl a_links_3f)), (a, .inr (8, [.ref a_terms, .ref a_links, .ref a_states, .ref a_pairs, .ref a_joined, .ref a_seen, .ref a_path])), (a_states, .inl (cs 0, a_states_n, .inl (upd a_states_3f r12.toNatClampNeg 2))), (a_seen, .inr (1, [.ref a_seen_items_3, .int a_seen_size_3])), (a_seen_items_3, .inl (cs 0, a_seen_items_3n, .inl a_seen_items_3f)), (a_path, .inr (1, [.ref a_path_items_3, .int a_size_12])), (a_path_items_3, .inl (cs 0, a_path_items_3n, .inl a_path_items_3f)), (a_terms, .inr (7, [.ref a_terms_shapes, .ref a_terms_values, .ref a_terms_firstParts, .int a_terms_nodes, .ref a_terms_parts, .ref a_terms_variableNames, .ref a_terms_became, .int a_terms_variables, .int a_terms_variablesLack, .int a_terms_symbols, .int a_terms_nodesBefore, .int a_terms_partsBefore, .int a_terms_variablesBefore])), (a_terms_shapes, .inl (cs 0, a_terms_shapes_n, .inl a_terms_shapes_f))] := ⟨hP, hD⟩
            refine lv_goto hx hb d_Unifier_standsInNone_65 rfl ?_
            refine lv_iinc (k := 2) (v := x2_3 + 1) hx hb d_Unifier_standsInNone_132 hl rfl rfl (by decide) rfl (fun ls hl => ?_)
            have hl : lv_has ls 6 [(2, .int (x2_3 + 1)), (4, .int r12), (3, .int r11), (0, .ref a), (1, .int node)] := hl
            refine lv_goto hx hb d_Unifier_standsInNone_135 rfl ?_
            exact ih3 _ _ _ _ _ _ _ a_seen_items_3 a_path_items_3 (x2_3 + 1) a_seen_size_3 a_size_12 a_links_3f (upd a_states_3f r12.toNatClampNeg 2) a_seen_items_3n a_seen_items_3f a_path_items_3n a_path_items_3f (lv_sub hl [0, 3, 4] rfl) (sub3 hP hD [12, 0, 1, 2, 11, 3, 4, 5, 6, 7, 8, 9, 10] (by decide)) hS (by omega) (by omega) hok
  exact J3 n H locs ls _ _ _ _ a_seen_items_2 a_path_items_2 (0 : Int32) a_seen_size_2 a_path_size_2 a_links_f_1 a_states_f_2 a_seen_items_n_2 a_seen_items_f_2 a_path_items_n_2 a_path_items_f_2 hl ⟨hP, hD⟩ hS (by omega) (by omega) hok

theorem d_Unifier_bindJoined_0 : decode b_Unifier_bindJoined 0 = .ok (.iconst 0, 1) := by decide +kernel
theorem d_Unifier_bindJoined_1 : decode b_Unifier_bindJoined 1 = .ok (.istore_n 1, 1) := by decide +kernel
theorem d_Unifier_bindJoined_2 : decode b_Unifier_bindJoined 2 = .ok (.iload_n 1, 1) := by decide +kernel
theorem d_Unifier_bindJoined_3 : decode b_Unifier_bindJoined 3 = .ok (.aload_n 0, 1) := by decide +kernel
theorem d_Unifier_bindJoined_4 : decode b_Unifier_bindJoined 4 = .ok (.getfield 34, 3) := by decide +kernel
theorem d_Unifier_bindJoined_7 : decode b_Unifier_bindJoined 7 = .ok (.invokevirtual 109, 3) := by decide +kernel
theorem d_Unifier_bindJoined_10 : decode b_Unifier_bindJoined 10 = .ok (.if_icmp .ge 31, 3) := by decide +kernel
theorem d_Unifier_bindJoined_13 : decode b_Unifier_bindJoined 13 = .ok (.aload_n 0, 1) := by decide +kernel
theorem d_Unifier_bindJoined_14 : decode b_Unifier_bindJoined 14 = .ok (.getfield 9, 3) := by decide +kernel
theorem d_Unifier_bindJoined_17 : decode b_Unifier_bindJoined 17 = .ok (.iload_n 1, 1) := by decide +kernel
theorem d_Unifier_bindJoined_18 : decode b_Unifier_bindJoined 18 = .ok (.iaload, 1) := by decide +kernel
theorem d_Unifier_bindJoined_19 : decode b_Unifier_bindJoined 19 = .ok (.ifCond .eq 16, 3) := by decide +kernel
theorem d_Unifier_bindJoined_22 : decode b_Unifier_bindJoined 22 = .ok (.aload_n 0, 1) := by decide +kernel
theorem d_Unifier_bindJoined_23 : decode b_Unifier_bindJoined 23 = .ok (.getfield 34, 3) := by decide +kernel
theorem d_Unifier_bindJoined_26 : decode b_Unifier_bindJoined 26 = .ok (.iload_n 1, 1) := by decide +kernel
theorem d_Unifier_bindJoined_27 : decode b_Unifier_bindJoined 27 = .ok (.aload_n 0, 1) := by decide +kernel
theorem d_Unifier_bindJoined_28 : decode b_Unifier_bindJoined 28 = .ok (.iload_n 1, 1) := by decide +kernel
theorem d_Unifier_bindJoined_29 : decode b_Unifier_bindJoined 29 = .ok (.invokevirtual 79, 3) := by decide +kernel
theorem d_Unifier_bindJoined_32 : decode b_Unifier_bindJoined 32 = .ok (.invokevirtual 112, 3) := by decide +kernel
theorem d_Unifier_bindJoined_35 : decode b_Unifier_bindJoined 35 = .ok (.iinc 1 1, 3) := by decide +kernel
theorem d_Unifier_bindJoined_38 : decode b_Unifier_bindJoined 38 = .ok (.goto (-36), 3) := by decide +kernel
theorem d_Unifier_bindJoined_41 : decode b_Unifier_bindJoined 41 = .ok (.return_, 1) := by decide +kernel
def p_Unifier_bindJoined_2 (n : Nat) (a_terms_nodes : Int32) (a_terms_variables : Int32) (a_terms_variablesLack : Int32) (a_terms_symbols : Int32) (a_terms_nodesBefore : Int32) (a_terms_partsBefore : Int32) (a_terms_variablesBefore : Int32) (a_terms_became_n : Nat) (a_links_n : Nat) (kf1 : Nat) (x1_1 : Int32) (a_terms_became_1f : Nat → Int32) (a_links_1f : Nat → Int32) : Option ((Nat → Int32) × (Nat → Int32)) := match kf1 with
  | 0 => none
  | kf1 + 1 => (p_Terms_variables a_terms_nodes a_terms_variables a_terms_variablesLack a_terms_symbols a_terms_nodesBefore a_terms_partsBefore a_terms_variablesBefore).bind (fun r2 => if r2 ≤ x1_1 then (some (a_terms_became_1f, a_links_1f)) else (ck (ixb x1_1 a_links_n) (if (a_links_1f x1_1.toNatClampNeg) = 0 then (p_Unifier_bindJoined_2 n a_terms_nodes a_terms_variables a_terms_variablesLack a_terms_symbols a_terms_nodesBefore a_terms_partsBefore a_terms_variablesBefore a_terms_became_n a_links_n kf1 (x1_1 + 1) a_terms_became_1f a_links_1f) else ((p_Unifier_rootOf n x1_1 a_terms_nodes a_terms_variables a_terms_variablesLack a_terms_symbols a_terms_nodesBefore a_terms_partsBefore a_terms_variablesBefore a_terms_became_n a_terms_became_1f a_links_n a_links_1f).bind (fun (r6, a_links_f_6) => (p_Terms_bind x1_1 r6 a_terms_nodes a_terms_variables a_terms_variablesLack a_terms_symbols a_terms_nodesBefore a_terms_partsBefore a_terms_variablesBefore a_terms_became_n a_terms_became_1f).bind (fun a_became_f_7 => p_Unifier_bindJoined_2 n a_terms_nodes a_terms_variables a_terms_variablesLack a_terms_symbols a_terms_nodesBefore a_terms_partsBefore a_terms_variablesBefore a_terms_became_n a_links_n kf1 (x1_1 + 1) a_became_f_7 a_links_f_6))))))
def p_Unifier_bindJoined (n : Nat) (a_terms_nodes : Int32) (a_terms_variables : Int32) (a_terms_variablesLack : Int32) (a_terms_symbols : Int32) (a_terms_nodesBefore : Int32) (a_terms_partsBefore : Int32) (a_terms_variablesBefore : Int32) (a_terms_became_n : Nat) (a_terms_became_f : Nat → Int32) (a_links_n : Nat) (a_links_f : Nat → Int32) : Option ((Nat → Int32) × (Nat → Int32)) := p_Unifier_bindJoined_2 n a_terms_nodes a_terms_variables a_terms_variablesLack a_terms_symbols a_terms_nodesBefore a_terms_partsBefore a_terms_variablesBefore a_terms_became_n a_links_n n (0 : Int32) a_terms_became_f a_links_f
set_option maxHeartbeats 4000000 in
set_option maxRecDepth 100000 in
theorem c_Unifier_bindJoined (l : Launch) (g : va_G) (cs : Nat → ClassId) (ka : Nat → Nat) (a_states : Nat) (a_pairs : Nat) (a_joined : Nat) (a_seen : Nat) (a_path : Nat) (a_terms_shapes : Nat) (a_terms_values : Nat) (a_terms_firstParts : Nat) (a_terms_parts : Nat) (a_terms_variableNames : Nat) (a a_terms a_terms_became a_links : Nat) (sz : Nat) (n : Nat) (a_terms_nodes : Int32) (a_terms_variables : Int32) (a_terms_variablesLack : Int32) (a_terms_symbols : Int32) (a_terms_nodesBefore : Int32) (a_terms_partsBefore : Int32) (a_terms_variablesBefore : Int32) (a_terms_became_n : Nat) (a_terms_became_f : Nat → Int32) (a_links_n : Nat) (a_links_f : Nat → Int32) (o_a_terms_became_f : Nat → Int32) (o_a_links_f : Nat → Int32) (hok : p_Unifier_bindJoined n a_terms_nodes a_terms_variables a_terms_variablesLack a_terms_symbols a_terms_nodesBefore a_terms_partsBefore a_terms_variablesBefore a_terms_became_n a_terms_became_f a_links_n a_links_f = some (o_a_terms_became_f, o_a_links_f)) : Met l y_Unifier_bindJoined (.code y_Unifier_bindJoined b_Unifier_bindJoined 2 none :: GW) { frames := 2, cells := 0, slots := 0, locals := 47 } (va_Pc [.ref a] (gP g cs ka [(a, .inr (8, [.ref a_terms, .ref a_links, .ref a_states, .ref a_pairs, .ref a_joined, .ref a_seen, .ref a_path])), (a_terms, .inr (7, [.ref a_terms_shapes, .ref a_terms_values, .ref a_terms_firstParts, .int a_terms_nodes, .ref a_terms_parts, .ref a_terms_variableNames, .ref a_terms_became, .int a_terms_variables, .int a_terms_variablesLack, .int a_terms_symbols, .int a_terms_nodesBefore, .int a_terms_partsBefore, .int a_terms_variablesBefore])), (a_terms_became, .inl (cs 0, a_terms_became_n, .inl a_terms_became_f)), (a_links, .inl (cs 0, a_links_n, .inl a_links_f))] sz)) (va_Qv (fun _ : Unit => True) (fun _ t => va_P g classes [(a, .inr (8, [.ref a_terms, .ref a_links, .ref a_states, .ref a_pairs, .ref a_joined, .ref a_seen, .ref a_path])), (a_terms, .inr (7, [.ref a_terms_shapes, .ref a_terms_values, .ref a_terms_firstParts, .int a_terms_nodes, .ref a_terms_parts, .ref a_terms_variableNames, .ref a_terms_became, .int a_terms_variables, .int a_terms_variablesLack, .int a_terms_symbols, .int a_terms_nodesBefore, .int a_terms_partsBefore, .int a_terms_variablesBefore])), (a_terms_became, .inl (cs 0, a_terms_became_n, .inl o_a_terms_became_f)), (a_links, .inl (cs 0, a_links_n, .inl o_a_links_f))] t.heap ∧ va_D (va_A [(a, .inr (8, [.ref a_terms, .ref a_links, .ref a_states, .ref a_pairs, .ref a_joined, .ref a_seen, .ref a_path])), (a_terms, .inr (7, [.ref a_terms_shapes, .ref a_terms_values, .ref a_terms_firstParts, .int a_terms_nodes, .ref a_terms_parts, .ref a_terms_variableNames, .ref a_terms_became, .int a_terms_variables, .int a_terms_variablesLack, .int a_terms_symbols, .int a_terms_nodesBefore, .int a_terms_partsBefore, .int a_terms_variablesBefore])), (a_terms_became, .inl (cs 0, a_terms_became_n, .inl a_terms_became_f)), (a_links, .inl (cs 0, a_links_n, .inl a_links_f))] sz) [(a, .inr (8, [.ref a_terms, .ref a_links, .ref a_states, .ref a_pairs, .ref a_joined, .ref a_seen, .ref a_path])), (a_terms, .inr (7, [.ref a_terms_shapes, .ref a_terms_values, .ref a_terms_firstParts, .int a_terms_nodes, .ref a_terms_parts, .ref a_terms_variableNames, .ref a_terms_became, .int a_terms_variables, .int a_terms_variablesLack, .int a_terms_symbols, .int a_terms_nodesBefore, .int a_terms_partsBefore, .int a_terms_variablesBefore])), (a_terms_became, .inl (cs 0, a_terms_became_n, .inl o_a_terms_became_f)), (a_links, .inl (cs 0, a_links_n, .inl o_a_links_f))]) (va_A [(a, .inr (8, [.ref a_terms, .ref a_links, .ref a_states, .ref a_pairs, .ref a_joined, .ref a_seen, .ref a_path])), (a_terms, .inr (7, [.ref a_terms_shapes, .ref a_terms_values, .ref a_terms_firstParts, .int a_terms_nodes, .ref a_terms_parts, .ref a_terms_variableNames, .ref a_terms_became, .int a_terms_variables, .int a_terms_variablesLack, .int a_terms_symbols, .int a_terms_nodesBefore, .int a_terms_partsBefore, .int a_terms_variablesBefore])), (a_terms_became, .inl (cs 0, a_terms_became_n, .inl a_terms_became_f)), (a_links, .inl (cs 0, a_links_n, .inl a_links_f))] sz)) 0 0 (va_A [(a, .inr (8, [.ref a_terms, .ref a_links, .ref a_states, .ref a_pairs, .ref a_joined, .ref a_seen, .ref a_path])), (a_terms, .inr (7, [.ref a_terms_shapes, .ref a_terms_values, .ref a_terms_firstParts, .int a_terms_nodes, .ref a_terms_parts, .ref a_terms_variableNames, .ref a_terms_became, .int a_terms_variables, .int a_terms_variablesLack, .int a_terms_symbols, .int a_terms_nodesBefore, .int a_terms_partsBefore, .int a_terms_variablesBefore])), (a_terms_became, .inl (cs 0, a_terms_became_n, .inl a_terms_became_f)), (a_links, .inl (cs 0, a_links_n, .inl a_links_f))] sz) := by
  refine Met.ofW (cc := b_Unifier_bindJoined) (maxL := 2) (ret := none) (by decide) rfl ?_
  intro p e s m args below meth c s₁ B hml hv
  obtain ⟨rfl, hsz, hP, hK, hD0, hgl, hkn, hkr⟩ := hv
  have hx := B.exec
  have hb := B.bytes
  have hr := B.returns
  have hg : ∀ w ∈ GW, w.before ([.ref a] : List Value).toArray s = true := fun w hw => atoms_spec (ws := .code y_Unifier_bindJoined b_Unifier_bindJoined 2 none :: GW) B.pre w (List.mem_cons_of_mem _ hw)
  have hown : s.vm.findClass R_Unifier = some m.cls := findClass_of_methodNamed B.named
  have hlocks := B.notSynchronized
  subst hsz
  have hD := hD0.self (sz := s.heap.size)
  generalize hAe : va_A [(a, .inr (8, [.ref a_terms, .ref a_links, .ref a_states, .ref a_pairs, .ref a_joined, .ref a_seen, .ref a_path])), (a_terms, .inr (7, [.ref a_terms_shapes, .ref a_terms_values, .ref a_terms_firstParts, .int a_terms_nodes, .ref a_terms_parts, .ref a_terms_variableNames, .ref a_terms_became, .int a_terms_variables, .int a_terms_variablesLack, .int a_terms_symbols, .int a_terms_nodesBefore, .int a_terms_partsBefore, .int a_terms_variablesBefore])), (a_terms_became, .inl (cs 0, a_terms_became_n, .inl a_terms_became_f)), (a_links, .inl (cs 0, a_links_n, .inl a_links_f))] s.heap.size = A at hD hkn ⊢
  have hA : ∀ q : Nat, s.heap.size ≤ q → A q := fun q h => by rw [← hAe]; exact Or.inr h
  have hS : va_S A s.heap s.heap [] := va_S.rf
  have hP : va_P g classes [(a, .inr (8, [.ref a_terms, .ref a_links, .ref a_states, .ref a_pairs, .ref a_joined, .ref a_seen, .ref a_path])), (a_terms, .inr (7, [.ref a_terms_shapes, .ref a_terms_values, .ref a_terms_firstParts, .int a_terms_nodes, .ref a_terms_parts, .ref a_terms_variableNames, .ref a_terms_became, .int a_terms_variables, .int a_terms_variablesLack, .int a_terms_symbols, .int a_terms_nodesBefore, .int a_terms_partsBefore, .int a_terms_variablesBefore])), (a_terms_became, .inl (cs 0, a_terms_became_n, .inl a_terms_became_f)), (a_links, .inl (cs 0, a_links_n, .inl a_links_f))] s.heap := hP
  have hl := lv_entry ([.ref a]) (n := 2) (Nat.le_of_ble_eq_true rfl)
  rw [lg_entry_eq]
  generalize (lg_sl ([.ref a]) ++ List.replicate (2 - (lg_sl ([.ref a])).length) Slot.unset).toArray = ls at hl ⊢
  have hl : lv_has ls 2 [(0, .ref a)] := hl
  refine gq (fun Q hQ => ?_)
  obtain ⟨H, hH⟩ : ∃ H : Heap, H = s.heap := ⟨_, rfl⟩
  rw [← hH] at hP
  have hS : va_S A s.heap H [] := by rw [hH]; exact hS
  refine W.eqH hH ?_
  obtain ⟨locs, hlc⟩ : ∃ L : List Loc, L = [] := ⟨_, rfl⟩
  rw [← hlc] at hS ⊢
  unfold p_Unifier_bindJoined at hok
  refine lv_iconst (v := 0) hx hb d_Unifier_bindJoined_0 (by decide) ?_
  refine lv_istore_n hx hb d_Unifier_bindJoined_1 rfl hl (by decide) rfl (fun ls hl => ?_)
  have hl : lv_has ls 2 [(1, .int 0), (0, .ref a)] := hl
  have J1 : ∀ (kf1 : Nat) (H : Heap) (locs : List Loc) (ls : Array Slot) (x1_1 : Int32) (a_terms_became_1f : Nat → Int32) (a_links_1f : Nat → Int32), lv_has ls 2 [(1, .int x1_1), (0, .ref a)] → PD g A H [(a, .inr (8, [.ref a_terms, .ref a_links, .ref a_states, .ref a_pairs, .ref a_joined, .ref a_seen, .ref a_path])), (a_terms, .inr (7, [.ref a_terms_shapes, .ref a_terms_values, .ref a_terms_firstParts, .int a_terms_nodes, .ref a_terms_parts, .ref a_terms_variableNames, .ref a_terms_became, .int a_terms_variables, .int a_terms_variablesLack, .int a_terms_symbols, .int a_terms_nodesBefore, .int a_terms_partsBefore, .int a_terms_variablesBefore])), (a_terms_became, .inl (cs 0, a_terms_became_n, .inl a_terms_became_1f)), (a_links, .inl (cs 0, a_links_n, .inl a_links_1f))] → va_S A s.heap H locs → p_Unifier_bindJoined_2 n a_terms_nodes a_terms_variables a_terms_variablesLack a_terms_symbols a_terms_nodesBefore a_terms_partsBefore a_terms_variablesBefore a_terms_became_n a_links_n kf1 x1_1 a_terms_became_1f a_links_1f = some (o_a_terms_became_f, o_a_links_f) → W p l e (headSpec (.code y_Unifier_bindJoined b_Unifier_bindJoined 2 none :: GW) { frames := 2, cells := 0, slots := 0, locals := 47 }).room s m ([.ref a] : List Value).toArray below meth c H locs 0 0 Q (F0 m 2 ls []) := by
    intro kf1
    induction kf1 with
    | zero => intro H locs ls x1_1 a_terms_became_1f a_links_1f hl ⟨hP, hD⟩ hS hok; rw [p_Unifier_bindJoined_2] at hok; cases hok
    | succ kf1 ih1 =>
      intro H locs ls x1_1 a_terms_became_1f a_links_1f hl ⟨hP, hD⟩ hS hok
      rw [p_Unifier_bindJoined_2] at hok
      refine lv_iload_n hx hb d_Unifier_bindJoined_2 rfl (lv_at hl 0 rfl) ?_
      refine lv_aload_n hx hb d_Unifier_bindJoined_3 rfl (lv_at hl 1 rfl) ?_
      refine va_get (D := g) (ci := 8) (v := .ref a_terms) (C := R_Unifier) (T := F_Unifier) (N := 7) hx hb hg ul_Unifier hown hK hP 0 rfl rfl 0 (by decide) (hg _ wd_327) (fun _ h9 => h9) rfl d_Unifier_bindJoined_4 ?_
      obtain ⟨r2, hc2, hok⟩ := bd_some hok
      obtain ⟨hPc, hDc, hFc⟩ := cut0 (wc := [(a_terms, .inr (7, [.ref a_terms_shapes, .ref a_terms_values, .ref a_terms_firstParts, .int a_terms_nodes, .ref a_terms_parts, .ref a_terms_variableNames, .ref a_terms_became, .int a_terms_variables, .int a_terms_variablesLack, .int a_terms_symbols, .int a_terms_nodesBefore, .int a_terms_partsBefore, .int a_terms_variablesBefore]))]) hP hD hS hA [1] (by decide) rfl
      refine va_calli (va_runV (As := []) (rest := [.int x1_1]) ⟨hx, hb, hml, hown, hg⟩ (c_Terms_variables l g cs ka a_terms_shapes a_terms_values a_terms_firstParts a_terms_parts a_terms_variableNames a_terms_became a_terms H.size a_terms_nodes a_terms_variables a_terms_variablesLack a_terms_symbols a_terms_nodesBefore a_terms_partsBefore a_terms_variablesBefore r2 hc2) (cwV (C := R_Terms) 0 hg (gw_V wd_376 wd_377 wd_378 wd_264 wd_375) rfl rfl rfl (by decide +kernel) ⟨Nat.le_of_ble_eq_true rfl, Nat.le_of_ble_eq_true rfl⟩) ⟨gP_blind, va_recv (q0 := 1) (ci := 7) (q := (R_Terms, F_Terms, 13)) hK hP rfl rfl, gP_pre hPc hDc hK hgl hkn hkr hS hFc⟩ rfl rfl hl.1 rfl (lv_room (Nat.le_of_ble_eq_true rfl)) d_Unifier_bindJoined_7 ⟨Nat.le_of_ble_eq_true rfl, Nat.le_of_ble_eq_true rfl⟩) hS (fun q _ h => hFc q h) hFc (fun r2' u t H locs ht hvm hr2 hB hz1 hk1 hS => ?_)
      subst hr2
      rw [ht] at hB
      obtain ⟨hP1, hD1⟩ := hB
      obtain ⟨hP, hD⟩ := jn_A hP hD [1] [0, 2, 3] rfl rfl (by decide) (by decide) hk1 hFc hP1 hD1
      obtain ⟨hP, hD⟩ : PD g A H [(a, .inr (8, [.ref a_terms, .ref a_links, .ref a_states, .ref a_pairs, .ref a_joined, .ref a_seen, .ref a_path])), (a_terms_became, .inl (cs 0, a_terms_became_n, .inl a_terms_became_1f)), (a_links, .inl (cs 0, a_links_n, .inl a_links_1f)), (a_terms, .inr (7, [.ref a_terms_shapes, .ref a_terms_values, .ref a_terms_firstParts, .int a_terms_nodes, .ref a_terms_parts, .ref a_terms_variableNames, .ref a_terms_became, .int a_terms_variables, .int a_terms_variablesLack, .int a_terms_symbols, .int a_terms_nodesBefore, .int a_terms_partsBefore, .int a_terms_variablesBefore]))] := ⟨hP, hD⟩
      refine lv_icmp_ge hx hb d_Unifier_bindJoined_10 rfl (fun h3 => ?_) (fun h3 => ?_)
      · rw [if_pos h3] at hok
        have hq := Option.some.inj hok
        obtain ⟨hq0, hq⟩ := Prod.mk.inj hq
        have hq1 := hq
        subst hq0
        subst hq1
        obtain ⟨hP9, hD9⟩ := sub2 (ws' := [(a, .inr (8, [.ref a_terms, .ref a_links, .ref a_states, .ref a_pairs, .ref a_joined, .ref a_seen, .ref a_path])), (a_terms, .inr (7, [.ref a_terms_shapes, .ref a_terms_values, .ref a_terms_firstParts, .int a_terms_nodes, .ref a_terms_parts, .ref a_terms_variableNames, .ref a_terms_became, .int a_terms_variables, .int a_terms_variablesLack, .int a_terms_symbols, .int a_terms_nodesBefore, .int a_terms_partsBefore, .int a_terms_variablesBefore])), (a_terms_became, .inl (cs 0, a_terms_became_n, .inl a_terms_became_1f)), (a_links, .inl (cs 0, a_links_n, .inl a_links_1f))]) hP hD [0, 3, 1, 2] rfl (by decide) rfl
        rw [hQ]
        exact W.vret hx hb hr (fun t ht hW => ⟨⟨(), rfl, trivial, by rw [ht]; exact hP9, hD9⟩, hS.F ht⟩) hS.2.2 d_Unifier_bindJoined_41
      · rw [if_neg h3] at hok
        refine lv_aload_n hx hb d_Unifier_bindJoined_13 rfl (lv_at hl 1 rfl) ?_
        refine va_get (D := g) (ci := 8) (v := .ref a_links) (C := R_Unifier) (T := F_Unifier) (N := 7) hx hb hg ul_Unifier hown hK hP 0 rfl rfl 1 (by decide) (hg _ wd_319) (fun _ h9 => h9) rfl d_Unifier_bindJoined_14 ?_
        refine lv_iload_n hx hb d_Unifier_bindJoined_17 rfl (lv_at hl 0 rfl) ?_
        obtain ⟨hi4, hok⟩ := ck_some hok
        refine va_iald hx hb hK hP 2 0 rfl rfl (ixb_in hi4) d_Unifier_bindJoined_18 ?_
        refine lv_if_eq hx hb d_Unifier_bindJoined_19 rfl (fun h5 => ?_) (fun h5 => ?_)
        · rw [if_pos h5] at hok
          refine lv_iinc (k := 0) (v := x1_1 + 1) hx hb d_Unifier_bindJoined_35 hl rfl rfl (by decide) rfl (fun ls hl => ?_)
          have hl : lv_has ls 2 [(1, .int (x1_1 + 1)), (0, .ref a)] := hl
          refine lv_goto hx hb d_Unifier_bindJoined_38 rfl ?_
          exact ih1 _ _ _ (x1_1 + 1) a_terms_became_1f a_links_1f (lv_sub hl [0, 1] rfl) (sub3 hP hD [0, 3, 1, 2] (by decide)) hS hok
        · rw [if_neg h5] at hok
          refine lv_aload_n hx hb d_Unifier_bindJoined_22 rfl (lv_at hl 1 rfl) ?_
          refine va_get (D := g) (ci := 8) (v := .ref a_terms) (C := R_Unifier) (T := F_Unifier) (N := 7) hx hb hg ul_Unifier hown hK hP 0 rfl rfl 0 (by decide) (hg _ wd_327) (fun _ h9 => h9) rfl d_Unifier_bindJoined_23 ?_
          refine lv_iload_n hx hb d_Unifier_bindJoined_26 rfl (lv_at hl 0 rfl) ?_
          refine lv_aload_n hx hb d_Unifier_bindJoined_27 rfl (lv_at hl 1 rfl) ?_
          refine lv_iload_n hx hb d_Unifier_bindJoined_28 rfl (lv_at hl 0 rfl) ?_
          obtain ⟨⟨r6, a_links_f_6⟩, hc6, hok⟩ := bd_some hok
          dsimp only at hok
          obtain ⟨hPc, hDc, hFc⟩ := cut0 (wc := [(a, .inr (8, [.ref a_terms, .ref a_links, .ref a_states, .ref a_pairs, .ref a_joined, .ref a_seen, .ref a_path])), (a_terms, .inr (7, [.ref a_terms_shapes, .ref a_terms_values, .ref a_terms_firstParts, .int a_terms_nodes, .ref a_terms_parts, .ref a_terms_variableNames, .ref a_terms_became, .int a_terms_variables, .int a_terms_variablesLack, .int a_terms_symbols, .int a_terms_nodesBefore, .int a_terms_partsBefore, .int a_terms_variablesBefore])), (a_terms_became, .inl (cs 0, a_terms_became_n, .inl a_terms_became_1f)), (a_links, .inl (cs 0, a_links_n, .inl a_links_1f))]) hP hD hS hA [0, 3, 1, 2] (by decide) rfl
          refine va_calli (va_runV (As := [.int x1_1]) (rest := [.int x1_1, .ref a_terms]) ⟨hx, hb, hml, hown, hg⟩ (c_Unifier_rootOf l g cs ka a_states a_pairs a_joined a_seen a_path a_terms_shapes a_terms_values a_terms_firstParts a_terms_parts a_terms_variableNames a a_terms a_terms_became a_links H.size n x1_1 a_terms_nodes a_terms_variables a_terms_variablesLack a_terms_symbols a_terms_nodesBefore a_terms_partsBefore a_terms_variablesBefore a_terms_became_n a_terms_became_1f a_links_n a_links_1f r6 a_links_f_6 hc6) (cwV (C := R_Unifier) 1 hg (gw_V wd_364 wd_365 wd_366 wd_350 wd_363) rfl rfl rfl (by decide +kernel) ⟨Nat.le_of_ble_eq_true rfl, Nat.le_of_ble_eq_true rfl⟩) ⟨gP_blind, va_recv (q0 := 0) (ci := 8) (q := (R_Unifier, F_Unifier, 7)) hK hP rfl rfl, gP_pre hPc hDc hK hgl hkn hkr hS hFc⟩ rfl rfl hl.1 rfl (lv_room (Nat.le_of_ble_eq_true rfl)) d_Unifier_bindJoined_29 ⟨Nat.le_of_ble_eq_true rfl, Nat.le_of_ble_eq_true rfl⟩) hS (fun q _ h => hFc q h) hFc (fun r6' u t H locs ht hvm hr6 hB hz1 hk1 hS => ?_)
          subst hr6
          rw [ht] at hB
          obtain ⟨hP1, hD1⟩ := hB
          obtain ⟨hP, hD⟩ := jn_A hP hD [0, 3, 1, 2] [] rfl rfl (by decide) (by decide) hk1 hFc hP1 hD1
          obtain ⟨hP, hD⟩ : PD g A H [(a, .inr (8, [.ref a_terms, .ref a_links, .ref a_states, .ref a_pairs, .ref a_joined, .ref a_seen, .ref a_path])), (a_terms, .inr (7, [.ref a_terms_shapes, .ref a_terms_values, .ref a_terms_firstParts, .int a_terms_nodes, .ref a_terms_parts, .ref a_terms_variableNames, .ref a_terms_became, .int a_terms_variables, .int a_terms_variablesLack, .int a_terms_symbols, .int a_terms_nodesBefore, .int a_terms_partsBefore, .int a_terms_variablesBefore])), (a_terms_became, .inl (cs 0, a_terms_became_n, .inl a_terms_became_1f)), (a_links, .inl (cs 0, a_links_n, .inl a_links_f_6))] := ⟨hP, hD⟩
          obtain ⟨a_became_f_7, hc7, hok⟩ := bd_some hok
          obtain ⟨hPc, hDc, hFc⟩ := cut0 (wc := [(a_terms, .inr (7, [.ref a_terms_shapes, .ref a_terms_values, .ref a_terms_firstParts, .int a_terms_nodes, .ref a_terms_parts, .ref a_terms_variableNames, .ref a_terms_became, .int a_terms_variables, .int a_terms_variablesLack, .int a_terms_symbols, .int a_terms_nodesBefore, .int a_terms_partsBefore, .int a_terms_variablesBefore])), (a_terms_became, .inl (cs 0, a_terms_became_n, .inl a_terms_became_1f))]) hP hD hS hA [1, 2] (by decide) rfl
          refine va_callv (va_runV (As := [.int x1_1, .int r6]) (rest := []) ⟨hx, hb, hml, hown, hg⟩ (c_Terms_bind l g cs ka a_terms_shapes a_terms_values a_terms_firstParts a_terms_parts a_terms_variableNames a_terms a_terms_became H.size x1_1 r6 a_terms_nodes a_terms_variables a_terms_variablesLack a_terms_symbols a_terms_nodesBefore a_terms_partsBefore a_terms_variablesBefore a_terms_became_n a_terms_became_1f a_became_f_7 hc7) (cwV (C := R_Terms) 2 hg (gw_V wd_380 wd_381 wd_382 wd_264 wd_379) rfl rfl rfl (by decide +kernel) ⟨Nat.le_of_ble_eq_true rfl, Nat.le_of_ble_eq_true rfl⟩) ⟨gP_blind, va_recv (q0 := 1) (ci := 7) (q := (R_Terms, F_Terms, 13)) hK hP rfl rfl, gP_pre hPc hDc hK hgl hkn hkr hS hFc⟩ rfl rfl hl.1 rfl (lv_room (Nat.le_of_ble_eq_true rfl)) d_Unifier_bindJoined_32 ⟨Nat.le_of_ble_eq_true rfl, Nat.le_of_ble_eq_true rfl⟩) hS (fun q _ h => hFc q h) hFc (fun u t H locs ht hvm hr7 hB hz1 hk1 hS => ?_)
          rw [ht] at hB
          obtain ⟨hP1, hD1⟩ := hB
          obtain ⟨hP, hD⟩ := jn_A hP hD [1, 2] [0, 3] rfl rfl (by decide) (by decide) hk1 hFc hP1 hD1
          obtain ⟨hP, hD⟩ : PD g A H [(a, .inr (8, [.ref a_terms, .ref a_links, .ref a_states, .ref a_pairs, .ref a_joined, .ref a_seen, .ref a_path])), (a_links, .inl (cs 0, a_links_n, .inl a_links_f_6)), (a_terms, .inr (7, [.ref a_terms_shapes, .ref a_terms_values, .ref a_terms_firstParts, .int a_terms_nodes, .ref a_terms_parts, .ref a_terms_variableNames, .ref a_terms_became, .int a_terms_variables, .int a_terms_variablesLack, .int a_terms_symbols, .int a_terms_nodesBefore, .int a_terms_partsBefore, .int a_terms_variablesBefore])), (a_terms_became, .inl (cs 0, a_terms_became_n, .inl a_became_f_7))] := ⟨hP, hD⟩
          refine lv_iinc (k := 0) (v := x1_1 + 1) hx hb d_Unifier_bindJoined_35 hl rfl rfl (by decide) rfl (fun ls hl => ?_)
          have hl : lv_has ls 2 [(1, .int (x1_1 + 1)), (0, .ref a)] := hl
          refine lv_goto hx hb d_Unifier_bindJoined_38 rfl ?_
          exact ih1 _ _ _ (x1_1 + 1) a_became_f_7 a_links_f_6 (lv_sub hl [0, 1] rfl) (sub3 hP hD [0, 2, 3, 1] (by decide)) hS hok
  exact J1 n H locs ls (0 : Int32) a_terms_became_f a_links_f hl ⟨hP, hD⟩ hS hok

theorem d_Unifier_makeSame_0 : decode b_Unifier_makeSame 0 = .ok (.aload_n 0, 1) := by decide +kernel
theorem d_Unifier_makeSame_1 : decode b_Unifier_makeSame 1 = .ok (.invokevirtual 38, 3) := by decide +kernel
theorem d_Unifier_makeSame_4 : decode b_Unifier_makeSame 4 = .ok (.aload_n 0, 1) := by decide +kernel
theorem d_Unifier_makeSame_5 : decode b_Unifier_makeSame 5 = .ok (.iload_n 1, 1) := by decide +kernel
theorem d_Unifier_makeSame_6 : decode b_Unifier_makeSame 6 = .ok (.iload_n 2, 1) := by decide +kernel
theorem d_Unifier_makeSame_7 : decode b_Unifier_makeSame 7 = .ok (.iconst 1, 1) := by decide +kernel
theorem d_Unifier_makeSame_8 : decode b_Unifier_makeSame 8 = .ok (.invokevirtual 41, 3) := by decide +kernel
theorem d_Unifier_makeSame_11 : decode b_Unifier_makeSame 11 = .ok (.ifCond .eq 15, 3) := by decide +kernel
theorem d_Unifier_makeSame_14 : decode b_Unifier_makeSame 14 = .ok (.aload_n 0, 1) := by decide +kernel
theorem d_Unifier_makeSame_15 : decode b_Unifier_makeSame 15 = .ok (.iload_n 1, 1) := by decide +kernel
theorem d_Unifier_makeSame_16 : decode b_Unifier_makeSame 16 = .ok (.invokevirtual 45, 3) := by decide +kernel
theorem d_Unifier_makeSame_19 : decode b_Unifier_makeSame 19 = .ok (.ifCond .eq 7, 3) := by decide +kernel
theorem d_Unifier_makeSame_22 : decode b_Unifier_makeSame 22 = .ok (.iconst 1, 1) := by decide +kernel
theorem d_Unifier_makeSame_23 : decode b_Unifier_makeSame 23 = .ok (.goto 4, 3) := by decide +kernel
theorem d_Unifier_makeSame_26 : decode b_Unifier_makeSame 26 = .ok (.iconst 0, 1) := by decide +kernel
theorem d_Unifier_makeSame_27 : decode b_Unifier_makeSame 27 = .ok (.istore_n 3, 1) := by decide +kernel
theorem d_Unifier_makeSame_28 : decode b_Unifier_makeSame 28 = .ok (.iload_n 3, 1) := by decide +kernel
theorem d_Unifier_makeSame_29 : decode b_Unifier_makeSame 29 = .ok (.ifCond .eq 7, 3) := by decide +kernel
theorem d_Unifier_makeSame_32 : decode b_Unifier_makeSame 32 = .ok (.aload_n 0, 1) := by decide +kernel
theorem d_Unifier_makeSame_33 : decode b_Unifier_makeSame 33 = .ok (.invokevirtual 49, 3) := by decide +kernel
theorem d_Unifier_makeSame_36 : decode b_Unifier_makeSame 36 = .ok (.aload_n 0, 1) := by decide +kernel
theorem d_Unifier_makeSame_37 : decode b_Unifier_makeSame 37 = .ok (.invokevirtual 52, 3) := by decide +kernel
theorem d_Unifier_makeSame_40 : decode b_Unifier_makeSame 40 = .ok (.iload_n 3, 1) := by decide +kernel
theorem d_Unifier_makeSame_41 : decode b_Unifier_makeSame 41 = .ok (.ireturn, 1) := by decide +kernel
def p_Unifier_makeSame (n : Nat) (x : Int32) (y : Int32) (a_terms_nodes : Int32) (a_terms_variables : Int32) (a_terms_variablesLack : Int32) (a_terms_symbols : Int32) (a_terms_nodesBefore : Int32) (a_terms_partsBefore : Int32) (a_terms_variablesBefore : Int32) (a_terms_shapes_n : Nat) (a_terms_shapes_f : Nat → Int32) (a_terms_values_n : Nat) (a_terms_values_f : Nat → Int64) (a_terms_firstParts_n : Nat) (a_terms_firstParts_f : Nat → Int32) (a_terms_parts_size : Int32) (a_terms_parts_items_n : Nat) (a_terms_parts_items_f : Nat → Int32) (a_terms_became_n : Nat) (a_terms_became_f : Nat → Int32) (a_links_n : Nat) (a_links_f : Nat → Int32) (a_states_n : Nat) (a_states_f : Nat → Int32) (a_pairs_size : Int32) (a_pairs_items_n : Nat) (a_pairs_items_f : Nat → Int32) (a_joined_size : Int32) (a_joined_items_n : Nat) (a_joined_items_f : Nat → Int32) (a_seen_size : Int32) (a_seen_items_n : Nat) (a_seen_items_f : Nat → Int32) (a_path_size : Int32) (a_path_items_n : Nat) (a_path_items_f : Nat → Int32) : Option ((Int32 × (Nat → Int32) × Nat × (Nat → Int32) × Nat × (Nat → Int32) × Int32 × Nat × (Nat → Int32) × Int32 × Nat × (Nat → Int32) × Int32 × Nat × (Nat → Int32) × Int32 × Nat × (Nat → Int32)) × Nat × Nat) := (p_Unifier_makeRoom a_terms_nodes a_terms_variables a_terms_variablesLack a_terms_symbols a_terms_nodesBefore a_terms_partsBefore a_terms_variablesBefore a_links_n a_links_f a_states_n a_states_f).bind (fun ((a_links_n_1, a_links_f_1, a_states_n_1, a_states_f_1), mk1, sk1) => al mk1 sk1 ((p_Unifier_joinAll n x y (1 : Int32) a_terms_nodes a_terms_variables a_terms_variablesLack a_terms_symbols a_terms_nodesBefore a_terms_partsBefore a_terms_variablesBefore a_terms_shapes_n a_terms_shapes_f a_terms_values_n a_terms_values_f a_terms_firstParts_n a_terms_firstParts_f a_terms_parts_size a_terms_parts_items_n a_terms_parts_items_f a_terms_became_n a_terms_became_f a_links_n_1 a_links_f_1 a_pairs_size a_pairs_items_n a_pairs_items_f a_joined_size a_joined_items_n a_joined_items_f).bind (fun ((r2, a_links_f_2, a_pairs_size_2, a_pairs_items_n_2, a_pairs_items_f_2, a_joined_size_2, a_joined_items_n_2, a_joined_items_f_2), mk2, sk2) => al mk2 sk2 (if r2 = 0 then ((p_Unifier_clear n a_links_n_1 a_links_f_2 a_states_n_1 a_states_f_1 a_pairs_size_2 a_joined_size_2 a_joined_items_n_2 a_joined_items_f_2 a_seen_size a_seen_items_n a_seen_items_f a_path_size).bind (fun (a_links_f_5, a_states_f_5, a_pairs_size_5, a_joined_size_5, a_seen_size_5, a_path_size_5) => some (((0 : Int32), a_terms_became_f, a_links_n_1, a_links_f_5, a_states_n_1, a_states_f_5, a_pairs_size_5, a_pairs_items_n_2, a_pairs_items_f_2, a_joined_size_5, a_joined_items_n_2, a_joined_items_f_2, a_seen_size_5, a_seen_items_n, a_seen_items_f, a_path_size_5, a_path_items_n, a_path_items_f), 0, 0))) else ((p_Unifier_standsInNone n x a_terms_nodes a_terms_variables a_terms_variablesLack a_terms_symbols a_terms_nodesBefore a_terms_partsBefore a_terms_variablesBefore a_terms_shapes_n a_terms_shapes_f a_terms_firstParts_n a_terms_firstParts_f a_terms_parts_size a_terms_parts_items_n a_terms_parts_items_f a_terms_became_n a_terms_became_f a_links_n_1 a_links_f_2 a_states_n_1 a_states_f_1 a_seen_size a_seen_items_n a_seen_items_f a_path_size a_path_items_n a_path_items_f).bind (fun ((r6, a_links_f_6, a_states_f_6, a_seen_size_6, a_seen_items_n_6, a_seen_items_f_6, a_path_size_6, a_path_items_n_6, a_path_items_f_6), mk6, sk6) => al mk6 sk6 (if r6 = 0 then ((p_Unifier_clear n a_links_n_1 a_links_f_6 a_states_n_1 a_states_f_6 a_pairs_size_2 a_joined_size_2 a_joined_items_n_2 a_joined_items_f_2 a_seen_size_6 a_seen_items_n_6 a_seen_items_f_6 a_path_size_6).bind (fun (a_links_f_9, a_states_f_9, a_pairs_size_9, a_joined_size_9, a_seen_size_9, a_path_size_9) => some (((0 : Int32), a_terms_became_f, a_links_n_1, a_links_f_9, a_states_n_1, a_states_f_9, a_pairs_size_9, a_pairs_items_n_2, a_pairs_items_f_2, a_joined_size_9, a_joined_items_n_2, a_joined_items_f_2, a_seen_size_9, a_seen_items_n_6, a_seen_items_f_6, a_path_size_9, a_path_items_n_6, a_path_items_f_6), 0, 0))) else ((p_Unifier_bindJoined n a_terms_nodes a_terms_variables a_terms_variablesLack a_terms_symbols a_terms_nodesBefore a_terms_partsBefore a_terms_variablesBefore a_terms_became_n a_terms_became_f a_links_n_1 a_links_f_6).bind (fun (a_terms_became_f_11, a_links_f_11) => (p_Unifier_clear n a_links_n_1 a_links_f_11 a_states_n_1 a_states_f_6 a_pairs_size_2 a_joined_size_2 a_joined_items_n_2 a_joined_items_f_2 a_seen_size_6 a_seen_items_n_6 a_seen_items_f_6 a_path_size_6).bind (fun (a_links_f_12, a_states_f_12, a_pairs_size_12, a_joined_size_12, a_seen_size_12, a_path_size_12) => some (((1 : Int32), a_terms_became_f_11, a_links_n_1, a_links_f_12, a_states_n_1, a_states_f_12, a_pairs_size_12, a_pairs_items_n_2, a_pairs_items_f_2, a_joined_size_12, a_joined_items_n_2, a_joined_items_f_2, a_seen_size_12, a_seen_items_n_6, a_seen_items_f_6, a_path_size_12, a_path_items_n_6, a_path_items_f_6), 0, 0)))))))))))
set_option maxHeartbeats 4000000 in
set_option maxRecDepth 100000 in
theorem c_Unifier_makeSame (l : Launch) (g : va_G) (cs : Nat → ClassId) (ka : Nat → Nat) (a_terms_variableNames : Nat) (a a_terms a_terms_shapes a_terms_values a_terms_firstParts a_terms_parts a_terms_parts_items a_terms_became a_links a_states a_pairs a_pairs_items a_joined a_joined_items a_seen a_seen_items a_path a_path_items : Nat) (sz : Nat) (n : Nat) (x : Int32) (y : Int32) (a_terms_nodes : Int32) (a_terms_variables : Int32) (a_terms_variablesLack : Int32) (a_terms_symbols : Int32) (a_terms_nodesBefore : Int32) (a_terms_partsBefore : Int32) (a_terms_variablesBefore : Int32) (a_terms_shapes_n : Nat) (a_terms_shapes_f : Nat → Int32) (a_terms_values_n : Nat) (a_terms_values_f : Nat → Int64) (a_terms_firstParts_n : Nat) (a_terms_firstParts_f : Nat → Int32) (a_terms_parts_size : Int32) (a_terms_parts_items_n : Nat) (a_terms_parts_items_f : Nat → Int32) (a_terms_became_n : Nat) (a_terms_became_f : Nat → Int32) (a_links_n : Nat) (a_links_f : Nat → Int32) (a_states_n : Nat) (a_states_f : Nat → Int32) (a_pairs_size : Int32) (a_pairs_items_n : Nat) (a_pairs_items_f : Nat → Int32) (a_joined_size : Int32) (a_joined_items_n : Nat) (a_joined_items_f : Nat → Int32) (a_seen_size : Int32) (a_seen_items_n : Nat) (a_seen_items_f : Nat → Int32) (a_path_size : Int32) (a_path_items_n : Nat) (a_path_items_f : Nat → Int32) (r : Int32) (o_a_terms_became_f : Nat → Int32) (o_a_links_n : Nat) (o_a_links_f : Nat → Int32) (o_a_states_n : Nat) (o_a_states_f : Nat → Int32) (o_a_pairs_size : Int32) (o_a_pairs_items_n : Nat) (o_a_pairs_items_f : Nat → Int32) (o_a_joined_size : Int32) (o_a_joined_items_n : Nat) (o_a_joined_items_f : Nat → Int32) (o_a_seen_size : Int32) (o_a_seen_items_n : Nat) (o_a_seen_items_f : Nat → Int32) (o_a_path_size : Int32) (o_a_path_items_n : Nat) (o_a_path_items_f : Nat → Int32) (mc ms : Nat) (hok : p_Unifier_makeSame n x y a_terms_nodes a_terms_variables a_terms_variablesLack a_terms_symbols a_terms_nodesBefore a_terms_partsBefore a_terms_variablesBefore a_terms_shapes_n a_terms_shapes_f a_terms_values_n a_terms_values_f a_terms_firstParts_n a_terms_firstParts_f a_terms_parts_size a_terms_parts_items_n a_terms_parts_items_f a_terms_became_n a_terms_became_f a_links_n a_links_f a_states_n a_states_f a_pairs_size a_pairs_items_n a_pairs_items_f a_joined_size a_joined_items_n a_joined_items_f a_seen_size a_seen_items_n a_seen_items_f a_path_size a_path_items_n a_path_items_f = some ((r, o_a_terms_became_f, o_a_links_n, o_a_links_f, o_a_states_n, o_a_states_f, o_a_pairs_size, o_a_pairs_items_n, o_a_pairs_items_f, o_a_joined_size, o_a_joined_items_n, o_a_joined_items_f, o_a_seen_size, o_a_seen_items_n, o_a_seen_items_f, o_a_path_size, o_a_path_items_n, o_a_path_items_f), mc, ms)) : Met l y_Unifier_makeSame (.code y_Unifier_makeSame b_Unifier_makeSame 4 (some .boolean) :: GW) { frames := 6, cells := mc, slots := ms, locals := 215 } (va_Pc [.ref a, .int x, .int y] (gP g cs ka [(a, .inr (8, [.ref a_terms, .ref a_links, .ref a_states, .ref a_pairs, .ref a_joined, .ref a_seen, .ref a_path])), (a_terms, .inr (7, [.ref a_terms_shapes, .ref a_terms_values, .ref a_terms_firstParts, .int a_terms_nodes, .ref a_terms_parts, .ref a_terms_variableNames, .ref a_terms_became, .int a_terms_variables, .int a_terms_variablesLack, .int a_terms_symbols, .int a_terms_nodesBefore, .int a_terms_partsBefore, .int a_terms_variablesBefore])), (a_terms_shapes, .inl (cs 0, a_terms_shapes_n, .inl a_terms_shapes_f)), (a_terms_values, .inl (cs 2, a_terms_values_n, .inr (.inl a_terms_values_f))), (a_terms_firstParts, .inl (cs 0, a_terms_firstParts_n, .inl a_terms_firstParts_f)), (a_terms_parts, .inr (1, [.ref a_terms_parts_items, .int a_terms_parts_size])), (a_terms_parts_items, .inl (cs 0, a_terms_parts_items_n, .inl a_terms_parts_items_f)), (a_terms_became, .inl (cs 0, a_terms_became_n, .inl a_terms_became_f)), (a_links, .inl (cs 0, a_links_n, .inl a_links_f)), (a_states, .inl (cs 0, a_states_n, .inl a_states_f)), (a_pairs, .inr (1, [.ref a_pairs_items, .int a_pairs_size])), (a_pairs_items, .inl (cs 0, a_pairs_items_n, .inl a_pairs_items_f)), (a_joined, .inr (1, [.ref a_joined_items, .int a_joined_size])), (a_joined_items, .inl (cs 0, a_joined_items_n, .inl a_joined_items_f)), (a_seen, .inr (1, [.ref a_seen_items, .int a_seen_size])), (a_seen_items, .inl (cs 0, a_seen_items_n, .inl a_seen_items_f)), (a_path, .inr (1, [.ref a_path_items, .int a_path_size])), (a_path_items, .inl (cs 0, a_path_items_n, .inl a_path_items_f))] sz)) (va_Qi (fun (r' : Int32) (_ : Unit) => r = r') (fun _ t => ∃ b_a_links b_a_states b_a_pairs_items b_a_joined_items b_a_seen_items b_a_path_items : Nat, va_P g classes [(a, .inr (8, [.ref a_terms, .ref b_a_links, .ref b_a_states, .ref a_pairs, .ref a_joined, .ref a_seen, .ref a_path])), (a_terms, .inr (7, [.ref a_terms_shapes, .ref a_terms_values, .ref a_terms_firstParts, .int a_terms_nodes, .ref a_terms_parts, .ref a_terms_variableNames, .ref a_terms_became, .int a_terms_variables, .int a_terms_variablesLack, .int a_terms_symbols, .int a_terms_nodesBefore, .int a_terms_partsBefore, .int a_terms_variablesBefore])), (a_terms_shapes, .inl (cs 0, a_terms_shapes_n, .inl a_terms_shapes_f)), (a_terms_values, .inl (cs 2, a_terms_values_n, .inr (.inl a_terms_values_f))), (a_terms_firstParts, .inl (cs 0, a_terms_firstParts_n, .inl a_terms_firstParts_f)), (a_terms_parts, .inr (1, [.ref a_terms_parts_items, .int a_terms_parts_size])), (a_terms_parts_items, .inl (cs 0, a_terms_parts_items_n, .inl a_terms_parts_items_f)), (a_terms_became, .inl (cs 0, a_terms_became_n, .inl o_a_terms_became_f)), (b_a_links, .inl (cs 0, o_a_links_n, .inl o_a_links_f)), (b_a_states, .inl (cs 0, o_a_states_n, .inl o_a_states_f)), (a_pairs, .inr (1, [.ref b_a_pairs_items, .int o_a_pairs_size])), (b_a_pairs_items, .inl (cs 0, o_a_pairs_items_n, .inl o_a_pairs_items_f)), (a_joined, .inr (1, [.ref b_a_joined_items, .int o_a_joined_size])), (b_a_joined_items, .inl (cs 0, o_a_joined_items_n, .inl o_a_joined_items_f)), (a_seen, .inr (1, [.ref b_a_seen_items, .int o_a_seen_size])), (b_a_seen_items, .inl (cs 0, o_a_seen_items_n, .inl o_a_seen_items_f)), (a_path, .inr (1, [.ref b_a_path_items, .int o_a_path_size])), (b_a_path_items, .inl (cs 0, o_a_path_items_n, .inl o_a_path_items_f))] t.heap ∧ va_D (va_A [(a, .inr (8, [.ref a_terms, .ref a_links, .ref a_states, .ref a_pairs, .ref a_joined, .ref a_seen, .ref a_path])), (a_terms, .inr (7, [.ref a_terms_shapes, .ref a_terms_values, .ref a_terms_firstParts, .int a_terms_nodes, .ref a_terms_parts, .ref a_terms_variableNames, .ref a_terms_became, .int a_terms_variables, .int a_terms_variablesLack, .int a_terms_symbols, .int a_terms_nodesBefore, .int a_terms_partsBefore, .int a_terms_variablesBefore])), (a_terms_shapes, .inl (cs 0, a_terms_shapes_n, .inl a_terms_shapes_f)), (a_terms_values, .inl (cs 2, a_terms_values_n, .inr (.inl a_terms_values_f))), (a_terms_firstParts, .inl (cs 0, a_terms_firstParts_n, .inl a_terms_firstParts_f)), (a_terms_parts, .inr (1, [.ref a_terms_parts_items, .int a_terms_parts_size])), (a_terms_parts_items, .inl (cs 0, a_terms_parts_items_n, .inl a_terms_parts_items_f)), (a_terms_became, .inl (cs 0, a_terms_became_n, .inl a_terms_became_f)), (a_links, .inl (cs 0, a_links_n, .inl a_links_f)), (a_states, .inl (cs 0, a_states_n, .inl a_states_f)), (a_pairs, .inr (1, [.ref a_pairs_items, .int a_pairs_size])), (a_pairs_items, .inl (cs 0, a_pairs_items_n, .inl a_pairs_items_f)), (a_joined, .inr (1, [.ref a_joined_items, .int a_joined_size])), (a_joined_items, .inl (cs 0, a_joined_items_n, .inl a_joined_items_f)), (a_seen, .inr (1, [.ref a_seen_items, .int a_seen_size])), (a_seen_items, .inl (cs 0, a_seen_items_n, .inl a_seen_items_f)), (a_path, .inr (1, [.ref a_path_items, .int a_path_size])), (a_path_items, .inl (cs 0, a_path_items_n, .inl a_path_items_f))] sz) [(a, .inr (8, [.ref a_terms, .ref b_a_links, .ref b_a_states, .ref a_pairs, .ref a_joined, .ref a_seen, .ref a_path])), (a_terms, .inr (7, [.ref a_terms_shapes, .ref a_terms_values, .ref a_terms_firstParts, .int a_terms_nodes, .ref a_terms_parts, .ref a_terms_variableNames, .ref a_terms_became, .int a_terms_variables, .int a_terms_variablesLack, .int a_terms_symbols, .int a_terms_nodesBefore, .int a_terms_partsBefore, .int a_terms_variablesBefore])), (a_terms_shapes, .inl (cs 0, a_terms_shapes_n, .inl a_terms_shapes_f)), (a_terms_values, .inl (cs 2, a_terms_values_n, .inr (.inl a_terms_values_f))), (a_terms_firstParts, .inl (cs 0, a_terms_firstParts_n, .inl a_terms_firstParts_f)), (a_terms_parts, .inr (1, [.ref a_terms_parts_items, .int a_terms_parts_size])), (a_terms_parts_items, .inl (cs 0, a_terms_parts_items_n, .inl a_terms_parts_items_f)), (a_terms_became, .inl (cs 0, a_terms_became_n, .inl o_a_terms_became_f)), (b_a_links, .inl (cs 0, o_a_links_n, .inl o_a_links_f)), (b_a_states, .inl (cs 0, o_a_states_n, .inl o_a_states_f)), (a_pairs, .inr (1, [.ref b_a_pairs_items, .int o_a_pairs_size])), (b_a_pairs_items, .inl (cs 0, o_a_pairs_items_n, .inl o_a_pairs_items_f)), (a_joined, .inr (1, [.ref b_a_joined_items, .int o_a_joined_size])), (b_a_joined_items, .inl (cs 0, o_a_joined_items_n, .inl o_a_joined_items_f)), (a_seen, .inr (1, [.ref b_a_seen_items, .int o_a_seen_size])), (b_a_seen_items, .inl (cs 0, o_a_seen_items_n, .inl o_a_seen_items_f)), (a_path, .inr (1, [.ref b_a_path_items, .int o_a_path_size])), (b_a_path_items, .inl (cs 0, o_a_path_items_n, .inl o_a_path_items_f))]) (va_A [(a, .inr (8, [.ref a_terms, .ref a_links, .ref a_states, .ref a_pairs, .ref a_joined, .ref a_seen, .ref a_path])), (a_terms, .inr (7, [.ref a_terms_shapes, .ref a_terms_values, .ref a_terms_firstParts, .int a_terms_nodes, .ref a_terms_parts, .ref a_terms_variableNames, .ref a_terms_became, .int a_terms_variables, .int a_terms_variablesLack, .int a_terms_symbols, .int a_terms_nodesBefore, .int a_terms_partsBefore, .int a_terms_variablesBefore])), (a_terms_shapes, .inl (cs 0, a_terms_shapes_n, .inl a_terms_shapes_f)), (a_terms_values, .inl (cs 2, a_terms_values_n, .inr (.inl a_terms_values_f))), (a_terms_firstParts, .inl (cs 0, a_terms_firstParts_n, .inl a_terms_firstParts_f)), (a_terms_parts, .inr (1, [.ref a_terms_parts_items, .int a_terms_parts_size])), (a_terms_parts_items, .inl (cs 0, a_terms_parts_items_n, .inl a_terms_parts_items_f)), (a_terms_became, .inl (cs 0, a_terms_became_n, .inl a_terms_became_f)), (a_links, .inl (cs 0, a_links_n, .inl a_links_f)), (a_states, .inl (cs 0, a_states_n, .inl a_states_f)), (a_pairs, .inr (1, [.ref a_pairs_items, .int a_pairs_size])), (a_pairs_items, .inl (cs 0, a_pairs_items_n, .inl a_pairs_items_f)), (a_joined, .inr (1, [.ref a_joined_items, .int a_joined_size])), (a_joined_items, .inl (cs 0, a_joined_items_n, .inl a_joined_items_f)), (a_seen, .inr (1, [.ref a_seen_items, .int a_seen_size])), (a_seen_items, .inl (cs 0, a_seen_items_n, .inl a_seen_items_f)), (a_path, .inr (1, [.ref a_path_items, .int a_path_size])), (a_path_items, .inl (cs 0, a_path_items_n, .inl a_path_items_f))] sz)) mc ms (va_A [(a, .inr (8, [.ref a_terms, .ref a_links, .ref a_states, .ref a_pairs, .ref a_joined, .ref a_seen, .ref a_path])), (a_terms, .inr (7, [.ref a_terms_shapes, .ref a_terms_values, .ref a_terms_firstParts, .int a_terms_nodes, .ref a_terms_parts, .ref a_terms_variableNames, .ref a_terms_became, .int a_terms_variables, .int a_terms_variablesLack, .int a_terms_symbols, .int a_terms_nodesBefore, .int a_terms_partsBefore, .int a_terms_variablesBefore])), (a_terms_shapes, .inl (cs 0, a_terms_shapes_n, .inl a_terms_shapes_f)), (a_terms_values, .inl (cs 2, a_terms_values_n, .inr (.inl a_terms_values_f))), (a_terms_firstParts, .inl (cs 0, a_terms_firstParts_n, .inl a_terms_firstParts_f)), (a_terms_parts, .inr (1, [.ref a_terms_parts_items, .int a_terms_parts_size])), (a_terms_parts_items, .inl (cs 0, a_terms_parts_items_n, .inl a_terms_parts_items_f)), (a_terms_became, .inl (cs 0, a_terms_became_n, .inl a_terms_became_f)), (a_links, .inl (cs 0, a_links_n, .inl a_links_f)), (a_states, .inl (cs 0, a_states_n, .inl a_states_f)), (a_pairs, .inr (1, [.ref a_pairs_items, .int a_pairs_size])), (a_pairs_items, .inl (cs 0, a_pairs_items_n, .inl a_pairs_items_f)), (a_joined, .inr (1, [.ref a_joined_items, .int a_joined_size])), (a_joined_items, .inl (cs 0, a_joined_items_n, .inl a_joined_items_f)), (a_seen, .inr (1, [.ref a_seen_items, .int a_seen_size])), (a_seen_items, .inl (cs 0, a_seen_items_n, .inl a_seen_items_f)), (a_path, .inr (1, [.ref a_path_items, .int a_path_size])), (a_path_items, .inl (cs 0, a_path_items_n, .inl a_path_items_f))] sz) := by
  refine Met.ofW (cc := b_Unifier_makeSame) (maxL := 4) (ret := (some .boolean)) (by decide) rfl ?_
  intro p e s m args below meth c s₁ B hml hv
  obtain ⟨rfl, hsz, hP, hK, hD0, hgl, hkn, hkr⟩ := hv
  have hx := B.exec
  have hb := B.bytes
  have hr := B.returns
  have hg : ∀ w ∈ GW, w.before ([.ref a, .int x, .int y] : List Value).toArray s = true := fun w hw => atoms_spec (ws := .code y_Unifier_makeSame b_Unifier_makeSame 4 (some .boolean) :: GW) B.pre w (List.mem_cons_of_mem _ hw)
  have hown : s.vm.findClass R_Unifier = some m.cls := findClass_of_methodNamed B.named
  have hlocks := B.notSynchronized
  subst hsz
  have hD := hD0.self (sz := s.heap.size)
  generalize hAe : va_A [(a, .inr (8, [.ref a_terms, .ref a_links, .ref a_states, .ref a_pairs, .ref a_joined, .ref a_seen, .ref a_path])), (a_terms, .inr (7, [.ref a_terms_shapes, .ref a_terms_values, .ref a_terms_firstParts, .int a_terms_nodes, .ref a_terms_parts, .ref a_terms_variableNames, .ref a_terms_became, .int a_terms_variables, .int a_terms_variablesLack, .int a_terms_symbols, .int a_terms_nodesBefore, .int a_terms_partsBefore, .int a_terms_variablesBefore])), (a_terms_shapes, .inl (cs 0, a_terms_shapes_n, .inl a_terms_shapes_f)), (a_terms_values, .inl (cs 2, a_terms_values_n, .inr (.inl a_terms_values_f))), (a_terms_firstParts, .inl (cs 0, a_terms_firstParts_n, .inl a_terms_firstParts_f)), (a_terms_parts, .inr (1, [.ref a_terms_parts_items, .int a_terms_parts_size])), (a_terms_parts_items, .inl (cs 0, a_terms_parts_items_n, .inl a_terms_parts_items_f)), (a_terms_became, .inl (cs 0, a_terms_became_n, .inl a_terms_became_f)), (a_links, .inl (cs 0, a_links_n, .inl a_links_f)), (a_states, .inl (cs 0, a_states_n, .inl a_states_f)), (a_pairs, .inr (1, [.ref a_pairs_items, .int a_pairs_size])), (a_pairs_items, .inl (cs 0, a_pairs_items_n, .inl a_pairs_items_f)), (a_joined, .inr (1, [.ref a_joined_items, .int a_joined_size])), (a_joined_items, .inl (cs 0, a_joined_items_n, .inl a_joined_items_f)), (a_seen, .inr (1, [.ref a_seen_items, .int a_seen_size])), (a_seen_items, .inl (cs 0, a_seen_items_n, .inl a_seen_items_f)), (a_path, .inr (1, [.ref a_path_items, .int a_path_size])), (a_path_items, .inl (cs 0, a_path_items_n, .inl a_path_items_f))] s.heap.size = A at hD hkn ⊢
  have hA : ∀ q : Nat, s.heap.size ≤ q → A q := fun q h => by rw [← hAe]; exact Or.inr h
  have hS : va_S A s.heap s.heap [] := va_S.rf
  have hP : va_P g classes [(a, .inr (8, [.ref a_terms, .ref a_links, .ref a_states, .ref a_pairs, .ref a_joined, .ref a_seen, .ref a_path])), (a_terms, .inr (7, [.ref a_terms_shapes, .ref a_terms_values, .ref a_terms_firstParts, .int a_terms_nodes, .ref a_terms_parts, .ref a_terms_variableNames, .ref a_terms_became, .int a_terms_variables, .int a_terms_variablesLack, .int a_terms_symbols, .int a_terms_nodesBefore, .int a_terms_partsBefore, .int a_terms_variablesBefore])), (a_terms_shapes, .inl (cs 0, a_terms_shapes_n, .inl a_terms_shapes_f)), (a_terms_values, .inl (cs 2, a_terms_values_n, .inr (.inl a_terms_values_f))), (a_terms_firstParts, .inl (cs 0, a_terms_firstParts_n, .inl a_terms_firstParts_f)), (a_terms_parts, .inr (1, [.ref a_terms_parts_items, .int a_terms_parts_size])), (a_terms_parts_items, .inl (cs 0, a_terms_parts_items_n, .inl a_terms_parts_items_f)), (a_terms_became, .inl (cs 0, a_terms_became_n, .inl a_terms_became_f)), (a_links, .inl (cs 0, a_links_n, .inl a_links_f)), (a_states, .inl (cs 0, a_states_n, .inl a_states_f)), (a_pairs, .inr (1, [.ref a_pairs_items, .int a_pairs_size])), (a_pairs_items, .inl (cs 0, a_pairs_items_n, .inl a_pairs_items_f)), (a_joined, .inr (1, [.ref a_joined_items, .int a_joined_size])), (a_joined_items, .inl (cs 0, a_joined_items_n, .inl a_joined_items_f)), (a_seen, .inr (1, [.ref a_seen_items, .int a_seen_size])), (a_seen_items, .inl (cs 0, a_seen_items_n, .inl a_seen_items_f)), (a_path, .inr (1, [.ref a_path_items, .int a_path_size])), (a_path_items, .inl (cs 0, a_path_items_n, .inl a_path_items_f))] s.heap := hP
  have hl := lv_entry ([.ref a, .int x, .int y]) (n := 4) (Nat.le_of_ble_eq_true rfl)
  rw [lg_entry_eq]
  generalize (lg_sl ([.ref a, .int x, .int y]) ++ List.replicate (4 - (lg_sl ([.ref a, .int x, .int y])).length) Slot.unset).toArray = ls at hl ⊢
  have hl : lv_has ls 4 [(0, .ref a), (1, .int x), (2, .int y)] := hl
  refine gq (fun Q hQ => ?_)
  obtain ⟨H, hH⟩ : ∃ H : Heap, H = s.heap := ⟨_, rfl⟩
  rw [← hH] at hP
  have hS : va_S A s.heap H [] := by rw [hH]; exact hS
  refine W.eqH hH ?_
  obtain ⟨locs, hlc⟩ : ∃ L : List Loc, L = [] := ⟨_, rfl⟩
  rw [← hlc] at hS ⊢
  unfold p_Unifier_makeSame at hok
  refine lv_aload_n hx hb d_Unifier_makeSame_0 rfl (lv_at hl 0 rfl) ?_
  obtain ⟨⟨⟨a_links_n_1, a_links_f_1, a_states_n_1, a_states_f_1⟩, mk1, sk1⟩, hc1, hok⟩ := bd_some hok
  dsimp only at hok
  obtain ⟨m1, s1, hok, hmc1, hms1⟩ := al_some hok
  obtain ⟨hPc, hDc, hFc⟩ := cut0 (wc := [(a, .inr (8, [.ref a_terms, .ref a_links, .ref a_states, .ref a_pairs, .ref a_joined, .ref a_seen, .ref a_path])), (a_terms, .inr (7, [.ref a_terms_shapes, .ref a_terms_values, .ref a_terms_firstParts, .int a_terms_nodes, .ref a_terms_parts, .ref a_terms_variableNames, .ref a_terms_became, .int a_terms_variables, .int a_terms_variablesLack, .int a_terms_symbols, .int a_terms_nodesBefore, .int a_terms_partsBefore, .int a_terms_variablesBefore])), (a_links, .inl (cs 0, a_links_n, .inl a_links_f)), (a_states, .inl (cs 0, a_states_n, .inl a_states_f))]) hP hD hS hA [0, 1, 8, 9] (by decide) rfl
  refine va_callv (va_runV (As := []) (rest := []) ⟨hx, hb, hml, hown, hg⟩ (c_Unifier_makeRoom l g cs ka a_pairs a_joined a_seen a_path a_terms_shapes a_terms_values a_terms_firstParts a_terms_parts a_terms_variableNames a_terms_became a a_terms a_links a_states H.size a_terms_nodes a_terms_variables a_terms_variablesLack a_terms_symbols a_terms_nodesBefore a_terms_partsBefore a_terms_variablesBefore a_links_n a_links_f a_states_n a_states_f a_links_n_1 a_links_f_1 a_states_n_1 a_states_f_1 mk1 sk1 hc1) (cwV (C := R_Unifier) 0 hg (gw_V wd_384 wd_385 wd_386 wd_350 wd_383) rfl rfl rfl (by decide +kernel) ⟨Nat.le_of_ble_eq_true rfl, Nat.le_of_ble_eq_true rfl⟩) ⟨gP_blind, va_recv (q0 := 0) (ci := 8) (q := (R_Unifier, F_Unifier, 7)) hK hP rfl rfl, gP_pre hPc hDc hK hgl hkn hkr hS hFc⟩ rfl rfl hl.1 rfl (lv_room (Nat.le_of_ble_eq_true rfl)) d_Unifier_makeSame_1 ⟨show 0 + mk1 ≤ mc from by omega, show 0 + sk1 ≤ ms from by omega⟩) hS (fun q _ h => hFc q h) hFc (fun u t H locs ht hvm hr1 hB hz1 hk1 hS => ?_)
  rw [ht] at hB
  obtain ⟨a_links_1, a_states_1, hP1, hD1⟩ := hB
  obtain ⟨hP, hD⟩ := jn_A hP hD [0, 1, 8, 9] [2, 3, 4, 5, 6, 7, 10, 11, 12, 13, 14, 15, 16, 17] rfl rfl (by decide) (by decide) hk1 hFc hP1 hD1
  obtain ⟨hP, hD⟩ : PD g A H [(a_terms_shapes, .inl (cs 0, a_terms_shapes_n, .inl a_terms_shapes_f)), (a_terms_values, .inl (cs 2, a_terms_values_n, .inr (.inl a_terms_values_f))), (a_terms_firstParts, .inl (cs 0, a_terms_firstParts_n, .inl a_terms_firstParts_f)), (a_terms_parts, .inr (1, [.ref a_terms_parts_items, .int a_terms_parts_size])), (a_terms_parts_items, .inl (cs 0, a_terms_parts_items_n, .inl a_terms_parts_items_f)), (a_terms_became, .inl (cs 0, a_terms_became_n, .inl a_terms_became_f)), (a_pairs, .inr (1, [.ref a_pairs_items, .int a_pairs_size])), (a_pairs_items, .inl (cs 0, a_pairs_items_n, .inl a_pairs_items_f)), (a_joined, .inr (1, [.ref a_joined_items, .int a_joined_size])), (a_joined_items, .inl (cs 0, a_joined_items_n, .inl a_joined_items_f)), (a_seen, .inr (1, [.ref a_seen_items, .int a_seen_size])), (a_seen_items, .inl (cs 0, a_seen_items_n, .inl a_seen_items_f)), (a_path, .inr (1, [.ref a_path_items, .int a_path_size])), (a_path_items, .inl (cs 0, a_path_items_n, .inl a_path_items_f)), (a, .inr (8, [.ref a_terms, .ref a_links_1, .ref a_states_1, .ref a_pairs, .ref a_joined, .ref a_seen, .ref a_path])), (a_terms, .inr (7, [.ref a_terms_shapes, .ref a_terms_values, .ref a_terms_firstParts, .int a_terms_nodes, .ref a_terms_parts, .ref a_terms_variableNames, .ref a_terms_became, .int a_terms_variables, .int a_terms_variablesLack, .int a_terms_symbols, .int a_terms_nodesBefore, .int a_terms_partsBefore, .int a_terms_variablesBefore])), (a_links_1, .inl (cs 0, a_links_n_1, .inl a_links_f_1)), (a_states_1, .inl (cs 0, a_states_n_1, .inl a_states_f_1))] := ⟨hP, hD⟩
  refine lv_aload_n hx hb d_Unifier_makeSame_4 rfl (lv_at hl 0 rfl) ?_
  refine lv_iload_n hx hb d_Unifier_makeSame_5 rfl (lv_at hl 1 rfl) ?_
  refine lv_iload_n hx hb d_Unifier_makeSame_6 rfl (lv_at hl 2 rfl) ?_
  refine lv_iconst (v := 1) hx hb d_Unifier_makeSame_7 (by decide) ?_
  obtain ⟨⟨⟨r2, a_links_f_2, a_pairs_size_2, a_pairs_items_n_2, a_pairs_items_f_2, a_joined_size_2, a_joined_items_n_2, a_joined_items_f_2⟩, mk2, sk2⟩, hc2, hok⟩ := bd_some hok
  dsimp only at hok
  obtain ⟨m2, s2, hok, hmc2, hms2⟩ := al_some hok
  obtain ⟨hPc, hDc, hFc⟩ := cut0 (wc := [(a, .inr (8, [.ref a_terms, .ref a_links_1, .ref a_states_1, .ref a_pairs, .ref a_joined, .ref a_seen, .ref a_path])), (a_terms, .inr (7, [.ref a_terms_shapes, .ref a_terms_values, .ref a_terms_firstParts, .int a_terms_nodes, .ref a_terms_parts, .ref a_terms_variableNames, .ref a_terms_became, .int a_terms_variables, .int a_terms_variablesLack, .int a_terms_symbols, .int a_terms_nodesBefore, .int a_terms_partsBefore, .int a_terms_variablesBefore])), (a_terms_shapes, .inl (cs 0, a_terms_shapes_n, .inl a_terms_shapes_f)), (a_terms_values, .inl (cs 2, a_terms_values_n, .inr (.inl a_terms_values_f))), (a_terms_firstParts, .inl (cs 0, a_terms_firstParts_n, .inl a_terms_firstParts_f)), (a_terms_parts, .inr (1, [.ref a_terms_parts_items, .int a_terms_parts_size])), (a_terms_parts_items, .inl (cs 0, a_terms_parts_items_n, .inl a_terms_parts_items_f)), (a_terms_became, .inl (cs 0, a_terms_became_n, .inl a_terms_became_f)), (a_links_1, .inl (cs 0, a_links_n_1, .inl a_links_f_1)), (a_pairs, .inr (1, [.ref a_pairs_items, .int a_pairs_size])), (a_pairs_items, .inl (cs 0, a_pairs_items_n, .inl a_pairs_items_f)), (a_joined, .inr (1, [.ref a_joined_items, .int a_joined_size])), (a_joined_items, .inl (cs 0, a_joined_items_n, .inl a_joined_items_f))]) hP hD hS hA [14, 15, 0, 1, 2, 3, 4, 5, 16, 6, 7, 8, 9] (by decide) rfl
  refine va_calli (va_runV (As := [.int x, .int y, .int 1]) (rest := []) ⟨hx, hb, hml, hown, hg⟩ (c_Unifier_joinAll l g cs ka a_states_1 a_seen a_path a_terms_variableNames a a_terms a_terms_shapes a_terms_values a_terms_firstParts a_terms_parts a_terms_parts_items a_terms_became a_links_1 a_pairs a_pairs_items a_joined a_joined_items H.size n x y (1 : Int32) a_terms_nodes a_terms_variables a_terms_variablesLack a_terms_symbols a_terms_nodesBefore a_terms_partsBefore a_terms_variablesBefore a_terms_shapes_n a_terms_shapes_f a_terms_values_n a_terms_values_f a_terms_firstParts_n a_terms_firstParts_f a_terms_parts_size a_terms_parts_items_n a_terms_parts_items_f a_terms_became_n a_terms_became_f a_links_n_1 a_links_f_1 a_pairs_size a_pairs_items_n a_pairs_items_f a_joined_size a_joined_items_n a_joined_items_f r2 a_links_f_2 a_pairs_size_2 a_pairs_items_n_2 a_pairs_items_f_2 a_joined_size_2 a_joined_items_n_2 a_joined_items_f_2 mk2 sk2 hc2) (cwV (C := R_Unifier) 3 hg (gw_V wd_388 wd_389 wd_390 wd_350 wd_387) rfl rfl rfl (by decide +kernel) ⟨Nat.le_of_ble_eq_true rfl, Nat.le_of_ble_eq_true rfl⟩) ⟨gP_blind, va_recv (q0 := 14) (ci := 8) (q := (R_Unifier, F_Unifier, 7)) hK hP rfl rfl, gP_pre hPc hDc hK hgl hkn hkr hS hFc⟩ rfl rfl hl.1 rfl (lv_room (Nat.le_of_ble_eq_true rfl)) d_Unifier_makeSame_8 ⟨show 0 + mk1 + mk2 ≤ mc from by omega, show 0 + sk1 + sk2 ≤ ms from by omega⟩) hS (fun q _ h => hFc q h) hFc (fun r2' u t H locs ht hvm hr2 hB hz1 hk1 hS => ?_)
  subst hr2
  rw [ht] at hB
  obtain ⟨a_pairs_items_2, a_joined_items_2, hP1, hD1⟩ := hB
  obtain ⟨hP, hD⟩ := jn_A hP hD [14, 15, 0, 1, 2, 3, 4, 5, 16, 6, 7, 8, 9] [10, 11, 12, 13, 17] rfl rfl (by decide) (by decide) hk1 hFc hP1 hD1
  obtain ⟨hP, hD⟩ : PD g A H [(a_seen, .inr (1, [.ref a_seen_items, .int a_seen_size])), (a_seen_items, .inl (cs 0, a_seen_items_n, .inl a_seen_items_f)), (a_path, .inr (1, [.ref a_path_items, .int a_path_size])), (a_path_items, .inl (cs 0, a_path_items_n, .inl a_path_items_f)), (a_states_1, .inl (cs 0, a_states_n_1, .inl a_states_f_1)), (a, .inr (8, [.ref a_terms, .ref a_links_1, .ref a_states_1, .ref a_pairs, .ref a_joined, .ref a_seen, .ref a_path])), (a_terms, .inr (7, [.ref a_terms_shapes, .ref a_terms_values, .ref a_terms_firstParts, .int a_terms_nodes, .ref a_terms_parts, .ref a_terms_variableNames, .ref a_terms_became, .int a_terms_variables, .int a_terms_variablesLack, .int a_terms_symbols, .int a_terms_nodesBefore, .int a_terms_partsBefore, .int a_terms_variablesBefore])), (a_terms_shapes, .inl (cs 0, a_terms_shapes_n, .inl a_terms_shapes_f)), (a_terms_values, .inl (cs 2, a_terms_values_n, .inr (.inl a_terms_values_f))), (a_terms_firstParts, .inl (cs 0, a_terms_firstParts_n, .inl a_terms_firstParts_f)), (a_terms_parts, .inr (1, [.ref a_terms_parts_items, .int a_terms_parts_size])), (a_terms_parts_items, .inl (cs 0, a_terms_parts_items_n, .inl a_terms_parts_items_f)), (a_terms_became, .inl (cs 0, a_terms_became_n, .inl a_terms_became_f)), (a_links_1, .inl (cs 0, a_links_n_1, .inl a_links_f_2)), (a_pairs, .inr (1, [.ref a_pairs_items_2, .int a_pairs_size_2])), (a_pairs_items_2, .inl (cs 0, a_pairs_items_n_2, .inl a_pairs_items_f_2)), (a_joined, .inr (1, [.ref a_joined_items_2, .int a_joined_size_2])), (a_joined_items_2, .inl (cs 0, a_joined_items_n_2, .inl a_joined_items_f_2))] := ⟨hP, hD⟩
  refine lv_if_eq hx hb d_Unifier_makeSame_11 rfl (fun h3 => ?_) (fun h3 => ?_)
  · rw [if_pos h3] at hok
    refine lv_iconst (v := 0) hx hb d_Unifier_makeSame_26 (by decide) ?_
    refine lv_istore_n hx hb d_Unifier_makeSame_27 rfl hl (by decide) rfl (fun ls hl => ?_)
    have hl : lv_has ls 4 [(3, .int 0), (0, .ref a), (1, .int x), (2, .int y)] := hl
    refine lv_iload_n hx hb d_Unifier_makeSame_28 rfl (lv_at hl 0 rfl) ?_
    refine lv_if_eq hx hb d_Unifier_makeSame_29 rfl (fun h4 => ?_) (fun h4 => ?_)
    · refine lv_aload_n hx hb d_Unifier_makeSame_36 rfl (lv_at hl 1 rfl) ?_
      obtain ⟨⟨a_links_f_5, a_states_f_5, a_pairs_size_5, a_joined_size_5, a_seen_size_5, a_path_size_5⟩, hc5, hok⟩ := bd_some hok
      dsimp only at hok
      obtain ⟨hPc, hDc, hFc⟩ := cut0 (wc := [(a, .inr (8, [.ref a_terms, .ref a_links_1, .ref a_states_1, .ref a_pairs, .ref a_joined, .ref a_seen, .ref a_path])), (a_links_1, .inl (cs 0, a_links_n_1, .inl a_links_f_2)), (a_states_1, .inl (cs 0, a_states_n_1, .inl a_states_f_1)), (a_pairs, .inr (1, [.ref a_pairs_items_2, .int a_pairs_size_2])), (a_joined, .inr (1, [.ref a_joined_items_2, .int a_joined_size_2])), (a_joined_items_2, .inl (cs 0, a_joined_items_n_2, .inl a_joined_items_f_2)), (a_seen, .inr (1, [.ref a_seen_items, .int a_seen_size])), (a_seen_items, .inl (cs 0, a_seen_items_n, .inl a_seen_items_f)), (a_path, .inr (1, [.ref a_path_items, .int a_path_size]))]) hP hD hS hA [5, 13, 4, 14, 16, 17, 0, 1, 2] (by decide) rfl
      refine va_callv (va_runV (As := []) (rest := []) ⟨hx, hb, hml, hown, hg⟩ (c_Unifier_clear l g cs ka a_terms a_pairs_items_2 a_path_items a a_links_1 a_states_1 a_pairs a_joined a_joined_items_2 a_seen a_seen_items a_path H.size n a_links_n_1 a_links_f_2 a_states_n_1 a_states_f_1 a_pairs_size_2 a_joined_size_2 a_joined_items_n_2 a_joined_items_f_2 a_seen_size a_seen_items_n a_seen_items_f a_path_size a_links_f_5 a_states_f_5 a_pairs_size_5 a_joined_size_5 a_seen_size_5 a_path_size_5 hc5) (cwV (C := R_Unifier) 0 hg (gw_V wd_392 wd_393 wd_394 wd_350 wd_391) rfl rfl rfl (by decide +kernel) ⟨Nat.le_of_ble_eq_true rfl, Nat.le_of_ble_eq_true rfl⟩) ⟨gP_blind, va_recv (q0 := 5) (ci := 8) (q := (R_Unifier, F_Unifier, 7)) hK hP rfl rfl, gP_pre hPc hDc hK hgl hkn hkr hS hFc⟩ rfl rfl hl.1 rfl (lv_room (Nat.le_of_ble_eq_true rfl)) d_Unifier_makeSame_37 ⟨show 0 + mk1 + mk2 + 0 ≤ mc from by omega, show 0 + sk1 + sk2 + 0 ≤ ms from by omega⟩) hS (fun q _ h => hFc q h) hFc (fun u t H locs ht hvm hr5 hB hz1 hk1 hS => ?_)
      rw [ht] at hB
      obtain ⟨hP1, hD1⟩ := hB
      obtain ⟨hP, hD⟩ := jn_A hP hD [5, 13, 4, 14, 16, 17, 0, 1, 2] [3, 6, 7, 8, 9, 10, 11, 12, 15] rfl rfl (by decide) (by decide) hk1 hFc hP1 hD1
      obtain ⟨hP, hD⟩ : PD g A H [(a_path_items, .inl (cs 0, a_path_items_n, .inl a_path_items_f)), (a_terms, .inr (7, [.ref a_terms_shapes, .ref a_terms_values, .ref a_terms_firstParts, .int a_terms_nodes, .ref a_terms_parts, .ref a_terms_variableNames, .ref a_terms_became, .int a_terms_variables, .int a_terms_variablesLack, .int a_terms_symbols, .int a_terms_nodesBefore, .int a_terms_partsBefore, .int a_terms_variablesBefore])), (a_terms_shapes, .inl (cs 0, a_terms_shapes_n, .inl a_terms_shapes_f)), (a_terms_values, .inl (cs 2, a_terms_values_n, .inr (.inl a_terms_values_f))), (a_terms_firstParts, .inl (cs 0, a_terms_firstParts_n, .inl a_terms_firstParts_f)), (a_terms_parts, .inr (1, [.ref a_terms_parts_items, .int a_terms_parts_size])), (a_terms_parts_items, .inl (cs 0, a_terms_parts_items_n, .inl a_terms_parts_items_f)), (a_terms_became, .inl (cs 0, a_terms_became_n, .inl a_terms_became_f)), (a_pairs_items_2, .inl (cs 0, a_pairs_items_n_2, .inl a_pairs_items_f_2)), (a, .inr (8, [.ref a_terms, .ref a_links_1, .ref a_states_1, .ref a_pairs, .ref a_joined, .ref a_seen, .ref a_path])), (a_links_1, .inl (cs 0, a_links_n_1, .inl a_links_f_5)), (a_states_1, .inl (cs 0, a_states_n_1, .inl a_states_f_5)), (a_pairs, .inr (1, [.ref a_pairs_items_2, .int a_pairs_size_5])), (a_joined, .inr (1, [.ref a_joined_items_2, .int a_joined_size_5])), (a_joined_items_2, .inl (cs 0, a_joined_items_n_2, .inl a_joined_items_f_2)), (a_seen, .inr (1, [.ref a_seen_items, .int a_seen_size_5])), (a_seen_items, .inl (cs 0, a_seen_items_n, .inl a_seen_items_f)), (a_path, .inr (1, [.ref a_path_items, .int a_path_size_5]))] := ⟨hP, hD⟩
      refine lv_iload_n hx hb d_Unifier_makeSame_40 rfl (lv_at hl 0 rfl) ?_
      obtain ⟨hq, hw⟩ := Prod.mk.inj (Option.some.inj hok)
      obtain ⟨hmc0, hms0⟩ := Prod.mk.inj hw
      obtain ⟨hq0, hq⟩ := Prod.mk.inj hq
      obtain ⟨hq1, hq⟩ := Prod.mk.inj hq
      obtain ⟨hq2, hq⟩ := Prod.mk.inj hq
      obtain ⟨hq3, hq⟩ := Prod.mk.inj hq
      obtain ⟨hq4, hq⟩ := Prod.mk.inj hq
      obtain ⟨hq5, hq⟩ := Prod.mk.inj hq
      obtain ⟨hq6, hq⟩ := Prod.mk.inj hq
      obtain ⟨hq7, hq⟩ := Prod.mk.inj hq
      obtain ⟨hq8, hq⟩ := Prod.mk.inj hq
      obtain ⟨hq9, hq⟩ := Prod.mk.inj hq
      obtain ⟨hq10, hq⟩ := Prod.mk.inj hq
      obtain ⟨hq11, hq⟩ := Prod.mk.inj hq
      obtain ⟨hq12, hq⟩ := Prod.mk.inj hq
      obtain ⟨hq13, hq⟩ := Prod.mk.inj hq
      obtain ⟨hq14, hq⟩ := Prod.mk.inj hq
      obtain ⟨hq15, hq⟩ := Prod.mk.inj hq
      obtain ⟨hq16, hq⟩ := Prod.mk.inj hq
      have hq17 := hq
      subst hq0
      subst hq1
      subst hq2
      subst hq3
      subst hq4
      subst hq5
      subst hq6
      subst hq7
      subst hq8
      subst hq9
      subst hq10
      subst hq11
      subst hq12
      subst hq13
      subst hq14
      subst hq15
      subst hq16
      subst hq17
      obtain ⟨hP9, hD9⟩ := sub2 (ws' := [(a, .inr (8, [.ref a_terms, .ref a_links_1, .ref a_states_1, .ref a_pairs, .ref a_joined, .ref a_seen, .ref a_path])), (a_terms, .inr (7, [.ref a_terms_shapes, .ref a_terms_values, .ref a_terms_firstParts, .int a_terms_nodes, .ref a_terms_parts, .ref a_terms_variableNames, .ref a_terms_became, .int a_terms_variables, .int a_terms_variablesLack, .int a_terms_symbols, .int a_terms_nodesBefore, .int a_terms_partsBefore, .int a_terms_variablesBefore])), (a_terms_shapes, .inl (cs 0, a_terms_shapes_n, .inl a_terms_shapes_f)), (a_terms_values, .inl (cs 2, a_terms_values_n, .inr (.inl a_terms_values_f))), (a_terms_firstParts, .inl (cs 0, a_terms_firstParts_n, .inl a_terms_firstParts_f)), (a_terms_parts, .inr (1, [.ref a_terms_parts_items, .int a_terms_parts_size])), (a_terms_parts_items, .inl (cs 0, a_terms_parts_items_n, .inl a_terms_parts_items_f)), (a_terms_became, .inl (cs 0, a_terms_became_n, .inl a_terms_became_f)), (a_links_1, .inl (cs 0, a_links_n_1, .inl a_links_f_5)), (a_states_1, .inl (cs 0, a_states_n_1, .inl a_states_f_5)), (a_pairs, .inr (1, [.ref a_pairs_items_2, .int a_pairs_size_5])), (a_pairs_items_2, .inl (cs 0, a_pairs_items_n_2, .inl a_pairs_items_f_2)), (a_joined, .inr (1, [.ref a_joined_items_2, .int a_joined_size_5])), (a_joined_items_2, .inl (cs 0, a_joined_items_n_2, .inl a_joined_items_f_2)), (a_seen, .inr (1, [.ref a_seen_items, .int a_seen_size_5])), (a_seen_items, .inl (cs 0, a_seen_items_n, .inl a_seen_items_f)), (a_path, .inr (1, [.ref a_path_items, .int a_path_size_5])), (a_path_items, .inl (cs 0, a_path_items_n, .inl a_path_items_f))]) hP hD [9, 1, 2, 3, 4, 5, 6, 7, 10, 11, 12, 8, 13, 14, 15, 16, 17, 0] rfl (by decide) rfl
      refine W.widen (k := mc) (n := ms) (by omega) (by omega) ?_
      rw [hQ]
      exact W.zret (v := 0) hx hb hr rfl (fun t ht hW => ⟨⟨_, (), rfl, rfl, a_links_1, a_states_1, a_pairs_items_2, a_joined_items_2, a_seen_items, a_path_items, by rw [ht]; exact hP9, hD9⟩, hS.F ht⟩) hS.2.2 d_Unifier_makeSame_41
    · exact absurd h4 (by decide)
  · rw [if_neg h3] at hok
    refine lv_aload_n hx hb d_Unifier_makeSame_14 rfl (lv_at hl 0 rfl) ?_
    refine lv_iload_n hx hb d_Unifier_makeSame_15 rfl (lv_at hl 1 rfl) ?_
    obtain ⟨⟨⟨r6, a_links_f_6, a_states_f_6, a_seen_size_6, a_seen_items_n_6, a_seen_items_f_6, a_path_size_6, a_path_items_n_6, a_path_items_f_6⟩, mk6, sk6⟩, hc6, hok⟩ := bd_some hok
    dsimp only at hok
    obtain ⟨m6, s6, hok, hmc6, hms6⟩ := al_some hok
    obtain ⟨hPc, hDc, hFc⟩ := cut0 (wc := [(a, .inr (8, [.ref a_terms, .ref a_links_1, .ref a_states_1, .ref a_pairs, .ref a_joined, .ref a_seen, .ref a_path])), (a_terms, .inr (7, [.ref a_terms_shapes, .ref a_terms_values, .ref a_terms_firstParts, .int a_terms_nodes, .ref a_terms_parts, .ref a_terms_variableNames, .ref a_terms_became, .int a_terms_variables, .int a_terms_variablesLack, .int a_terms_symbols, .int a_terms_nodesBefore, .int a_terms_partsBefore, .int a_terms_variablesBefore])), (a_terms_shapes, .inl (cs 0, a_terms_shapes_n, .inl a_terms_shapes_f)), (a_terms_firstParts, .inl (cs 0, a_terms_firstParts_n, .inl a_terms_firstParts_f)), (a_terms_parts, .inr (1, [.ref a_terms_parts_items, .int a_terms_parts_size])), (a_terms_parts_items, .inl (cs 0, a_terms_parts_items_n, .inl a_terms_parts_items_f)), (a_terms_became, .inl (cs 0, a_terms_became_n, .inl a_terms_became_f)), (a_links_1, .inl (cs 0, a_links_n_1, .inl a_links_f_2)), (a_states_1, .inl (cs 0, a_states_n_1, .inl a_states_f_1)), (a_seen, .inr (1, [.ref a_seen_items, .int a_seen_size])), (a_seen_items, .inl (cs 0, a_seen_items_n, .inl a_seen_items_f)), (a_path, .inr (1, [.ref a_path_items, .int a_path_size])), (a_path_items, .inl (cs 0, a_path_items_n, .inl a_path_items_f))]) hP hD hS hA [5, 6, 7, 9, 10, 11, 12, 13, 4, 0, 1, 2, 3] (by decide) rfl
    refine va_calli (va_runV (As := [.int x]) (rest := []) ⟨hx, hb, hml, hown, hg⟩ (c_Unifier_standsInNone l g cs ka a_pairs a_joined a_terms_values a_terms_variableNames a a_terms a_terms_shapes a_terms_firstParts a_terms_parts a_terms_parts_items a_terms_became a_links_1 a_states_1 a_seen a_seen_items a_path a_path_items H.size n x a_terms_nodes a_terms_variables a_terms_variablesLack a_terms_symbols a_terms_nodesBefore a_terms_partsBefore a_terms_variablesBefore a_terms_shapes_n a_terms_shapes_f a_terms_firstParts_n a_terms_firstParts_f a_terms_parts_size a_terms_parts_items_n a_terms_parts_items_f a_terms_became_n a_terms_became_f a_links_n_1 a_links_f_2 a_states_n_1 a_states_f_1 a_seen_size a_seen_items_n a_seen_items_f a_path_size a_path_items_n a_path_items_f r6 a_links_f_6 a_states_f_6 a_seen_size_6 a_seen_items_n_6 a_seen_items_f_6 a_path_size_6 a_path_items_n_6 a_path_items_f_6 mk6 sk6 hc6) (cwV (C := R_Unifier) 1 hg (gw_V wd_396 wd_397 wd_398 wd_350 wd_395) rfl rfl rfl (by decide +kernel) ⟨Nat.le_of_ble_eq_true rfl, Nat.le_of_ble_eq_true rfl⟩) ⟨gP_blind, va_recv (q0 := 5) (ci := 8) (q := (R_Unifier, F_Unifier, 7)) hK hP rfl rfl, gP_pre hPc hDc hK hgl hkn hkr hS hFc⟩ rfl rfl hl.1 rfl (lv_room (Nat.le_of_ble_eq_true rfl)) d_Unifier_makeSame_16 ⟨show 0 + mk1 + mk2 + mk6 ≤ mc from by omega, show 0 + sk1 + sk2 + sk6 ≤ ms from by omega⟩) hS (fun q _ h => hFc q h) hFc (fun r6' u t H locs ht hvm hr6 hB hz1 hk1 hS => ?_)
    subst hr6
    rw [ht] at hB
    obtain ⟨a_seen_items_6, a_path_items_6, hP1, hD1⟩ := hB
    obtain ⟨hP, hD⟩ := jn_A hP hD [5, 6, 7, 9, 10, 11, 12, 13, 4, 0, 1, 2, 3] [8, 14, 15, 16, 17] rfl rfl (by decide) (by decide) hk1 hFc hP1 hD1
    obtain ⟨hP, hD⟩ : PD g A H [(a_terms_values, .inl (cs 2, a_terms_values_n, .inr (.inl a_terms_values_f))), (a_pairs, .inr (1, [.ref a_pairs_items_2, .int a_pairs_size_2])), (a_pairs_items_2, .inl (cs 0, a_pairs_items_n_2, .inl a_pairs_items_f_2)), (a_joined, .inr (1, [.ref a_joined_items_2, .int a_joined_size_2])), (a_joined_items_2, .inl (cs 0, a_joined_items_n_2, .inl a_joined_items_f_2)), (a, .inr (8, [.ref a_terms, .ref a_links_1, .ref a_states_1, .ref a_pairs, .ref a_joined, .ref a_seen, .ref a_path])), (a_terms, .inr (7, [.ref a_terms_shapes, .ref a_terms_values, .ref a_terms_firstParts, .int a_terms_nodes, .ref a_terms_parts, .ref a_terms_variableNames, .ref a_terms_became, .int a_terms_variables, .int a_terms_variablesLack, .int a_terms_symbols, .int a_terms_nodesBefore, .int a_terms_partsBefore, .int a_terms_variablesBefore])), (a_terms_shapes, .inl (cs 0, a_terms_shapes_n, .inl a_terms_shapes_f)), (a_terms_firstParts, .inl (cs 0, a_terms_firstParts_n, .inl a_terms_firstParts_f)), (a_terms_parts, .inr (1, [.ref a_terms_parts_items, .int a_terms_parts_size])), (a_terms_parts_items, .inl (cs 0, a_terms_parts_items_n, .inl a_terms_parts_items_f)), (a_terms_became, .inl (cs 0, a_terms_became_n, .inl a_terms_became_f)), (a_links_1, .inl (cs 0, a_links_n_1, .inl a_links_f_6)), (a_states_1, .inl (cs 0, a_states_n_1, .inl a_states_f_6)), (a_seen, .inr (1, [.ref a_seen_items_6, .int a_seen_size_6])), (a_seen_items_6, .inl (cs 0, a_seen_items_n_6, .inl a_seen_items_f_6)), (a_path, .inr (1, [.ref a_path_items_6, .int a_path_size_6])), (a_path_items_6, .inl (cs 0, a_path_items_n_6, .inl a_path_items_f_6))] := ⟨hP, hD⟩
    refine lv_if_eq hx hb d_Unifier_makeSame_19 rfl (fun h7 => ?_) (fun h7 => ?_)
    · rw [if_pos h7] at hok
      refine lv_iconst (v := 0) hx hb d_Unifier_makeSame_26 (by decide) ?_
      refine lv_istore_n hx hb d_Unifier_makeSame_27 rfl hl (by decide) rfl (fun ls hl => ?_)
      have hl : lv_has ls 4 [(3, .int 0), (0, .ref a), (1, .int x), (2, .int y)] := hl
      refine lv_iload_n hx hb d_Unifier_makeSame_28 rfl (lv_at hl 0 rfl) ?_
      refine lv_if_eq hx hb d_Unifier_makeSame_29 rfl (fun h8 => ?_) (fun h8 => ?_)
      · refine lv_aload_n hx hb d_Unifier_makeSame_36 rfl (lv_at hl 1 rfl) ?_
        obtain ⟨⟨a_links_f_9, a_states_f_9, a_pairs_size_9, a_joined_size_9, a_seen_size_9, a_path_size_9⟩, hc9, hok⟩ := bd_some hok
        dsimp only at hok
        obtain ⟨hPc, hDc, hFc⟩ := cut0 (wc := [(a, .inr (8, [.ref a_terms, .ref a_links_1, .ref a_states_1, .ref a_pairs, .ref a_joined, .ref a_seen, .ref a_path])), (a_links_1, .inl (cs 0, a_links_n_1, .inl a_links_f_6)), (a_states_1, .inl (cs 0, a_states_n_1, .inl a_states_f_6)), (a_pairs, .inr (1, [.ref a_pairs_items_2, .int a_pairs_size_2])), (a_joined, .inr (1, [.ref a_joined_items_2, .int a_joined_size_2])), (a_joined_items_2, .inl (cs 0, a_joined_items_n_2, .inl a_joined_items_f_2)), (a_seen, .inr (1, [.ref a_seen_items_6, .int a_seen_size_6])), (a_seen_items_6, .inl (cs 0, a_seen_items_n_6, .inl a_seen_items_f_6)), (a_path, .inr (1, [.ref a_path_items_6, .int a_path_size_6]))]) hP hD hS hA [5, 12, 13, 1, 3, 4, 14, 15, 16] (by decide) rfl
        refine va_callv (va_runV (As := []) (rest := []) ⟨hx, hb, hml, hown, hg⟩ (c_Unifier_clear l g cs ka a_terms a_pairs_items_2 a_path_items_6 a a_links_1 a_states_1 a_pairs a_joined a_joined_items_2 a_seen a_seen_items_6 a_path H.size n a_links_n_1 a_links_f_6 a_states_n_1 a_states_f_6 a_pairs_size_2 a_joined_size_2 a_joined_items_n_2 a_joined_items_f_2 a_seen_size_6 a_seen_items_n_6 a_seen_items_f_6 a_path_size_6 a_links_f_9 a_states_f_9 a_pairs_size_9 a_joined_size_9 a_seen_size_9 a_path_size_9 hc9) (cwV (C := R_Unifier) 0 hg (gw_V wd_392 wd_393 wd_394 wd_350 wd_391) rfl rfl rfl (by decide +kernel) ⟨Nat.le_of_ble_eq_true rfl, Nat.le_of_ble_eq_true rfl⟩) ⟨gP_blind, va_recv (q0 := 5) (ci := 8) (q := (R_Unifier, F_Unifier, 7)) hK hP rfl rfl, gP_pre hPc hDc hK hgl hkn hkr hS hFc⟩ rfl rfl hl.1 rfl (lv_room (Nat.le_of_ble_eq_true rfl)) d_Unifier_makeSame_37 ⟨show 0 + mk1 + mk2 + mk6 + 0 ≤ mc from by omega, show 0 + sk1 + sk2 + sk6 + 0 ≤ ms from by omega⟩) hS (fun q _ h => hFc q h) hFc (fun u t H locs ht hvm hr9 hB hz1 hk1 hS => ?_)
        rw [ht] at hB
        obtain ⟨hP1, hD1⟩ := hB
        obtain ⟨hP, hD⟩ := jn_A hP hD [5, 12, 13, 1, 3, 4, 14, 15, 16] [0, 2, 6, 7, 8, 9, 10, 11, 17] rfl rfl (by decide) (by decide) hk1 hFc hP1 hD1
        obtain ⟨hP, hD⟩ : PD g A H [(a_terms_values, .inl (cs 2, a_terms_values_n, .inr (.inl a_terms_values_f))), (a_pairs_items_2, .inl (cs 0, a_pairs_items_n_2, .inl a_pairs_items_f_2)), (a_terms, .inr (7, [.ref a_terms_shapes, .ref a_terms_values, .ref a_terms_firstParts, .int a_terms_nodes, .ref a_terms_parts, .ref a_terms_variableNames, .ref a_terms_became, .int a_terms_variables, .int a_terms_variablesLack, .int a_terms_symbols, .int a_terms_nodesBefore, .int a_terms_partsBefore, .int a_terms_variablesBefore])), (a_terms_shapes, .inl (cs 0, a_terms_shapes_n, .inl a_terms_shapes_f)), (a_terms_firstParts, .inl (cs 0, a_terms_firstParts_n, .inl a_terms_firstParts_f)), (a_terms_parts, .inr (1, [.ref a_terms_parts_items, .int a_terms_parts_size])), (a_terms_parts_items, .inl (cs 0, a_terms_parts_items_n, .inl a_terms_parts_items_f)), (a_terms_became, .inl (cs 0, a_terms_became_n, .inl a_terms_became_f)), (a_path_items_6, .inl (cs 0, a_path_items_n_6, .inl a_path_items_f_6)), (a, .inr (8, [.ref a_terms, .ref a_links_1, .ref a_states_1, .ref a_pairs, .ref a_joined, .ref a_seen, .ref a_path])), (a_links_1, .inl (cs 0, a_links_n_1, .inl a_links_f_9)), (a_states_1, .inl (cs 0, a_states_n_1, .inl a_states_f_9)), (a_pairs, .inr (1, [.ref a_pairs_items_2, .int a_pairs_size_9])), (a_joined, .inr (1, [.ref a_joined_items_2, .int a_joined_size_9])), (a_joined_items_2, .inl (cs 0, a_joined_items_n_2, .inl a_joined_items_f_2)), (a_seen, .inr (1, [.ref a_seen_items_6, .int a_seen_size_9])), (a_seen_items_6, .inl (cs 0, a_seen_items_n_6, .inl a_seen_items_f_6)), (a_path, .inr (1, [.ref a_path_items_6, .int a_path_size_9]))] := ⟨hP, hD⟩
        refine lv_iload_n hx hb d_Unifier_makeSame_40 rfl (lv_at hl 0 rfl) ?_
        obtain ⟨hq, hw⟩ := Prod.mk.inj (Option.some.inj hok)
        obtain ⟨hmc0, hms0⟩ := Prod.mk.inj hw
        obtain ⟨hq0, hq⟩ := Prod.mk.inj hq
        obtain ⟨hq1, hq⟩ := Prod.mk.inj hq
        obtain ⟨hq2, hq⟩ := Prod.mk.inj hq
        obtain ⟨hq3, hq⟩ := Prod.mk.inj hq
        obtain ⟨hq4, hq⟩ := Prod.mk.inj hq
        obtain ⟨hq5, hq⟩ := Prod.mk.inj hq
        obtain ⟨hq6, hq⟩ := Prod.mk.inj hq
        obtain ⟨hq7, hq⟩ := Prod.mk.inj hq
        obtain ⟨hq8, hq⟩ := Prod.mk.inj hq
        obtain ⟨hq9, hq⟩ := Prod.mk.inj hq
        obtain ⟨hq10, hq⟩ := Prod.mk.inj hq
        obtain ⟨hq11, hq⟩ := Prod.mk.inj hq
        obtain ⟨hq12, hq⟩ := Prod.mk.inj hq
        obtain ⟨hq13, hq⟩ := Prod.mk.inj hq
        obtain ⟨hq14, hq⟩ := Prod.mk.inj hq
        obtain ⟨hq15, hq⟩ := Prod.mk.inj hq
        obtain ⟨hq16, hq⟩ := Prod.mk.inj hq
        have hq17 := hq
        subst hq0
        subst hq1
        subst hq2
        subst hq3
        subst hq4
        subst hq5
        subst hq6
        subst hq7
        subst hq8
        subst hq9
        subst hq10
        subst hq11
        subst hq12
        subst hq13
        subst hq14
        subst hq15
        subst hq16
        subst hq17
        obtain ⟨hP9, hD9⟩ := sub2 (ws' := [(a, .inr (8, [.ref a_terms, .ref a_links_1, .ref a_states_1, .ref a_pairs, .ref a_joined, .ref a_seen, .ref a_path])), (a_terms, .inr (7, [.ref a_terms_shapes, .ref a_terms_values, .ref a_terms_firstParts, .int a_terms_nodes, .ref a_terms_parts, .ref a_terms_variableNames, .ref a_terms_became, .int a_terms_variables, .int a_terms_variablesLack, .int a_terms_symbols, .int a_terms_nodesBefore, .int a_terms_partsBefore, .int a_terms_variablesBefore])), (a_terms_shapes, .inl (cs 0, a_terms_shapes_n, .inl a_terms_shapes_f)), (a_terms_values, .inl (cs 2, a_terms_values_n, .inr (.inl a_terms_values_f))), (a_terms_firstParts, .inl (cs 0, a_terms_firstParts_n, .inl a_terms_firstParts_f)), (a_terms_parts, .inr (1, [.ref a_terms_parts_items, .int a_terms_parts_size])), (a_terms_parts_items, .inl (cs 0, a_terms_parts_items_n, .inl a_terms_parts_items_f)), (a_terms_became, .inl (cs 0, a_terms_became_n, .inl a_terms_became_f)), (a_links_1, .inl (cs 0, a_links_n_1, .inl a_links_f_9)), (a_states_1, .inl (cs 0, a_states_n_1, .inl a_states_f_9)), (a_pairs, .inr (1, [.ref a_pairs_items_2, .int a_pairs_size_9])), (a_pairs_items_2, .inl (cs 0, a_pairs_items_n_2, .inl a_pairs_items_f_2)), (a_joined, .inr (1, [.ref a_joined_items_2, .int a_joined_size_9])), (a_joined_items_2, .inl (cs 0, a_joined_items_n_2, .inl a_joined_items_f_2)), (a_seen, .inr (1, [.ref a_seen_items_6, .int a_seen_size_9])), (a_seen_items_6, .inl (cs 0, a_seen_items_n_6, .inl a_seen_items_f_6)), (a_path, .inr (1, [.ref a_path_items_6, .int a_path_size_9])), (a_path_items_6, .inl (cs 0, a_path_items_n_6, .inl a_path_items_f_6))]) hP hD [9, 2, 3, 0, 4, 5, 6, 7, 10, 11, 12, 1, 13, 14, 15, 16, 17, 8] rfl (by decide) rfl
        refine W.widen (k := mc) (n := ms) (by omega) (by omega) ?_
        rw [hQ]
        exact W.zret (v := 0) hx hb hr rfl (fun t ht hW => ⟨⟨_, (), rfl, rfl, a_links_1, a_states_1, a_pairs_items_2, a_joined_items_2, a_seen_items_6, a_path_items_6, by rw [ht]; exact hP9, hD9⟩, hS.F ht⟩) hS.2.2 d_Unifier_makeSame_41
      · exact absurd h8 (by decide)
    · rw [if_neg h7] at hok
      refine lv_iconst (v := 1) hx hb d_Unifier_makeSame_22 (by decide) ?_
      refine lv_goto hx hb d_Unifier_makeSame_23 rfl ?_
      refine lv_istore_n hx hb d_Unifier_makeSame_27 rfl hl (by decide) rfl (fun ls hl => ?_)
      have hl : lv_has ls 4 [(3, .int 1), (0, .ref a), (1, .int x), (2, .int y)] := hl
      refine lv_iload_n hx hb d_Unifier_makeSame_28 rfl (lv_at hl 0 rfl) ?_
      refine lv_if_eq hx hb d_Unifier_makeSame_29 rfl (fun h10 => ?_) (fun h10 => ?_)
      · exact absurd h10 (by decide)
      · refine lv_aload_n hx hb d_Unifier_makeSame_32 rfl (lv_at hl 1 rfl) ?_
        obtain ⟨⟨a_terms_became_f_11, a_links_f_11⟩, hc11, hok⟩ := bd_some hok
        dsimp only at hok
        obtain ⟨hPc, hDc, hFc⟩ := cut0 (wc := [(a, .inr (8, [.ref a_terms, .ref a_links_1, .ref a_states_1, .ref a_pairs, .ref a_joined, .ref a_seen, .ref a_path])), (a_terms, .inr (7, [.ref a_terms_shapes, .ref a_terms_values, .ref a_terms_firstParts, .int a_terms_nodes, .ref a_terms_parts, .ref a_terms_variableNames, .ref a_terms_became, .int a_terms_variables, .int a_terms_variablesLack, .int a_terms_symbols, .int a_terms_nodesBefore, .int a_terms_partsBefore, .int a_terms_variablesBefore])), (a_terms_became, .inl (cs 0, a_terms_became_n, .inl a_terms_became_f)), (a_links_1, .inl (cs 0, a_links_n_1, .inl a_links_f_6))]) hP hD hS hA [5, 6, 11, 12] (by decide) rfl
        refine va_callv (va_runV (As := []) (rest := []) ⟨hx, hb, hml, hown, hg⟩ (c_Unifier_bindJoined l g cs ka a_states_1 a_pairs a_joined a_seen a_path a_terms_shapes a_terms_values a_terms_firstParts a_terms_parts a_terms_variableNames a a_terms a_terms_became a_links_1 H.size n a_terms_nodes a_terms_variables a_terms_variablesLack a_terms_symbols a_terms_nodesBefore a_terms_partsBefore a_terms_variablesBefore a_terms_became_n a_terms_became_f a_links_n_1 a_links_f_6 a_terms_became_f_11 a_links_f_11 hc11) (cwV (C := R_Unifier) 0 hg (gw_V wd_400 wd_401 wd_402 wd_350 wd_399) rfl rfl rfl (by decide +kernel) ⟨Nat.le_of_ble_eq_true rfl, Nat.le_of_ble_eq_true rfl⟩) ⟨gP_blind, va_recv (q0 := 5) (ci := 8) (q := (R_Unifier, F_Unifier, 7)) hK hP rfl rfl, gP_pre hPc hDc hK hgl hkn hkr hS hFc⟩ rfl rfl hl.1 rfl (lv_room (Nat.le_of_ble_eq_true rfl)) d_Unifier_makeSame_33 ⟨show 0 + mk1 + mk2 + mk6 + 0 ≤ mc from by omega, show 0 + sk1 + sk2 + sk6 + 0 ≤ ms from by omega⟩) hS (fun q _ h => hFc q h) hFc (fun u t H locs ht hvm hr11 hB hz1 hk1 hS => ?_)
        rw [ht] at hB
        obtain ⟨hP1, hD1⟩ := hB
        obtain ⟨hP, hD⟩ := jn_A hP hD [5, 6, 11, 12] [0, 1, 2, 3, 4, 7, 8, 9, 10, 13, 14, 15, 16, 17] rfl rfl (by decide) (by decide) hk1 hFc hP1 hD1
        obtain ⟨hP, hD⟩ : PD g A H [(a_terms_values, .inl (cs 2, a_terms_values_n, .inr (.inl a_terms_values_f))), (a_pairs, .inr (1, [.ref a_pairs_items_2, .int a_pairs_size_2])), (a_pairs_items_2, .inl (cs 0, a_pairs_items_n_2, .inl a_pairs_items_f_2)), (a_joined, .inr (1, [.ref a_joined_items_2, .int a_joined_size_2])), (a_joined_items_2, .inl (cs 0, a_joined_items_n_2, .inl a_joined_items_f_2)), (a_terms_shapes, .inl (cs 0, a_terms_shapes_n, .inl a_terms_shapes_f)), (a_terms_firstParts, .inl (cs 0, a_terms_firstParts_n, .inl a_terms_firstParts_f)), (a_terms_parts, .inr (1, [.ref a_terms_parts_items, .int a_terms_parts_size])), (a_terms_parts_items, .inl (cs 0, a_terms_parts_items_n, .inl a_terms_parts_items_f)), (a_states_1, .inl (cs 0, a_states_n_1, .inl a_states_f_6)), (a_seen, .inr (1, [.ref a_seen_items_6, .int a_seen_size_6])), (a_seen_items_6, .inl (cs 0, a_seen_items_n_6, .inl a_seen_items_f_6)), (a_path, .inr (1, [.ref a_path_items_6, .int a_path_size_6])), (a_path_items_6, .inl (cs 0, a_path_items_n_6, .inl a_path_items_f_6)), (a, .inr (8, [.ref a_terms, .ref a_links_1, .ref a_states_1, .ref a_pairs, .ref a_joined, .ref a_seen, .ref a_path])), (a_terms, .inr (7, [.ref a_terms_shapes, .ref a_terms_values, .ref a_terms_firstParts, .int a_terms_nodes, .ref a_terms_parts, .ref a_terms_variableNames, .ref a_terms_became, .int a_terms_variables, .int a_terms_variablesLack, .int a_terms_symbols, .int a_terms_nodesBefore, .int a_terms_partsBefore, .int a_terms_variablesBefore])), (a_terms_became, .inl (cs 0, a_terms_became_n, .inl a_terms_became_f_11)), (a_links_1, .inl (cs 0, a_links_n_1, .inl a_links_f_11))] := ⟨hP, hD⟩
        refine lv_aload_n hx hb d_Unifier_makeSame_36 rfl (lv_at hl 1 rfl) ?_
        obtain ⟨⟨a_links_f_12, a_states_f_12, a_pairs_size_12, a_joined_size_12, a_seen_size_12, a_path_size_12⟩, hc12, hok⟩ := bd_some hok
        dsimp only at hok
        obtain ⟨hPc, hDc, hFc⟩ := cut0 (wc := [(a, .inr (8, [.ref a_terms, .ref a_links_1, .ref a_states_1, .ref a_pairs, .ref a_joined, .ref a_seen, .ref a_path])), (a_links_1, .inl (cs 0, a_links_n_1, .inl a_links_f_11)), (a_states_1, .inl (cs 0, a_states_n_1, .inl a_states_f_6)), (a_pairs, .inr (1, [.ref a_pairs_items_2, .int a_pairs_size_2])), (a_joined, .inr (1, [.ref a_joined_items_2, .int a_joined_size_2])), (a_joined_items_2, .inl (cs 0, a_joined_items_n_2, .inl a_joined_items_f_2)), (a_seen, .inr (1, [.ref a_seen_items_6, .int a_seen_size_6])), (a_seen_items_6, .inl (cs 0, a_seen_items_n_6, .inl a_seen_items_f_6)), (a_path, .inr (1, [.ref a_path_items_6, .int a_path_size_6]))]) hP hD hS hA [14, 17, 9, 1, 3, 4, 10, 11, 12] (by decide) rfl
        refine va_callv (va_runV (As := []) (rest := []) ⟨hx, hb, hml, hown, hg⟩ (c_Unifier_clear l g cs ka a_terms a_pairs_items_2 a_path_items_6 a a_links_1 a_states_1 a_pairs a_joined a_joined_items_2 a_seen a_seen_items_6 a_path H.size n a_links_n_1 a_links_f_11 a_states_n_1 a_states_f_6 a_pairs_size_2 a_joined_size_2 a_joined_items_n_2 a_joined_items_f_2 a_seen_size_6 a_seen_items_n_6 a_seen_items_f_6 a_path_size_6 a_links_f_12 a_states_f_12 a_pairs_size_12 a_joined_size_12 a_seen_size_12 a_path_size_12 hc12) (cwV (C := R_Unifier) 0 hg (gw_V wd_392 wd_393 wd_394 wd_350 wd_391) rfl rfl rfl (by decide +kernel) ⟨Nat.le_of_ble_eq_true rfl, Nat.le_of_ble_eq_true rfl⟩) ⟨gP_blind, va_recv (q0 := 14) (ci := 8) (q := (R_Unifier, F_Unifier, 7)) hK hP rfl rfl, gP_pre hPc hDc hK hgl hkn hkr hS hFc⟩ rfl rfl hl.1 rfl (lv_room (Nat.le_of_ble_eq_true rfl)) d_Unifier_makeSame_37 ⟨show 0 + mk1 + mk2 + mk6 + 0 + 0 ≤ mc from by omega, show 0 + sk1 + sk2 + sk6 + 0 + 0 ≤ ms from by omega⟩) hS (fun q _ h => hFc q h) hFc (fun u t H locs ht hvm hr12 hB hz1 hk1 hS => ?_)
        rw [ht] at hB
        obtain ⟨hP1, hD1⟩ := hB
        obtain ⟨hP, hD⟩ := jn_A hP hD [14, 17, 9, 1, 3, 4, 10, 11, 12] [0, 2, 5, 6, 7, 8, 13, 15, 16] rfl rfl (by decide) (by decide) hk1 hFc hP1 hD1
        obtain ⟨hP, hD⟩ : PD g A H [(a_terms_values, .inl (cs 2, a_terms_values_n, .inr (.inl a_terms_values_f))), (a_pairs_items_2, .inl (cs 0, a_pairs_items_n_2, .inl a_pairs_items_f_2)), (a_terms_shapes, .inl (cs 0, a_terms_shapes_n, .inl a_terms_shapes_f)), (a_terms_firstParts, .inl (cs 0, a_terms_firstParts_n, .inl a_terms_firstParts_f)), (a_terms_parts, .inr (1, [.ref a_terms_parts_items, .int a_terms_parts_size])), (a_terms_parts_items, .inl (cs 0, a_terms_parts_items_n, .inl a_terms_parts_items_f)), (a_path_items_6, .inl (cs 0, a_path_items_n_6, .inl a_path_items_f_6)), (a_terms, .inr (7, [.ref a_terms_shapes, .ref a_terms_values, .ref a_terms_firstParts, .int a_terms_nodes, .ref a_terms_parts, .ref a_terms_variableNames, .ref a_terms_became, .int a_terms_variables, .int a_terms_variablesLack, .int a_terms_symbols, .int a_terms_nodesBefore, .int a_terms_partsBefore, .int a_terms_variablesBefore])), (a_terms_became, .inl (cs 0, a_terms_became_n, .inl a_terms_became_f_11)), (a, .inr (8, [.ref a_terms, .ref a_links_1, .ref a_states_1, .ref a_pairs, .ref a_joined, .ref a_seen, .ref a_path])), (a_links_1, .inl (cs 0, a_links_n_1, .inl a_links_f_12)), (a_states_1, .inl (cs 0, a_states_n_1, .inl a_states_f_12)), (a_pairs, .inr (1, [.ref a_pairs_items_2, .int a_pairs_size_12])), (a_joined, .inr (1, [.ref a_joined_items_2, .int a_joined_size_12])), (a_joined_items_2, .inl (cs 0, a_joined_items_n_2, .inl a_joined_items_f_2)), (a_seen, .inr (1, [.ref a_seen_items_6, .int a_seen_size_12])), (a_seen_items_6, .inl (cs 0, a_seen_items_n_6, .inl a_seen_items_f_6)), (a_path, .inr (1, [.ref a_path_items_6, .int a_path_size_12]))] := ⟨hP, hD⟩
        refine lv_iload_n hx hb d_Unifier_makeSame_40 rfl (lv_at hl 0 rfl) ?_
        obtain ⟨hq, hw⟩ := Prod.mk.inj (Option.some.inj hok)
        obtain ⟨hmc0, hms0⟩ := Prod.mk.inj hw
        obtain ⟨hq0, hq⟩ := Prod.mk.inj hq
        obtain ⟨hq1, hq⟩ := Prod.mk.inj hq
        obtain ⟨hq2, hq⟩ := Prod.mk.inj hq
        obtain ⟨hq3, hq⟩ := Prod.mk.inj hq
        obtain ⟨hq4, hq⟩ := Prod.mk.inj hq
        obtain ⟨hq5, hq⟩ := Prod.mk.inj hq
        obtain ⟨hq6, hq⟩ := Prod.mk.inj hq
        obtain ⟨hq7, hq⟩ := Prod.mk.inj hq
        obtain ⟨hq8, hq⟩ := Prod.mk.inj hq
        obtain ⟨hq9, hq⟩ := Prod.mk.inj hq
        obtain ⟨hq10, hq⟩ := Prod.mk.inj hq
        obtain ⟨hq11, hq⟩ := Prod.mk.inj hq
        obtain ⟨hq12, hq⟩ := Prod.mk.inj hq
        obtain ⟨hq13, hq⟩ := Prod.mk.inj hq
        obtain ⟨hq14, hq⟩ := Prod.mk.inj hq
        obtain ⟨hq15, hq⟩ := Prod.mk.inj hq
        obtain ⟨hq16, hq⟩ := Prod.mk.inj hq
        have hq17 := hq
        subst hq0
        subst hq1
        subst hq2
        subst hq3
        subst hq4
        subst hq5
        subst hq6
        subst hq7
        subst hq8
        subst hq9
        subst hq10
        subst hq11
        subst hq12
        subst hq13
        subst hq14
        subst hq15
        subst hq16
        subst hq17
        obtain ⟨hP9, hD9⟩ := sub2 (ws' := [(a, .inr (8, [.ref a_terms, .ref a_links_1, .ref a_states_1, .ref a_pairs, .ref a_joined, .ref a_seen, .ref a_path])), (a_terms, .inr (7, [.ref a_terms_shapes, .ref a_terms_values, .ref a_terms_firstParts, .int a_terms_nodes, .ref a_terms_parts, .ref a_terms_variableNames, .ref a_terms_became, .int a_terms_variables, .int a_terms_variablesLack, .int a_terms_symbols, .int a_terms_nodesBefore, .int a_terms_partsBefore, .int a_terms_variablesBefore])), (a_terms_shapes, .inl (cs 0, a_terms_shapes_n, .inl a_terms_shapes_f)), (a_terms_values, .inl (cs 2, a_terms_values_n, .inr (.inl a_terms_values_f))), (a_terms_firstParts, .inl (cs 0, a_terms_firstParts_n, .inl a_terms_firstParts_f)), (a_terms_parts, .inr (1, [.ref a_terms_parts_items, .int a_terms_parts_size])), (a_terms_parts_items, .inl (cs 0, a_terms_parts_items_n, .inl a_terms_parts_items_f)), (a_terms_became, .inl (cs 0, a_terms_became_n, .inl a_terms_became_f_11)), (a_links_1, .inl (cs 0, a_links_n_1, .inl a_links_f_12)), (a_states_1, .inl (cs 0, a_states_n_1, .inl a_states_f_12)), (a_pairs, .inr (1, [.ref a_pairs_items_2, .int a_pairs_size_12])), (a_pairs_items_2, .inl (cs 0, a_pairs_items_n_2, .inl a_pairs_items_f_2)), (a_joined, .inr (1, [.ref a_joined_items_2, .int a_joined_size_12])), (a_joined_items_2, .inl (cs 0, a_joined_items_n_2, .inl a_joined_items_f_2)), (a_seen, .inr (1, [.ref a_seen_items_6, .int a_seen_size_12])), (a_seen_items_6, .inl (cs 0, a_seen_items_n_6, .inl a_seen_items_f_6)), (a_path, .inr (1, [.ref a_path_items_6, .int a_path_size_12])), (a_path_items_6, .inl (cs 0, a_path_items_n_6, .inl a_path_items_f_6))]) hP hD [9, 7, 2, 0, 3, 4, 5, 8, 10, 11, 12, 1, 13, 14, 15, 16, 17, 6] rfl (by decide) rfl
        refine W.widen (k := mc) (n := ms) (by omega) (by omega) ?_
        rw [hQ]
        exact W.zret (v := 1) hx hb hr rfl (fun t ht hW => ⟨⟨_, (), rfl, rfl, a_links_1, a_states_1, a_pairs_items_2, a_joined_items_2, a_seen_items_6, a_path_items_6, by rw [ht]; exact hP9, hD9⟩, hS.F ht⟩) hS.2.2 d_Unifier_makeSame_41

theorem d_Unifier_areSame_0 : decode b_Unifier_areSame 0 = .ok (.aload_n 0, 1) := by decide +kernel
theorem d_Unifier_areSame_1 : decode b_Unifier_areSame 1 = .ok (.invokevirtual 38, 3) := by decide +kernel
theorem d_Unifier_areSame_4 : decode b_Unifier_areSame 4 = .ok (.aload_n 0, 1) := by decide +kernel
theorem d_Unifier_areSame_5 : decode b_Unifier_areSame 5 = .ok (.iload_n 1, 1) := by decide +kernel
theorem d_Unifier_areSame_6 : decode b_Unifier_areSame 6 = .ok (.iload_n 2, 1) := by decide +kernel
theorem d_Unifier_areSame_7 : decode b_Unifier_areSame 7 = .ok (.iconst 0, 1) := by decide +kernel
theorem d_Unifier_areSame_8 : decode b_Unifier_areSame 8 = .ok (.invokevirtual 41, 3) := by decide +kernel
theorem d_Unifier_areSame_11 : decode b_Unifier_areSame 11 = .ok (.istore_n 3, 1) := by decide +kernel
theorem d_Unifier_areSame_12 : decode b_Unifier_areSame 12 = .ok (.aload_n 0, 1) := by decide +kernel
theorem d_Unifier_areSame_13 : decode b_Unifier_areSame 13 = .ok (.invokevirtual 52, 3) := by decide +kernel
theorem d_Unifier_areSame_16 : decode b_Unifier_areSame 16 = .ok (.iload_n 3, 1) := by decide +kernel
theorem d_Unifier_areSame_17 : decode b_Unifier_areSame 17 = .ok (.ireturn, 1) := by decide +kernel
def p_Unifier_areSame (n : Nat) (x : Int32) (y : Int32) (a_terms_nodes : Int32) (a_terms_variables : Int32) (a_terms_variablesLack : Int32) (a_terms_symbols : Int32) (a_terms_nodesBefore : Int32) (a_terms_partsBefore : Int32) (a_terms_variablesBefore : Int32) (a_terms_shapes_n : Nat) (a_terms_shapes_f : Nat → Int32) (a_terms_values_n : Nat) (a_terms_values_f : Nat → Int64) (a_terms_firstParts_n : Nat) (a_terms_firstParts_f : Nat → Int32) (a_terms_parts_size : Int32) (a_terms_parts_items_n : Nat) (a_terms_parts_items_f : Nat → Int32) (a_terms_became_n : Nat) (a_terms_became_f : Nat → Int32) (a_links_n : Nat) (a_links_f : Nat → Int32) (a_states_n : Nat) (a_states_f : Nat → Int32) (a_pairs_size : Int32) (a_pairs_items_n : Nat) (a_pairs_items_f : Nat → Int32) (a_joined_size : Int32) (a_joined_items_n : Nat) (a_joined_items_f : Nat → Int32) (a_seen_size : Int32) (a_seen_items_n : Nat) (a_seen_items_f : Nat → Int32) (a_path_size : Int32) : Option ((Int32 × Nat × (Nat → Int32) × Nat × (Nat → Int32) × Int32 × Nat × (Nat → Int32) × Int32 × Nat × (Nat → Int32) × Int32 × Int32) × Nat × Nat) := (p_Unifier_makeRoom a_terms_nodes a_terms_variables a_terms_variablesLack a_terms_symbols a_terms_nodesBefore a_terms_partsBefore a_terms_variablesBefore a_links_n a_links_f a_states_n a_states_f).bind (fun ((a_links_n_1, a_links_f_1, a_states_n_1, a_states_f_1), mk1, sk1) => al mk1 sk1 ((p_Unifier_joinAll n x y (0 : Int32) a_terms_nodes a_terms_variables a_terms_variablesLack a_terms_symbols a_terms_nodesBefore a_terms_partsBefore a_terms_variablesBefore a_terms_shapes_n a_terms_shapes_f a_terms_values_n a_terms_values_f a_terms_firstParts_n a_terms_firstParts_f a_terms_parts_size a_terms_parts_items_n a_terms_parts_items_f a_terms_became_n a_terms_became_f a_links_n_1 a_links_f_1 a_pairs_size a_pairs_items_n a_pairs_items_f a_joined_size a_joined_items_n a_joined_items_f).bind (fun ((r2, a_links_f_2, a_pairs_size_2, a_pairs_items_n_2, a_pairs_items_f_2, a_joined_size_2, a_joined_items_n_2, a_joined_items_f_2), mk2, sk2) => al mk2 sk2 ((p_Unifier_clear n a_links_n_1 a_links_f_2 a_states_n_1 a_states_f_1 a_pairs_size_2 a_joined_size_2 a_joined_items_n_2 a_joined_items_f_2 a_seen_size a_seen_items_n a_seen_items_f a_path_size).bind (fun (a_links_f_3, a_states_f_3, a_pairs_size_3, a_joined_size_3, a_seen_size_3, a_path_size_3) => ck (zab r2) (some ((r2, a_links_n_1, a_links_f_3, a_states_n_1, a_states_f_3, a_pairs_size_3, a_pairs_items_n_2, a_pairs_items_f_2, a_joined_size_3, a_joined_items_n_2, a_joined_items_f_2, a_seen_size_3, a_path_size_3), 0, 0)))))))
set_option maxHeartbeats 4000000 in
set_option maxRecDepth 100000 in
theorem c_Unifier_areSame (l : Launch) (g : va_G) (cs : Nat → ClassId) (ka : Nat → Nat) (a_terms_variableNames : Nat) (a_path_items : Nat) (a a_terms a_terms_shapes a_terms_values a_terms_firstParts a_terms_parts a_terms_parts_items a_terms_became a_links a_states a_pairs a_pairs_items a_joined a_joined_items a_seen a_seen_items a_path : Nat) (sz : Nat) (n : Nat) (x : Int32) (y : Int32) (a_terms_nodes : Int32) (a_terms_variables : Int32) (a_terms_variablesLack : Int32) (a_terms_symbols : Int32) (a_terms_nodesBefore : Int32) (a_terms_partsBefore : Int32) (a_terms_variablesBefore : Int32) (a_terms_shapes_n : Nat) (a_terms_shapes_f : Nat → Int32) (a_terms_values_n : Nat) (a_terms_values_f : Nat → Int64) (a_terms_firstParts_n : Nat) (a_terms_firstParts_f : Nat → Int32) (a_terms_parts_size : Int32) (a_terms_parts_items_n : Nat) (a_terms_parts_items_f : Nat → Int32) (a_terms_became_n : Nat) (a_terms_became_f : Nat → Int32) (a_links_n : Nat) (a_links_f : Nat → Int32) (a_states_n : Nat) (a_states_f : Nat → Int32) (a_pairs_size : Int32) (a_pairs_items_n : Nat) (a_pairs_items_f : Nat → Int32) (a_joined_size : Int32) (a_joined_items_n : Nat) (a_joined_items_f : Nat → Int32) (a_seen_size : Int32) (a_seen_items_n : Nat) (a_seen_items_f : Nat → Int32) (a_path_size : Int32) (r : Int32) (o_a_links_n : Nat) (o_a_links_f : Nat → Int32) (o_a_states_n : Nat) (o_a_states_f : Nat → Int32) (o_a_pairs_size : Int32) (o_a_pairs_items_n : Nat) (o_a_pairs_items_f : Nat → Int32) (o_a_joined_size : Int32) (o_a_joined_items_n : Nat) (o_a_joined_items_f : Nat → Int32) (o_a_seen_size : Int32) (o_a_path_size : Int32) (mc ms : Nat) (hok : p_Unifier_areSame n x y a_terms_nodes a_terms_variables a_terms_variablesLack a_terms_symbols a_terms_nodesBefore a_terms_partsBefore a_terms_variablesBefore a_terms_shapes_n a_terms_shapes_f a_terms_values_n a_terms_values_f a_terms_firstParts_n a_terms_firstParts_f a_terms_parts_size a_terms_parts_items_n a_terms_parts_items_f a_terms_became_n a_terms_became_f a_links_n a_links_f a_states_n a_states_f a_pairs_size a_pairs_items_n a_pairs_items_f a_joined_size a_joined_items_n a_joined_items_f a_seen_size a_seen_items_n a_seen_items_f a_path_size = some ((r, o_a_links_n, o_a_links_f, o_a_states_n, o_a_states_f, o_a_pairs_size, o_a_pairs_items_n, o_a_pairs_items_f, o_a_joined_size, o_a_joined_items_n, o_a_joined_items_f, o_a_seen_size, o_a_path_size), mc, ms)) : Met l y_Unifier_areSame (.code y_Unifier_areSame b_Unifier_areSame 4 (some .boolean) :: GW) { frames := 6, cells := mc, slots := ms, locals := 215 } (va_Pc [.ref a, .int x, .int y] (gP g cs ka [(a, .inr (8, [.ref a_terms, .ref a_links, .ref a_states, .ref a_pairs, .ref a_joined, .ref a_seen, .ref a_path])), (a_terms, .inr (7, [.ref a_terms_shapes, .ref a_terms_values, .ref a_terms_firstParts, .int a_terms_nodes, .ref a_terms_parts, .ref a_terms_variableNames, .ref a_terms_became, .int a_terms_variables, .int a_terms_variablesLack, .int a_terms_symbols, .int a_terms_nodesBefore, .int a_terms_partsBefore, .int a_terms_variablesBefore])), (a_terms_shapes, .inl (cs 0, a_terms_shapes_n, .inl a_terms_shapes_f)), (a_terms_values, .inl (cs 2, a_terms_values_n, .inr (.inl a_terms_values_f))), (a_terms_firstParts, .inl (cs 0, a_terms_firstParts_n, .inl a_terms_firstParts_f)), (a_terms_parts, .inr (1, [.ref a_terms_parts_items, .int a_terms_parts_size])), (a_terms_parts_items, .inl (cs 0, a_terms_parts_items_n, .inl a_terms_parts_items_f)), (a_terms_became, .inl (cs 0, a_terms_became_n, .inl a_terms_became_f)), (a_links, .inl (cs 0, a_links_n, .inl a_links_f)), (a_states, .inl (cs 0, a_states_n, .inl a_states_f)), (a_pairs, .inr (1, [.ref a_pairs_items, .int a_pairs_size])), (a_pairs_items, .inl (cs 0, a_pairs_items_n, .inl a_pairs_items_f)), (a_joined, .inr (1, [.ref a_joined_items, .int a_joined_size])), (a_joined_items, .inl (cs 0, a_joined_items_n, .inl a_joined_items_f)), (a_seen, .inr (1, [.ref a_seen_items, .int a_seen_size])), (a_seen_items, .inl (cs 0, a_seen_items_n, .inl a_seen_items_f)), (a_path, .inr (1, [.ref a_path_items, .int a_path_size]))] sz)) (va_Qi (fun (r' : Int32) (_ : Unit) => r = r') (fun _ t => ∃ b_a_links b_a_states b_a_pairs_items b_a_joined_items : Nat, va_P g classes [(a, .inr (8, [.ref a_terms, .ref b_a_links, .ref b_a_states, .ref a_pairs, .ref a_joined, .ref a_seen, .ref a_path])), (a_terms, .inr (7, [.ref a_terms_shapes, .ref a_terms_values, .ref a_terms_firstParts, .int a_terms_nodes, .ref a_terms_parts, .ref a_terms_variableNames, .ref a_terms_became, .int a_terms_variables, .int a_terms_variablesLack, .int a_terms_symbols, .int a_terms_nodesBefore, .int a_terms_partsBefore, .int a_terms_variablesBefore])), (a_terms_shapes, .inl (cs 0, a_terms_shapes_n, .inl a_terms_shapes_f)), (a_terms_values, .inl (cs 2, a_terms_values_n, .inr (.inl a_terms_values_f))), (a_terms_firstParts, .inl (cs 0, a_terms_firstParts_n, .inl a_terms_firstParts_f)), (a_terms_parts, .inr (1, [.ref a_terms_parts_items, .int a_terms_parts_size])), (a_terms_parts_items, .inl (cs 0, a_terms_parts_items_n, .inl a_terms_parts_items_f)), (a_terms_became, .inl (cs 0, a_terms_became_n, .inl a_terms_became_f)), (b_a_links, .inl (cs 0, o_a_links_n, .inl o_a_links_f)), (b_a_states, .inl (cs 0, o_a_states_n, .inl o_a_states_f)), (a_pairs, .inr (1, [.ref b_a_pairs_items, .int o_a_pairs_size])), (b_a_pairs_items, .inl (cs 0, o_a_pairs_items_n, .inl o_a_pairs_items_f)), (a_joined, .inr (1, [.ref b_a_joined_items, .int o_a_joined_size])), (b_a_joined_items, .inl (cs 0, o_a_joined_items_n, .inl o_a_joined_items_f)), (a_seen, .inr (1, [.ref a_seen_items, .int o_a_seen_size])), (a_seen_items, .inl (cs 0, a_seen_items_n, .inl a_seen_items_f)), (a_path, .inr (1, [.ref a_path_items, .int o_a_path_size]))] t.heap ∧ va_D (va_A [(a, .inr (8, [.ref a_terms, .ref a_links, .ref a_states, .ref a_pairs, .ref a_joined, .ref a_seen, .ref a_path])), (a_terms, .inr (7, [.ref a_terms_shapes, .ref a_terms_values, .ref a_terms_firstParts, .int a_terms_nodes, .ref a_terms_parts, .ref a_terms_variableNames, .ref a_terms_became, .int a_terms_variables, .int a_terms_variablesLack, .int a_terms_symbols, .int a_terms_nodesBefore, .int a_terms_partsBefore, .int a_terms_variablesBefore])), (a_terms_shapes, .inl (cs 0, a_terms_shapes_n, .inl a_terms_shapes_f)), (a_terms_values, .inl (cs 2, a_terms_values_n, .inr (.inl a_terms_values_f))), (a_terms_firstParts, .inl (cs 0, a_terms_firstParts_n, .inl a_terms_firstParts_f)), (a_terms_parts, .inr (1, [.ref a_terms_parts_items, .int a_terms_parts_size])), (a_terms_parts_items, .inl (cs 0, a_terms_parts_items_n, .inl a_terms_parts_items_f)), (a_terms_became, .inl (cs 0, a_terms_became_n, .inl a_terms_became_f)), (a_links, .inl (cs 0, a_links_n, .inl a_links_f)), (a_states, .inl (cs 0, a_states_n, .inl a_states_f)), (a_pairs, .inr (1, [.ref a_pairs_items, .int a_pairs_size])), (a_pairs_items, .inl (cs 0, a_pairs_items_n, .inl a_pairs_items_f)), (a_joined, .inr (1, [.ref a_joined_items, .int a_joined_size])), (a_joined_items, .inl (cs 0, a_joined_items_n, .inl a_joined_items_f)), (a_seen, .inr (1, [.ref a_seen_items, .int a_seen_size])), (a_seen_items, .inl (cs 0, a_seen_items_n, .inl a_seen_items_f)), (a_path, .inr (1, [.ref a_path_items, .int a_path_size]))] sz) [(a, .inr (8, [.ref a_terms, .ref b_a_links, .ref b_a_states, .ref a_pairs, .ref a_joined, .ref a_seen, .ref a_path])), (a_terms, .inr (7, [.ref a_terms_shapes, .ref a_terms_values, .ref a_terms_firstParts, .int a_terms_nodes, .ref a_terms_parts, .ref a_terms_variableNames, .ref a_terms_became, .int a_terms_variables, .int a_terms_variablesLack, .int a_terms_symbols, .int a_terms_nodesBefore, .int a_terms_partsBefore, .int a_terms_variablesBefore])), (a_terms_shapes, .inl (cs 0, a_terms_shapes_n, .inl a_terms_shapes_f)), (a_terms_values, .inl (cs 2, a_terms_values_n, .inr (.inl a_terms_values_f))), (a_terms_firstParts, .inl (cs 0, a_terms_firstParts_n, .inl a_terms_firstParts_f)), (a_terms_parts, .inr (1, [.ref a_terms_parts_items, .int a_terms_parts_size])), (a_terms_parts_items, .inl (cs 0, a_terms_parts_items_n, .inl a_terms_parts_items_f)), (a_terms_became, .inl (cs 0, a_terms_became_n, .inl a_terms_became_f)), (b_a_links, .inl (cs 0, o_a_links_n, .inl o_a_links_f)), (b_a_states, .inl (cs 0, o_a_states_n, .inl o_a_states_f)), (a_pairs, .inr (1, [.ref b_a_pairs_items, .int o_a_pairs_size])), (b_a_pairs_items, .inl (cs 0, o_a_pairs_items_n, .inl o_a_pairs_items_f)), (a_joined, .inr (1, [.ref b_a_joined_items, .int o_a_joined_size])), (b_a_joined_items, .inl (cs 0, o_a_joined_items_n, .inl o_a_joined_items_f)), (a_seen, .inr (1, [.ref a_seen_items, .int o_a_seen_size])), (a_seen_items, .inl (cs 0, a_seen_items_n, .inl a_seen_items_f)), (a_path, .inr (1, [.ref a_path_items, .int o_a_path_size]))]) (va_A [(a, .inr (8, [.ref a_terms, .ref a_links, .ref a_states, .ref a_pairs, .ref a_joined, .ref a_seen, .ref a_path])), (a_terms, .inr (7, [.ref a_terms_shapes, .ref a_terms_values, .ref a_terms_firstParts, .int a_terms_nodes, .ref a_terms_parts, .ref a_terms_variableNames, .ref a_terms_became, .int a_terms_variables, .int a_terms_variablesLack, .int a_terms_symbols, .int a_terms_nodesBefore, .int a_terms_partsBefore, .int a_terms_variablesBefore])), (a_terms_shapes, .inl (cs 0, a_terms_shapes_n, .inl a_terms_shapes_f)), (a_terms_values, .inl (cs 2, a_terms_values_n, .inr (.inl a_terms_values_f))), (a_terms_firstParts, .inl (cs 0, a_terms_firstParts_n, .inl a_terms_firstParts_f)), (a_terms_parts, .inr (1, [.ref a_terms_parts_items, .int a_terms_parts_size])), (a_terms_parts_items, .inl (cs 0, a_terms_parts_items_n, .inl a_terms_parts_items_f)), (a_terms_became, .inl (cs 0, a_terms_became_n, .inl a_terms_became_f)), (a_links, .inl (cs 0, a_links_n, .inl a_links_f)), (a_states, .inl (cs 0, a_states_n, .inl a_states_f)), (a_pairs, .inr (1, [.ref a_pairs_items, .int a_pairs_size])), (a_pairs_items, .inl (cs 0, a_pairs_items_n, .inl a_pairs_items_f)), (a_joined, .inr (1, [.ref a_joined_items, .int a_joined_size])), (a_joined_items, .inl (cs 0, a_joined_items_n, .inl a_joined_items_f)), (a_seen, .inr (1, [.ref a_seen_items, .int a_seen_size])), (a_seen_items, .inl (cs 0, a_seen_items_n, .inl a_seen_items_f)), (a_path, .inr (1, [.ref a_path_items, .int a_path_size]))] sz)) mc ms (va_A [(a, .inr (8, [.ref a_terms, .ref a_links, .ref a_states, .ref a_pairs, .ref a_joined, .ref a_seen, .ref a_path])), (a_terms, .inr (7, [.ref a_terms_shapes, .ref a_terms_values, .ref a_terms_firstParts, .int a_terms_nodes, .ref a_terms_parts, .ref a_terms_variableNames, .ref a_terms_became, .int a_terms_variables, .int a_terms_variablesLack, .int a_terms_symbols, .int a_terms_nodesBefore, .int a_terms_partsBefore, .int a_terms_variablesBefore])), (a_terms_shapes, .inl (cs 0, a_terms_shapes_n, .inl a_terms_shapes_f)), (a_terms_values, .inl (cs 2, a_terms_values_n, .inr (.inl a_terms_values_f))), (a_terms_firstParts, .inl (cs 0, a_terms_firstParts_n, .inl a_terms_firstParts_f)), (a_terms_parts, .inr (1, [.ref a_terms_parts_items, .int a_terms_parts_size])), (a_terms_parts_items, .inl (cs 0, a_terms_parts_items_n, .inl a_terms_parts_items_f)), (a_terms_became, .inl (cs 0, a_terms_became_n, .inl a_terms_became_f)), (a_links, .inl (cs 0, a_links_n, .inl a_links_f)), (a_states, .inl (cs 0, a_states_n, .inl a_states_f)), (a_pairs, .inr (1, [.ref a_pairs_items, .int a_pairs_size])), (a_pairs_items, .inl (cs 0, a_pairs_items_n, .inl a_pairs_items_f)), (a_joined, .inr (1, [.ref a_joined_items, .int a_joined_size])), (a_joined_items, .inl (cs 0, a_joined_items_n, .inl a_joined_items_f)), (a_seen, .inr (1, [.ref a_seen_items, .int a_seen_size])), (a_seen_items, .inl (cs 0, a_seen_items_n, .inl a_seen_items_f)), (a_path, .inr (1, [.ref a_path_items, .int a_path_size]))] sz) := by
  refine Met.ofW (cc := b_Unifier_areSame) (maxL := 4) (ret := (some .boolean)) (by decide) rfl ?_
  intro p e s m args below meth c s₁ B hml hv
  obtain ⟨rfl, hsz, hP, hK, hD0, hgl, hkn, hkr⟩ := hv
  have hx := B.exec
  have hb := B.bytes
  have hr := B.returns
  have hg : ∀ w ∈ GW, w.before ([.ref a, .int x, .int y] : List Value).toArray s = true := fun w hw => atoms_spec (ws := .code y_Unifier_areSame b_Unifier_areSame 4 (some .boolean) :: GW) B.pre w (List.mem_cons_of_mem _ hw)
  have hown : s.vm.findClass R_Unifier = some m.cls := findClass_of_methodNamed B.named
  have hlocks := B.notSynchronized
  subst hsz
  have hD := hD0.self (sz := s.heap.size)
  generalize hAe : va_A [(a, .inr (8, [.ref a_terms, .ref a_links, .ref a_states, .ref a_pairs, .ref a_joined, .ref a_seen, .ref a_path])), (a_terms, .inr (7, [.ref a_terms_shapes, .ref a_terms_values, .ref a_terms_firstParts, .int a_terms_nodes, .ref a_terms_parts, .ref a_terms_variableNames, .ref a_terms_became, .int a_terms_variables, .int a_terms_variablesLack, .int a_terms_symbols, .int a_terms_nodesBefore, .int a_terms_partsBefore, .int a_terms_variablesBefore])), (a_terms_shapes, .inl (cs 0, a_terms_shapes_n, .inl a_terms_shapes_f)), (a_terms_values, .inl (cs 2, a_terms_values_n, .inr (.inl a_terms_values_f))), (a_terms_firstParts, .inl (cs 0, a_terms_firstParts_n, .inl a_terms_firstParts_f)), (a_terms_parts, .inr (1, [.ref a_terms_parts_items, .int a_terms_parts_size])), (a_terms_parts_items, .inl (cs 0, a_terms_parts_items_n, .inl a_terms_parts_items_f)), (a_terms_became, .inl (cs 0, a_terms_became_n, .inl a_terms_became_f)), (a_links, .inl (cs 0, a_links_n, .inl a_links_f)), (a_states, .inl (cs 0, a_states_n, .inl a_states_f)), (a_pairs, .inr (1, [.ref a_pairs_items, .int a_pairs_size])), (a_pairs_items, .inl (cs 0, a_pairs_items_n, .inl a_pairs_items_f)), (a_joined, .inr (1, [.ref a_joined_items, .int a_joined_size])), (a_joined_items, .inl (cs 0, a_joined_items_n, .inl a_joined_items_f)), (a_seen, .inr (1, [.ref a_seen_items, .int a_seen_size])), (a_seen_items, .inl (cs 0, a_seen_items_n, .inl a_seen_items_f)), (a_path, .inr (1, [.ref a_path_items, .int a_path_size]))] s.heap.size = A at hD hkn ⊢
  have hA : ∀ q : Nat, s.heap.size ≤ q → A q := fun q h => by rw [← hAe]; exact Or.inr h
  have hS : va_S A s.heap s.heap [] := va_S.rf
  have hP : va_P g classes [(a, .inr (8, [.ref a_terms, .ref a_links, .ref a_states, .ref a_pairs, .ref a_joined, .ref a_seen, .ref a_path])), (a_terms, .inr (7, [.ref a_terms_shapes, .ref a_terms_values, .ref a_terms_firstParts, .int a_terms_nodes, .ref a_terms_parts, .ref a_terms_variableNames, .ref a_terms_became, .int a_terms_variables, .int a_terms_variablesLack, .int a_terms_symbols, .int a_terms_nodesBefore, .int a_terms_partsBefore, .int a_terms_variablesBefore])), (a_terms_shapes, .inl (cs 0, a_terms_shapes_n, .inl a_terms_shapes_f)), (a_terms_values, .inl (cs 2, a_terms_values_n, .inr (.inl a_terms_values_f))), (a_terms_firstParts, .inl (cs 0, a_terms_firstParts_n, .inl a_terms_firstParts_f)), (a_terms_parts, .inr (1, [.ref a_terms_parts_items, .int a_terms_parts_size])), (a_terms_parts_items, .inl (cs 0, a_terms_parts_items_n, .inl a_terms_parts_items_f)), (a_terms_became, .inl (cs 0, a_terms_became_n, .inl a_terms_became_f)), (a_links, .inl (cs 0, a_links_n, .inl a_links_f)), (a_states, .inl (cs 0, a_states_n, .inl a_states_f)), (a_pairs, .inr (1, [.ref a_pairs_items, .int a_pairs_size])), (a_pairs_items, .inl (cs 0, a_pairs_items_n, .inl a_pairs_items_f)), (a_joined, .inr (1, [.ref a_joined_items, .int a_joined_size])), (a_joined_items, .inl (cs 0, a_joined_items_n, .inl a_joined_items_f)), (a_seen, .inr (1, [.ref a_seen_items, .int a_seen_size])), (a_seen_items, .inl (cs 0, a_seen_items_n, .inl a_seen_items_f)), (a_path, .inr (1, [.ref a_path_items, .int a_path_size]))] s.heap := hP
  have hl := lv_entry ([.ref a, .int x, .int y]) (n := 4) (Nat.le_of_ble_eq_true rfl)
  rw [lg_entry_eq]
  generalize (lg_sl ([.ref a, .int x, .int y]) ++ List.replicate (4 - (lg_sl ([.ref a, .int x, .int y])).length) Slot.unset).toArray = ls at hl ⊢
  have hl : lv_has ls 4 [(0, .ref a), (1, .int x), (2, .int y)] := hl
  refine gq (fun Q hQ => ?_)
  obtain ⟨H, hH⟩ : ∃ H : Heap, H = s.heap := ⟨_, rfl⟩
  rw [← hH] at hP
  have hS : va_S A s.heap H [] := by rw [hH]; exact hS
  refine W.eqH hH ?_
  obtain ⟨locs, hlc⟩ : ∃ L : List Loc, L = [] := ⟨_, rfl⟩
  rw [← hlc] at hS ⊢
  unfold p_Unifier_areSame at hok
  refine lv_aload_n hx hb d_Unifier_areSame_0 rfl (lv_at hl 0 rfl) ?_
  obtain ⟨⟨⟨a_links_n_1, a_links_f_1, a_states_n_1, a_states_f_1⟩, mk1, sk1⟩, hc1, hok⟩ := bd_some hok
  dsimp only at hok
  obtain ⟨m1, s1, hok, hmc1, hms1⟩ := al_some hok
  obtain ⟨hPc, hDc, hFc⟩ := cut0 (wc := [(a, .inr (8, [.ref a_terms, .ref a_links, .ref a_states, .ref a_pairs, .ref a_joined, .ref a_seen, .ref a_path])), (a_terms, .inr (7, [.ref a_terms_shapes, .ref a_terms_values, .ref a_terms_firstParts, .int a_terms_nodes, .ref a_terms_parts, .ref a_terms_variableNames, .ref a_terms_became, .int a_terms_variables, .int a_terms_variablesLack, .int a_terms_symbols, .int a_terms_nodesBefore, .int a_terms_partsBefore, .int a_terms_variablesBefore])), (a_links, .inl (cs 0, a_links_n, .inl a_links_f)), (a_states, .inl (cs 0, a_states_n, .inl a_states_f))]) hP hD hS hA [0, 1, 8, 9] (by decide) rfl
  refine va_callv (va_runV (As := []) (rest := []) ⟨hx, hb, hml, hown, hg⟩ (c_Unifier_makeRoom l g cs ka a_pairs a_joined a_seen a_path a_terms_shapes a_terms_values a_terms_firstParts a_terms_parts a_terms_variableNames a_terms_became a a_terms a_links a_states H.size a_terms_nodes a_terms_variables a_terms_variablesLack a_terms_symbols a_terms_nodesBefore a_terms_partsBefore a_terms_variablesBefore a_links_n a_links_f a_states_n a_states_f a_links_n_1 a_links_f_1 a_states_n_1 a_states_f_1 mk1 sk1 hc1) (cwV (C := R_Unifier) 0 hg (gw_V wd_384 wd_385 wd_386 wd_350 wd_383) rfl rfl rfl (by decide +kernel) ⟨Nat.le_of_ble_eq_true rfl, Nat.le_of_ble_eq_true rfl⟩) ⟨gP_blind, va_recv (q0 := 0) (ci := 8) (q := (R_Unifier, F_Unifier, 7)) hK hP rfl rfl, gP_pre hPc hDc hK hgl hkn hkr hS hFc⟩ rfl rfl hl.1 rfl (lv_room (Nat.le_of_ble_eq_true rfl)) d_Unifier_areSame_1 ⟨show 0 + mk1 ≤ mc from by omega, show 0 + sk1 ≤ ms from by omega⟩) hS (fun q _ h => hFc q h) hFc (fun u t H locs ht hvm hr1 hB hz1 hk1 hS => ?_)
  rw [ht] at hB
  obtain ⟨a_links_1, a_states_1, hP1, hD1⟩ := hB
  obtain ⟨hP, hD⟩ := jn_A hP hD [0, 1, 8, 9] [2, 3, 4, 5, 6, 7, 10, 11, 12, 13, 14, 15, 16] rfl rfl (by decide) (by decide) hk1 hFc hP1 hD1
  obtain ⟨hP, hD⟩ : PD g A H [(a_terms_shapes, .inl (cs 0, a_terms_shapes_n, .inl a_terms_shapes_f)), (a_terms_values, .inl (cs 2, a_terms_values_n, .inr (.inl a_terms_values_f))), (a_terms_firstParts, .inl (cs 0, a_terms_firstParts_n, .inl a_terms_firstParts_f)), (a_terms_parts, .inr (1, [.ref a_terms_parts_items, .int a_terms_parts_size])), (a_terms_parts_items, .inl (cs 0, a_terms_parts_items_n, .inl a_terms_parts_items_f)), (a_terms_became, .inl (cs 0, a_terms_became_n, .inl a_terms_became_f)), (a_pairs, .inr (1, [.ref a_pairs_items, .int a_pairs_size])), (a_pairs_items, .inl (cs 0, a_pairs_items_n, .inl a_pairs_items_f)), (a_joined, .inr (1, [.ref a_joined_items, .int a_joined_size])), (a_joined_items, .inl (cs 0, a_joined_items_n, .inl a_joined_items_f)), (a_seen, .inr (1, [.ref a_seen_items, .int a_seen_size])), (a_seen_items, .inl (cs 0, a_seen_items_n, .inl a_seen_items_f)), (a_path, .inr (1, [.ref a_path_items, .int a_path_size])), (a, .inr (8, [.ref a_terms, .ref a_links_1, .ref a_states_1, .ref a_pairs, .ref a_joined, .ref a_seen, .ref a_path])), (a_terms, .inr (7, [.ref a_terms_shapes, .ref a_terms_values, .ref a_terms_firstParts, .int a_terms_nodes, .ref a_terms_parts, .ref a_terms_variableNames, .ref a_terms_became, .int a_terms_variables, .int a_terms_variablesLack, .int a_terms_symbols, .int a_terms_nodesBefore, .int a_terms_partsBefore, .int a_terms_variablesBefore])), (a_links_1, .inl (cs 0, a_links_n_1, .inl a_links_f_1)), (a_states_1, .inl (cs 0, a_states_n_1, .inl a_states_f_1))] := ⟨hP, hD⟩
  refine lv_aload_n hx hb d_Unifier_areSame_4 rfl (lv_at hl 0 rfl) ?_
  refine lv_iload_n hx hb d_Unifier_areSame_5 rfl (lv_at hl 1 rfl) ?_
  refine lv_iload_n hx hb d_Unifier_areSame_6 rfl (lv_at hl 2 rfl) ?_
  refine lv_iconst (v := 0) hx hb d_Unifier_areSame_7 (by decide) ?_
  obtain ⟨⟨⟨r2, a_links_f_2, a_pairs_size_2, a_pairs_items_n_2, a_pairs_items_f_2, a_joined_size_2, a_joined_items_n_2, a_joined_items_f_2⟩, mk2, sk2⟩, hc2, hok⟩ := bd_some hok
  dsimp only at hok
  obtain ⟨m2, s2, hok, hmc2, hms2⟩ := al_some hok
  obtain ⟨hPc, hDc, hFc⟩ := cut0 (wc := [(a, .inr (8, [.ref a_terms, .ref a_links_1, .ref a_states_1, .ref a_pairs, .ref a_joined, .ref a_seen, .ref a_path])), (a_terms, .inr (7, [.ref a_terms_shapes, .ref a_terms_values, .ref a_terms_firstParts, .int a_terms_nodes, .ref a_terms_parts, .ref a_terms_variableNames, .ref a_terms_became, .int a_terms_variables, .int a_terms_variablesLack, .int a_terms_symbols, .int a_terms_nodesBefore, .int a_terms_partsBefore, .int a_terms_variablesBefore])), (a_terms_shapes, .inl (cs 0, a_terms_shapes_n, .inl a_terms_shapes_f)), (a_terms_values, .inl (cs 2, a_terms_values_n, .inr (.inl a_terms_values_f))), (a_terms_firstParts, .inl (cs 0, a_terms_firstParts_n, .inl a_terms_firstParts_f)), (a_terms_parts, .inr (1, [.ref a_terms_parts_items, .int a_terms_parts_size])), (a_terms_parts_items, .inl (cs 0, a_terms_parts_items_n, .inl a_terms_parts_items_f)), (a_terms_became, .inl (cs 0, a_terms_became_n, .inl a_terms_became_f)), (a_links_1, .inl (cs 0, a_links_n_1, .inl a_links_f_1)), (a_pairs, .inr (1, [.ref a_pairs_items, .int a_pairs_size])), (a_pairs_items, .inl (cs 0, a_pairs_items_n, .inl a_pairs_items_f)), (a_joined, .inr (1, [.ref a_joined_items, .int a_joined_size])), (a_joined_items, .inl (cs 0, a_joined_items_n, .inl a_joined_items_f))]) hP hD hS hA [13, 14, 0, 1, 2, 3, 4, 5, 15, 6, 7, 8, 9] (by decide) rfl
  refine va_calli (va_runV (As := [.int x, .int y, .int 0]) (rest := []) ⟨hx, hb, hml, hown, hg⟩ (c_Unifier_joinAll l g cs ka a_states_1 a_seen a_path a_terms_variableNames a a_terms a_terms_shapes a_terms_values a_terms_firstParts a_terms_parts a_terms_parts_items a_terms_became a_links_1 a_pairs a_pairs_items a_joined a_joined_items H.size n x y (0 : Int32) a_terms_nodes a_terms_variables a_terms_variablesLack a_terms_symbols a_terms_nodesBefore a_terms_partsBefore a_terms_variablesBefore a_terms_shapes_n a_terms_shapes_f a_terms_values_n a_terms_values_f a_terms_firstParts_n a_terms_firstParts_f a_terms_parts_size a_terms_parts_items_n a_terms_parts_items_f a_terms_became_n a_terms_became_f a_links_n_1 a_links_f_1 a_pairs_size a_pairs_items_n a_pairs_items_f a_joined_size a_joined_items_n a_joined_items_f r2 a_links_f_2 a_pairs_size_2 a_pairs_items_n_2 a_pairs_items_f_2 a_joined_size_2 a_joined_items_n_2 a_joined_items_f_2 mk2 sk2 hc2) (cwV (C := R_Unifier) 3 hg (gw_V wd_388 wd_389 wd_390 wd_350 wd_387) rfl rfl rfl (by decide +kernel) ⟨Nat.le_of_ble_eq_true rfl, Nat.le_of_ble_eq_true rfl⟩) ⟨gP_blind, va_recv (q0 := 13) (ci := 8) (q := (R_Unifier, F_Unifier, 7)) hK hP rfl rfl, gP_pre hPc hDc hK hgl hkn hkr hS hFc⟩ rfl rfl hl.1 rfl (lv_room (Nat.le_of_ble_eq_true rfl)) d_Unifier_areSame_8 ⟨show 0 + mk1 + mk2 ≤ mc from by omega, show 0 + sk1 + sk2 ≤ ms from by omega⟩) hS (fun q _ h => hFc q h) hFc (fun r2' u t H locs ht hvm hr2 hB hz1 hk1 hS => ?_)
  subst hr2
  rw [ht] at hB
  obtain ⟨a_pairs_items_2, a_joined_items_2, hP1, hD1⟩ := hB
  obtain ⟨hP, hD⟩ := jn_A hP hD [13, 14, 0, 1, 2, 3, 4, 5, 15, 6, 7, 8, 9] [10, 11, 12, 16] rfl rfl (by decide) (by decide) hk1 hFc hP1 hD1
  obtain ⟨hP, hD⟩ : PD g A H [(a_seen, .inr (1, [.ref a_seen_items, .int a_seen_size])), (a_seen_items, .inl (cs 0, a_seen_items_n, .inl a_seen_items_f)), (a_path, .inr (1, [.ref a_path_items, .int a_path_size])), (a_states_1, .inl (cs 0, a_states_n_1, .inl a_states_f_1)), (a, .inr (8, [.ref a_terms, .ref a_links_1, .ref a_states_1, .ref a_pairs, .ref a_joined, .ref a_seen, .ref a_path])), (a_terms, .inr (7, [.ref a_terms_shapes, .ref a_terms_values, .ref a_terms_firstParts, .int a_terms_nodes, .ref a_terms_parts, .ref a_terms_variableNames, .ref a_terms_became, .int a_terms_variables, .int a_terms_variablesLack, .int a_terms_symbols, .int a_terms_nodesBefore, .int a_terms_partsBefore, .int a_terms_variablesBefore])), (a_terms_shapes, .inl (cs 0, a_terms_shapes_n, .inl a_terms_shapes_f)), (a_terms_values, .inl (cs 2, a_terms_values_n, .inr (.inl a_terms_values_f))), (a_terms_firstParts, .inl (cs 0, a_terms_firstParts_n, .inl a_terms_firstParts_f)), (a_terms_parts, .inr (1, [.ref a_terms_parts_items, .int a_terms_parts_size])), (a_terms_parts_items, .inl (cs 0, a_terms_parts_items_n, .inl a_terms_parts_items_f)), (a_terms_became, .inl (cs 0, a_terms_became_n, .inl a_terms_became_f)), (a_links_1, .inl (cs 0, a_links_n_1, .inl a_links_f_2)), (a_pairs, .inr (1, [.ref a_pairs_items_2, .int a_pairs_size_2])), (a_pairs_items_2, .inl (cs 0, a_pairs_items_n_2, .inl a_pairs_items_f_2)), (a_joined, .inr (1, [.ref a_joined_items_2, .int a_joined_size_2])), (a_joined_items_2, .inl (cs 0, a_joined_items_n_2, .inl a_joined_items_f_2))] := ⟨hP, hD⟩
  refine lv_istore_n hx hb d_Unifier_areSame_11 rfl hl (by decide) rfl (fun ls hl => ?_)
  have hl : lv_has ls 4 [(3, .int r2), (0, .ref a), (1, .int x), (2, .int y)] := hl
  refine lv_aload_n hx hb d_Unifier_areSame_12 rfl (lv_at hl 1 rfl) ?_
  obtain ⟨⟨a_links_f_3, a_states_f_3, a_pairs_size_3, a_joined_size_3, a_seen_size_3, a_path_size_3⟩, hc3, hok⟩ := bd_some hok
  dsimp only at hok
  obtain ⟨hPc, hDc, hFc⟩ := cut0 (wc := [(a, .inr (8, [.ref a_terms, .ref a_links_1, .ref a_states_1, .ref a_pairs, .ref a_joined, .ref a_seen, .ref a_path])), (a_links_1, .inl (cs 0, a_links_n_1, .inl a_links_f_2)), (a_states_1, .inl (cs 0, a_states_n_1, .inl a_states_f_1)), (a_pairs, .inr (1, [.ref a_pairs_items_2, .int a_pairs_size_2])), (a_joined, .inr (1, [.ref a_joined_items_2, .int a_joined_size_2])), (a_joined_items_2, .inl (cs 0, a_joined_items_n_2, .inl a_joined_items_f_2)), (a_seen, .inr (1, [.ref a_seen_items, .int a_seen_size])), (a_seen_items, .inl (cs 0, a_seen_items_n, .inl a_seen_items_f)), (a_path, .inr (1, [.ref a_path_items, .int a_path_size]))]) hP hD hS hA [4, 12, 3, 13, 15, 16, 0, 1, 2] (by decide) rfl
  refine va_callv (va_runV (As := []) (rest := []) ⟨hx, hb, hml, hown, hg⟩ (c_Unifier_clear l g cs ka a_terms a_pairs_items_2 a_path_items a a_links_1 a_states_1 a_pairs a_joined a_joined_items_2 a_seen a_seen_items a_path H.size n a_links_n_1 a_links_f_2 a_states_n_1 a_states_f_1 a_pairs_size_2 a_joined_size_2 a_joined_items_n_2 a_joined_items_f_2 a_seen_size a_seen_items_n a_seen_items_f a_path_size a_links_f_3 a_states_f_3 a_pairs_size_3 a_joined_size_3 a_seen_size_3 a_path_size_3 hc3) (cwV (C := R_Unifier) 0 hg (gw_V wd_392 wd_393 wd_394 wd_350 wd_391) rfl rfl rfl (by decide +kernel) ⟨Nat.le_of_ble_eq_true rfl, Nat.le_of_ble_eq_true rfl⟩) ⟨gP_blind, va_recv (q0 := 4) (ci := 8) (q := (R_Unifier, F_Unifier, 7)) hK hP rfl rfl, gP_pre hPc hDc hK hgl hkn hkr hS hFc⟩ rfl rfl hl.1 rfl (lv_room (Nat.le_of_ble_eq_true rfl)) d_Unifier_areSame_13 ⟨show 0 + mk1 + mk2 + 0 ≤ mc from by omega, show 0 + sk1 + sk2 + 0 ≤ ms from by omega⟩) hS (fun q _ h => hFc q h) hFc (fun u t H locs ht hvm hr3 hB hz1 hk1 hS => ?_)
  rw [ht] at hB
  obtain ⟨hP1, hD1⟩ := hB
  obtain ⟨hP, hD⟩ := jn_A hP hD [4, 12, 3, 13, 15, 16, 0, 1, 2] [5, 6, 7, 8, 9, 10, 11, 14] rfl rfl (by decide) (by decide) hk1 hFc hP1 hD1
  obtain ⟨hP, hD⟩ : PD g A H [(a_terms, .inr (7, [.ref a_terms_shapes, .ref a_terms_values, .ref a_terms_firstParts, .int a_terms_nodes, .ref a_terms_parts, .ref a_terms_variableNames, .ref a_terms_became, .int a_terms_variables, .int a_terms_variablesLack, .int a_terms_symbols, .int a_terms_nodesBefore, .int a_terms_partsBefore, .int a_terms_variablesBefore])), (a_terms_shapes, .inl (cs 0, a_terms_shapes_n, .inl a_terms_shapes_f)), (a_terms_values, .inl (cs 2, a_terms_values_n, .inr (.inl a_terms_values_f))), (a_terms_firstParts, .inl (cs 0, a_terms_firstParts_n, .inl a_terms_firstParts_f)), (a_terms_parts, .inr (1, [.ref a_terms_parts_items, .int a_terms_parts_size])), (a_terms_parts_items, .inl (cs 0, a_terms_parts_items_n, .inl a_terms_parts_items_f)), (a_terms_became, .inl (cs 0, a_terms_became_n, .inl a_terms_became_f)), (a_pairs_items_2, .inl (cs 0, a_pairs_items_n_2, .inl a_pairs_items_f_2)), (a, .inr (8, [.ref a_terms, .ref a_links_1, .ref a_states_1, .ref a_pairs, .ref a_joined, .ref a_seen, .ref a_path])), (a_links_1, .inl (cs 0, a_links_n_1, .inl a_links_f_3)), (a_states_1, .inl (cs 0, a_states_n_1, .inl a_states_f_3)), (a_pairs, .inr (1, [.ref a_pairs_items_2, .int a_pairs_size_3])), (a_joined, .inr (1, [.ref a_joined_items_2, .int a_joined_size_3])), (a_joined_items_2, .inl (cs 0, a_joined_items_n_2, .inl a_joined_items_f_2)), (a_seen, .inr (1, [.ref a_seen_items, .int a_seen_size_3])), (a_seen_items, .inl (cs 0, a_seen_items_n, .inl a_seen_items_f)), (a_path, .inr (1, [.ref a_path_items, .int a_path_size_3]))] := ⟨hP, hD⟩
  refine lv_iload_n hx hb d_Unifier_areSame_16 rfl (lv_at hl 0 rfl) ?_
  obtain ⟨hzb, hok⟩ := ck_some hok
  obtain ⟨hq, hw⟩ := Prod.mk.inj (Option.some.inj hok)
  obtain ⟨hmc0, hms0⟩ := Prod.mk.inj hw
  obtain ⟨hq0, hq⟩ := Prod.mk.inj hq
  obtain ⟨hq1, hq⟩ := Prod.mk.inj hq
  obtain ⟨hq2, hq⟩ := Prod.mk.inj hq
  obtain ⟨hq3, hq⟩ := Prod.mk.inj hq
  obtain ⟨hq4, hq⟩ := Prod.mk.inj hq
  obtain ⟨hq5, hq⟩ := Prod.mk.inj hq
  obtain ⟨hq6, hq⟩ := Prod.mk.inj hq
  obtain ⟨hq7, hq⟩ := Prod.mk.inj hq
  obtain ⟨hq8, hq⟩ := Prod.mk.inj hq
  obtain ⟨hq9, hq⟩ := Prod.mk.inj hq
  obtain ⟨hq10, hq⟩ := Prod.mk.inj hq
  obtain ⟨hq11, hq⟩ := Prod.mk.inj hq
  have hq12 := hq
  subst hq0
  subst hq1
  subst hq2
  subst hq3
  subst hq4
  subst hq5
  subst hq6
  subst hq7
  subst hq8
  subst hq9
  subst hq10
  subst hq11
  subst hq12
  obtain ⟨hP9, hD9⟩ := sub2 (ws' := [(a, .inr (8, [.ref a_terms, .ref a_links_1, .ref a_states_1, .ref a_pairs, .ref a_joined, .ref a_seen, .ref a_path])), (a_terms, .inr (7, [.ref a_terms_shapes, .ref a_terms_values, .ref a_terms_firstParts, .int a_terms_nodes, .ref a_terms_parts, .ref a_terms_variableNames, .ref a_terms_became, .int a_terms_variables, .int a_terms_variablesLack, .int a_terms_symbols, .int a_terms_nodesBefore, .int a_terms_partsBefore, .int a_terms_variablesBefore])), (a_terms_shapes, .inl (cs 0, a_terms_shapes_n, .inl a_terms_shapes_f)), (a_terms_values, .inl (cs 2, a_terms_values_n, .inr (.inl a_terms_values_f))), (a_terms_firstParts, .inl (cs 0, a_terms_firstParts_n, .inl a_terms_firstParts_f)), (a_terms_parts, .inr (1, [.ref a_terms_parts_items, .int a_terms_parts_size])), (a_terms_parts_items, .inl (cs 0, a_terms_parts_items_n, .inl a_terms_parts_items_f)), (a_terms_became, .inl (cs 0, a_terms_became_n, .inl a_terms_became_f)), (a_links_1, .inl (cs 0, a_links_n_1, .inl a_links_f_3)), (a_states_1, .inl (cs 0, a_states_n_1, .inl a_states_f_3)), (a_pairs, .inr (1, [.ref a_pairs_items_2, .int a_pairs_size_3])), (a_pairs_items_2, .inl (cs 0, a_pairs_items_n_2, .inl a_pairs_items_f_2)), (a_joined, .inr (1, [.ref a_joined_items_2, .int a_joined_size_3])), (a_joined_items_2, .inl (cs 0, a_joined_items_n_2, .inl a_joined_items_f_2)), (a_seen, .inr (1, [.ref a_seen_items, .int a_seen_size_3])), (a_seen_items, .inl (cs 0, a_seen_items_n, .inl a_seen_items_f)), (a_path, .inr (1, [.ref a_path_items, .int a_path_size_3]))]) hP hD [8, 0, 1, 2, 3, 4, 5, 6, 9, 10, 11, 7, 12, 13, 14, 15, 16] rfl (by decide) rfl
  refine W.widen (k := mc) (n := ms) (by omega) (by omega) ?_
  rw [hQ]
  exact W.zret (v := r2) hx hb hr (zab_in hzb).1 (fun t ht hW => ⟨⟨_, (), rfl, rfl, a_links_1, a_states_1, a_pairs_items_2, a_joined_items_2, by rw [ht]; exact hP9, hD9⟩, hS.F ht⟩) hS.2.2 d_Unifier_areSame_17
