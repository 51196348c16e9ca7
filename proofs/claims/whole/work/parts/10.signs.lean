theorem wd_440 : ((.methodLink "UnifyBench$Signs" 1 y_Object_init) : Cond) ∈ GW := gw_2 33 (by decide +kernel) rfl
theorem wd_441 : ((.fieldLink "UnifyBench$Signs" 9 "UnifyBench$Signs" "kind" "I") : Cond) ∈ GW := gw_2 36 (by decide +kernel) rfl
theorem wd_442 : ((.fieldLink "UnifyBench$Signs" 13 "UnifyBench$Signs" "place" "I") : Cond) ∈ GW := gw_2 37 (by decide +kernel) rfl
theorem wd_443 : ((.fieldLink "UnifyBench$Signs" 16 "UnifyBench$Signs" "behind" "I") : Cond) ∈ GW := gw_2 38 (by decide +kernel) rfl
theorem wd_444 : ((.fieldLink "UnifyBench$Signs" 19 "UnifyBench$Signs" "passed" "Z") : Cond) ∈ GW := gw_2 39 (by decide +kernel) rfl
theorem wd_445 : ((.fieldLink "UnifyBench$Signs" 23 "UnifyBench$Signs" "name" "I") : Cond) ∈ GW := gw_2 40 (by decide +kernel) rfl
theorem wd_446 : ((.fieldLink "UnifyBench$Signs" 26 "UnifyBench$Signs" "number" "J") : Cond) ∈ GW := gw_2 41 (by decide +kernel) rfl
theorem wd_447 : ((.fieldLink "UnifyBench$Signs" 30 "UnifyBench$Signs" "tape" "LUnifyBench$Bytes;") : Cond) ∈ GW := gw_2 34 (by decide +kernel) rfl
theorem wd_448 : ((.fieldLink "UnifyBench$Signs" 34 "UnifyBench$Signs" "names" "LUnifyBench$Names;") : Cond) ∈ GW := gw_2 35 (by decide +kernel) rfl
theorem wd_449 : ((.code y_Bytes_size prog_2_method_2_code 1 (some .int)) : Cond) ∈ GW := gw_3 33 (by decide +kernel) rfl
theorem wd_450 : ((.initialized "UnifyBench$Bytes") : Cond) ∈ GW := gw_1 2 (by decide +kernel) rfl
theorem wd_451 : ((.methodLink "UnifyBench$Signs" 47 y_Bytes_size) : Cond) ∈ GW := gw_3 181 (by decide +kernel) rfl
theorem wd_452 : ((.instanceMethod y_Bytes_size) : Cond) ∈ GW := gw_3 31 (by decide +kernel) rfl
theorem wd_453 : ((.selects "UnifyBench$Bytes" y_Bytes_size y_Bytes_size) : Cond) ∈ GW := gw_3 32 (by decide +kernel) rfl
theorem wd_454 : ((.code y_Bytes_at prog_2_method_3_code 2 (some .int)) : Cond) ∈ GW := gw_3 185 (by decide +kernel) rfl
theorem wd_455 : ((.methodLink "UnifyBench$Signs" 42 y_Bytes_at) : Cond) ∈ GW := gw_3 182 (by decide +kernel) rfl
theorem wd_456 : ((.instanceMethod y_Bytes_at) : Cond) ∈ GW := gw_3 183 (by decide +kernel) rfl
theorem wd_457 : ((.selects "UnifyBench$Bytes" y_Bytes_at y_Bytes_at) : Cond) ∈ GW := gw_3 184 (by decide +kernel) rfl
theorem wd_458 : ((.code y_Letters_isBlank prog_5_method_2_code 1 (some .boolean)) : Cond) ∈ GW := gw_3 188 (by decide +kernel) rfl
theorem wd_459 : ((.methodLink "UnifyBench$Signs" 92 y_Letters_isBlank) : Cond) ∈ GW := gw_3 186 (by decide +kernel) rfl
theorem wd_460 : ((.static y_Letters_isBlank) : Cond) ∈ GW := gw_3 187 (by decide +kernel) rfl
theorem wd_461 : ((.code y_Letters_isOfWord prog_5_method_6_code 1 (some .boolean)) : Cond) ∈ GW := gw_3 202 (by decide +kernel) rfl
theorem wd_462 : ((.methodLink "UnifyBench$Signs" 95 y_Letters_isOfWord) : Cond) ∈ GW := gw_3 200 (by decide +kernel) rfl
theorem wd_463 : ((.static y_Letters_isOfWord) : Cond) ∈ GW := gw_3 201 (by decide +kernel) rfl
theorem wd_464 : ((.methodLink "UnifyBench$Signs" 98 y_Names_startText) : Cond) ∈ GW := gw_3 218 (by decide +kernel) rfl
theorem wd_465 : ((.methodLink "UnifyBench$Signs" 106 y_Names_numberOfText) : Cond) ∈ GW := gw_3 220 (by decide +kernel) rfl
theorem wd_466 : ((.code y_Signs_takeTo prog_10_method_11_code 3 none) : Cond) ∈ GW := gw_3 192 (by decide +kernel) rfl
theorem wd_467 : ((.initialized "UnifyBench$Signs") : Cond) ∈ GW := gw_1 16 (by decide +kernel) rfl
theorem wd_468 : ((.methodLink "UnifyBench$Signs" 51 y_Signs_takeTo) : Cond) ∈ GW := gw_3 189 (by decide +kernel) rfl
theorem wd_469 : ((.instanceMethod y_Signs_takeTo) : Cond) ∈ GW := gw_3 191 (by decide +kernel) rfl
theorem wd_470 : (.selects R_Signs y_Signs_takeTo y_Signs_takeTo : Cond) ∈ GW := gw_pr 8 (by decide +kernel) rfl
theorem wd_471 : ((.methodLink "UnifyBench$Signs" 103 y_Names_addToText) : Cond) ∈ GW := gw_3 219 (by decide +kernel) rfl
theorem wd_472 : ((.code y_Signs_wordEnd prog_10_method_12_code 2 (some .int)) : Cond) ∈ GW := gw_3 213 (by decide +kernel) rfl
theorem wd_473 : ((.methodLink "UnifyBench$Signs" 67 y_Signs_wordEnd) : Cond) ∈ GW := gw_3 210 (by decide +kernel) rfl
theorem wd_474 : ((.instanceMethod y_Signs_wordEnd) : Cond) ∈ GW := gw_3 212 (by decide +kernel) rfl
theorem wd_475 : (.selects R_Signs y_Signs_wordEnd y_Signs_wordEnd : Cond) ∈ GW := gw_pr 10 (by decide +kernel) rfl
theorem wd_476 : ((.code y_Signs_takeName prog_10_method_13_code 3 none) : Cond) ∈ GW := gw_3 217 (by decide +kernel) rfl
theorem wd_477 : ((.methodLink "UnifyBench$Signs" 70 y_Signs_takeName) : Cond) ∈ GW := gw_3 214 (by decide +kernel) rfl
theorem wd_478 : ((.instanceMethod y_Signs_takeName) : Cond) ∈ GW := gw_3 216 (by decide +kernel) rfl
theorem wd_479 : (.selects R_Signs y_Signs_takeName y_Signs_takeName : Cond) ∈ GW := gw_pr 11 (by decide +kernel) rfl
theorem wd_480 : ((.constantLong "UnifyBench$Signs" 121 9007199254740991) : Cond) ∈ GW := gw_3 233 (by decide +kernel) rfl
theorem wd_481 : ((.methodLink "UnifyBench$Signs" 74 y_Letters_isDigit) : Cond) ∈ GW := gw_3 222 (by decide +kernel) rfl
theorem wd_482 : ((.constantLong "UnifyBench$Signs" 109 10) : Cond) ∈ GW := gw_3 227 (by decide +kernel) rfl
theorem wd_483 : ((.constantLong "UnifyBench$Signs" 111 48) : Cond) ∈ GW := gw_3 228 (by decide +kernel) rfl
theorem wd_484 : ((.constantLong "UnifyBench$Signs" 113 9007199254740992) : Cond) ∈ GW := gw_3 229 (by decide +kernel) rfl
theorem wd_485 : ((.methodLink "UnifyBench$Signs" 115 y_Math_min_JJ) : Cond) ∈ GW := gw_3 230 (by decide +kernel) rfl
theorem wd_486 : ((.static y_Math_min_JJ) : Cond) ∈ GW := gw_3 231 (by decide +kernel) rfl
theorem wd_487 : ((.code y_Math_min_JJ prog_26_method_70_code 4 (some .long)) : Cond) ∈ GW := gw_3 232 (by decide +kernel) rfl
theorem wd_488 : ((.code y_Signs_isBehindEnd prog_10_method_17_code 2 (some .boolean)) : Cond) ∈ GW := gw_4 69 (by decide +kernel) rfl
theorem wd_489 : ((.methodLink "UnifyBench$Signs" 123 y_Signs_isBehindEnd) : Cond) ∈ GW := gw_4 66 (by decide +kernel) rfl
theorem wd_490 : ((.instanceMethod y_Signs_isBehindEnd) : Cond) ∈ GW := gw_4 68 (by decide +kernel) rfl
theorem wd_491 : (.selects R_Signs y_Signs_isBehindEnd y_Signs_isBehindEnd : Cond) ∈ GW := gw_pr 15 (by decide +kernel) rfl
theorem wd_492 : ((.code y_Letters_isSymbol prog_5_method_7_code 1 (some .boolean)) : Cond) ∈ GW := gw_4 3 (by decide +kernel) rfl
theorem wd_493 : ((.methodLink "UnifyBench$Signs" 83 y_Letters_isSymbol) : Cond) ∈ GW := gw_4 1 (by decide +kernel) rfl
theorem wd_494 : ((.static y_Letters_isSymbol) : Cond) ∈ GW := gw_4 2 (by decide +kernel) rfl
theorem wd_495 : ((.code y_Letters_isQuotable prog_5_method_9_code 1 (some .boolean)) : Cond) ∈ GW := gw_4 0 (by decide +kernel) rfl
theorem wd_496 : ((.methodLink "UnifyBench$Signs" 126 y_Letters_isQuotable) : Cond) ∈ GW := gw_3 238 (by decide +kernel) rfl
theorem wd_497 : ((.static y_Letters_isQuotable) : Cond) ∈ GW := gw_3 239 (by decide +kernel) rfl
theorem wd_498 : ((.code y_Signs_firstNotBlank prog_10_method_10_code 5 (some .int)) : Cond) ∈ GW := gw_3 180 (by decide +kernel) rfl
theorem wd_499 : ((.methodLink "UnifyBench$Signs" 38 y_Signs_firstNotBlank) : Cond) ∈ GW := gw_3 177 (by decide +kernel) rfl
theorem wd_500 : ((.instanceMethod y_Signs_firstNotBlank) : Cond) ∈ GW := gw_3 179 (by decide +kernel) rfl
theorem wd_501 : (.selects R_Signs y_Signs_firstNotBlank y_Signs_firstNotBlank : Cond) ∈ GW := gw_pr 7 (by decide +kernel) rfl
theorem wd_502 : ((.methodLink "UnifyBench$Signs" 55 y_Letters_beginsVariable) : Cond) ∈ GW := gw_3 193 (by decide +kernel) rfl
theorem wd_503 : ((.methodLink "UnifyBench$Signs" 64 y_Letters_isSmall) : Cond) ∈ GW := gw_3 221 (by decide +kernel) rfl
theorem wd_504 : ((.code y_Letters_isMark prog_5_method_8_code 1 (some .boolean)) : Cond) ∈ GW := gw_4 72 (by decide +kernel) rfl
theorem wd_505 : ((.methodLink "UnifyBench$Signs" 89 y_Letters_isMark) : Cond) ∈ GW := gw_4 70 (by decide +kernel) rfl
theorem wd_506 : ((.static y_Letters_isMark) : Cond) ∈ GW := gw_4 71 (by decide +kernel) rfl
theorem wd_507 : ((.code y_Signs_takeSymbols prog_10_method_16_code 2 none) : Cond) ∈ GW := gw_4 65 (by decide +kernel) rfl
theorem wd_508 : ((.methodLink "UnifyBench$Signs" 86 y_Signs_takeSymbols) : Cond) ∈ GW := gw_4 62 (by decide +kernel) rfl
theorem wd_509 : ((.instanceMethod y_Signs_takeSymbols) : Cond) ∈ GW := gw_4 64 (by decide +kernel) rfl
theorem wd_510 : (.selects R_Signs y_Signs_takeSymbols y_Signs_takeSymbols : Cond) ∈ GW := gw_pr 14 (by decide +kernel) rfl
theorem wd_511 : ((.code y_Signs_takeQuoted prog_10_method_18_code 2 none) : Cond) ∈ GW := gw_3 237 (by decide +kernel) rfl
theorem wd_512 : ((.methodLink "UnifyBench$Signs" 80 y_Signs_takeQuoted) : Cond) ∈ GW := gw_3 234 (by decide +kernel) rfl
theorem wd_513 : ((.instanceMethod y_Signs_takeQuoted) : Cond) ∈ GW := gw_3 236 (by decide +kernel) rfl
theorem wd_514 : (.selects R_Signs y_Signs_takeQuoted y_Signs_takeQuoted : Cond) ∈ GW := gw_pr 13 (by decide +kernel) rfl
theorem wd_515 : ((.code y_Signs_takeInteger prog_10_method_15_code 2 none) : Cond) ∈ GW := gw_3 226 (by decide +kernel) rfl
theorem wd_516 : ((.methodLink "UnifyBench$Signs" 77 y_Signs_takeInteger) : Cond) ∈ GW := gw_3 223 (by decide +kernel) rfl
theorem wd_517 : ((.instanceMethod y_Signs_takeInteger) : Cond) ∈ GW := gw_3 225 (by decide +kernel) rfl
theorem wd_518 : (.selects R_Signs y_Signs_takeInteger y_Signs_takeInteger : Cond) ∈ GW := gw_pr 12 (by decide +kernel) rfl
theorem wd_519 : ((.code y_Signs_takeVariable prog_10_method_14_code 2 none) : Cond) ∈ GW := gw_3 199 (by decide +kernel) rfl
theorem wd_520 : ((.methodLink "UnifyBench$Signs" 61 y_Signs_takeVariable) : Cond) ∈ GW := gw_3 196 (by decide +kernel) rfl
theorem wd_521 : ((.instanceMethod y_Signs_takeVariable) : Cond) ∈ GW := gw_3 198 (by decide +kernel) rfl
theorem wd_522 : (.selects R_Signs y_Signs_takeVariable y_Signs_takeVariable : Cond) ∈ GW := gw_pr 9 (by decide +kernel) rfl
theorem d_Signs_init_0 : decode b_Signs_init 0 = .ok (.aload_n 0, 1) := by decide +kernel
theorem d_Signs_init_1 : decode b_Signs_init 1 = .ok (.invokespecial 1, 3) := by decide +kernel
theorem d_Signs_init_4 : decode b_Signs_init 4 = .ok (.aload_n 0, 1) := by decide +kernel
theorem d_Signs_init_5 : decode b_Signs_init 5 = .ok (.iconst 5, 1) := by decide +kernel
theorem d_Signs_init_6 : decode b_Signs_init 6 = .ok (.putfield 9, 3) := by decide +kernel
theorem d_Signs_init_9 : decode b_Signs_init 9 = .ok (.aload_n 0, 1) := by decide +kernel
theorem d_Signs_init_10 : decode b_Signs_init 10 = .ok (.iconst 0, 1) := by decide +kernel
theorem d_Signs_init_11 : decode b_Signs_init 11 = .ok (.putfield 13, 3) := by decide +kernel
theorem d_Signs_init_14 : decode b_Signs_init 14 = .ok (.aload_n 0, 1) := by decide +kernel
theorem d_Signs_init_15 : decode b_Signs_init 15 = .ok (.iconst 0, 1) := by decide +kernel
theorem d_Signs_init_16 : decode b_Signs_init 16 = .ok (.putfield 16, 3) := by decide +kernel
theorem d_Signs_init_19 : decode b_Signs_init 19 = .ok (.aload_n 0, 1) := by decide +kernel
theorem d_Signs_init_20 : decode b_Signs_init 20 = .ok (.iconst 1, 1) := by decide +kernel
theorem d_Signs_init_21 : decode b_Signs_init 21 = .ok (.putfield 19, 3) := by decide +kernel
theorem d_Signs_init_24 : decode b_Signs_init 24 = .ok (.aload_n 0, 1) := by decide +kernel
theorem d_Signs_init_25 : decode b_Signs_init 25 = .ok (.iconst 0, 1) := by decide +kernel
theorem d_Signs_init_26 : decode b_Signs_init 26 = .ok (.putfield 23, 3) := by decide +kernel
theorem d_Signs_init_29 : decode b_Signs_init 29 = .ok (.aload_n 0, 1) := by decide +kernel
theorem d_Signs_init_30 : decode b_Signs_init 30 = .ok (.lconst 0, 1) := by decide +kernel
theorem d_Signs_init_31 : decode b_Signs_init 31 = .ok (.putfield 26, 3) := by decide +kernel
theorem d_Signs_init_34 : decode b_Signs_init 34 = .ok (.aload_n 0, 1) := by decide +kernel
theorem d_Signs_init_35 : decode b_Signs_init 35 = .ok (.aload_n 1, 1) := by decide +kernel
theorem d_Signs_init_36 : decode b_Signs_init 36 = .ok (.putfield 30, 3) := by decide +kernel
theorem d_Signs_init_39 : decode b_Signs_init 39 = .ok (.aload_n 0, 1) := by decide +kernel
theorem d_Signs_init_40 : decode b_Signs_init 40 = .ok (.aload_n 2, 1) := by decide +kernel
theorem d_Signs_init_41 : decode b_Signs_init 41 = .ok (.putfield 34, 3) := by decide +kernel
theorem d_Signs_init_44 : decode b_Signs_init 44 = .ok (.return_, 1) := by decide +kernel
def p_Signs_init : Option (Int32 × Int32 × Int32 × Int32 × Int32 × Int64) := some ((5 : Int32), (0 : Int32), (0 : Int32), (1 : Int32), (0 : Int32), (0 : Int64))
set_option maxHeartbeats 4000000 in
set_option maxRecDepth 100000 in
theorem c_Signs_init (l : Launch) (g : va_G) (cs : Nat → ClassId) (ka : Nat → Nat) (a_tape : Nat) (a_names : Nat) (a : Nat) (sz : Nat) (o_a_kind : Int32) (o_a_place : Int32) (o_a_behind : Int32) (o_a_passed : Int32) (o_a_name : Int32) (o_a_number : Int64) (hok : p_Signs_init = some (o_a_kind, o_a_place, o_a_behind, o_a_passed, o_a_name, o_a_number)) : Met l y_Signs_init (.code y_Signs_init b_Signs_init 3 none :: GW) { frames := 1, cells := 0, slots := 0, locals := 12 } (va_Pc [.ref a, .ref a_tape, .ref a_names] (gP g cs ka [(a, .inr (6, [.null, .null, .int 0, .int 0, .int 0, .int 0, .int 0, .long 0]))] sz)) (va_Qv (fun _ : Unit => True) (fun _ t => va_P g classes [(a, .inr (6, [.ref a_tape, .ref a_names, .int o_a_kind, .int o_a_place, .int o_a_behind, .int o_a_passed, .int o_a_name, .long o_a_number]))] t.heap ∧ va_D (va_A [(a, .inr (6, [.null, .null, .int 0, .int 0, .int 0, .int 0, .int 0, .long 0]))] sz) [(a, .inr (6, [.ref a_tape, .ref a_names, .int o_a_kind, .int o_a_place, .int o_a_behind, .int o_a_passed, .int o_a_name, .long o_a_number]))]) (va_A [(a, .inr (6, [.null, .null, .int 0, .int 0, .int 0, .int 0, .int 0, .long 0]))] sz)) 0 0 (va_A [(a, .inr (6, [.null, .null, .int 0, .int 0, .int 0, .int 0, .int 0, .long 0]))] sz) := by
  refine Met.ofW (cc := b_Signs_init) (maxL := 3) (ret := none) (by decide) rfl ?_
  intro p e s m args below meth c s₁ B hml hv
  obtain ⟨rfl, hsz, hP, hK, hD0, hgl, hkn, hkr⟩ := hv
  have hx := B.exec
  have hb := B.bytes
  have hr := B.returns
  have hg : ∀ w ∈ GW, w.before ([.ref a, .ref a_tape, .ref a_names] : List Value).toArray s = true := fun w hw => atoms_spec (ws := .code y_Signs_init b_Signs_init 3 none :: GW) B.pre w (List.mem_cons_of_mem _ hw)
  have hown : s.vm.findClass R_Signs = some m.cls := findClass_of_methodNamed B.named
  have hlocks := B.notSynchronized
  have hin : meth.name = "<init>" := (name_of_methodNamed B.named B.method).1
  subst hsz
  have hD := hD0.self (sz := s.heap.size)
  generalize hAe : va_A [(a, .inr (6, [.null, .null, .int 0, .int 0, .int 0, .int 0, .int 0, .long 0]))] s.heap.size = A at hD hkn ⊢
  have hA : ∀ q : Nat, s.heap.size ≤ q → A q := fun q h => by rw [← hAe]; exact Or.inr h
  have hS : va_S A s.heap s.heap [] := va_S.rf
  have hP : va_P g classes [(a, .inr (6, [.null, .null, .int 0, .int 0, .int 0, .int 0, .int 0, .long 0]))] s.heap := hP
  have hl := lv_entry ([.ref a, .ref a_tape, .ref a_names]) (n := 3) (Nat.le_of_ble_eq_true rfl)
  rw [lg_entry_eq]
  generalize (lg_sl ([.ref a, .ref a_tape, .ref a_names]) ++ List.replicate (3 - (lg_sl ([.ref a, .ref a_tape, .ref a_names])).length) Slot.unset).toArray = ls at hl ⊢
  have hl : lv_has ls 3 [(0, .ref a), (1, .ref a_tape), (2, .ref a_names)] := hl
  refine gq (fun Q hQ => ?_)
  obtain ⟨H, hH⟩ : ∃ H : Heap, H = s.heap := ⟨_, rfl⟩
  rw [← hH] at hP
  have hS : va_S A s.heap H [] := by rw [hH]; exact hS
  refine W.eqH hH ?_
  obtain ⟨locs, hlc⟩ : ∃ L : List Loc, L = [] := ⟨_, rfl⟩
  rw [← hlc] at hS ⊢
  unfold p_Signs_init at hok
  refine lv_aload_n hx hb d_Signs_init_0 rfl (lv_at hl 0 rfl) ?_
  refine W.objInit hx hb hown (hg _ wd_440) (hg _ wd_158) (hg _ wd_159) rfl (by rw [hml]; exact hl.1) rfl d_Signs_init_1 (Nat.le_of_ble_eq_true rfl) (Nat.le_of_ble_eq_true rfl) ?_
  refine W.eq (g2 := F0 m 4 ls []) rfl ?_
  refine lv_aload_n hx hb d_Signs_init_4 rfl (lv_at hl 0 rfl) ?_
  refine lv_iconst (v := 5) hx hb d_Signs_init_5 (by decide) ?_
  refine va_put (D := g) (ci := 6) (v := .int 5) (ty := .int) (C := R_Signs) (T := F_Signs) (N := 8) hx hb hg ul_Signs t_Signs tk_Signs n_Signs hown hK hP hD hS 0 rfl rfl 2 (by decide) (hg _ wd_441) (fun _ h9 => h9) rfl (by decide +kernel) rfl rfl (Nat.le_of_ble_eq_true rfl) d_Signs_init_6 (fun H locs hP hD hS => ?_)
  obtain ⟨hP, hD⟩ : PD g A H [(a, .inr (6, [.null, .null, .int 5, .int 0, .int 0, .int 0, .int 0, .long 0]))] := ⟨hP, hD⟩
  refine lv_aload_n hx hb d_Signs_init_9 rfl (lv_at hl 0 rfl) ?_
  refine lv_iconst (v := 0) hx hb d_Signs_init_10 (by decide) ?_
  refine va_put (D := g) (ci := 6) (v := .int 0) (ty := .int) (C := R_Signs) (T := F_Signs) (N := 8) hx hb hg ul_Signs t_Signs tk_Signs n_Signs hown hK hP hD hS 0 rfl rfl 3 (by decide) (hg _ wd_442) (fun _ h9 => h9) rfl (by decide +kernel) rfl rfl (Nat.le_of_ble_eq_true rfl) d_Signs_init_11 (fun H locs hP hD hS => ?_)
  obtain ⟨hP, hD⟩ : PD g A H [(a, .inr (6, [.null, .null, .int 5, .int 0, .int 0, .int 0, .int 0, .long 0]))] := ⟨hP, hD⟩
  refine lv_aload_n hx hb d_Signs_init_14 rfl (lv_at hl 0 rfl) ?_
  refine lv_iconst (v := 0) hx hb d_Signs_init_15 (by decide) ?_
  refine va_put (D := g) (ci := 6) (v := .int 0) (ty := .int) (C := R_Signs) (T := F_Signs) (N := 8) hx hb hg ul_Signs t_Signs tk_Signs n_Signs hown hK hP hD hS 0 rfl rfl 4 (by decide) (hg _ wd_443) (fun _ h9 => h9) rfl (by decide +kernel) rfl rfl (Nat.le_of_ble_eq_true rfl) d_Signs_init_16 (fun H locs hP hD hS => ?_)
  obtain ⟨hP, hD⟩ : PD g A H [(a, .inr (6, [.null, .null, .int 5, .int 0, .int 0, .int 0, .int 0, .long 0]))] := ⟨hP, hD⟩
  refine lv_aload_n hx hb d_Signs_init_19 rfl (lv_at hl 0 rfl) ?_
  refine lv_iconst (v := 1) hx hb d_Signs_init_20 (by decide) ?_
  refine va_put (D := g) (ci := 6) (v := .int 1) (ty := .boolean) (C := R_Signs) (T := F_Signs) (N := 8) hx hb hg ul_Signs t_Signs tk_Signs n_Signs hown hK hP hD hS 0 rfl rfl 5 (by decide) (hg _ wd_444) (fun _ h9 => h9) rfl (by decide +kernel) rfl rfl (Nat.le_of_ble_eq_true rfl) d_Signs_init_21 (fun H locs hP hD hS => ?_)
  obtain ⟨hP, hD⟩ : PD g A H [(a, .inr (6, [.null, .null, .int 5, .int 0, .int 0, .int 1, .int 0, .long 0]))] := ⟨hP, hD⟩
  refine lv_aload_n hx hb d_Signs_init_24 rfl (lv_at hl 0 rfl) ?_
  refine lv_iconst (v := 0) hx hb d_Signs_init_25 (by decide) ?_
  refine va_put (D := g) (ci := 6) (v := .int 0) (ty := .int) (C := R_Signs) (T := F_Signs) (N := 8) hx hb hg ul_Signs t_Signs tk_Signs n_Signs hown hK hP hD hS 0 rfl rfl 6 (by decide) (hg _ wd_445) (fun _ h9 => h9) rfl (by decide +kernel) rfl rfl (Nat.le_of_ble_eq_true rfl) d_Signs_init_26 (fun H locs hP hD hS => ?_)
  obtain ⟨hP, hD⟩ : PD g A H [(a, .inr (6, [.null, .null, .int 5, .int 0, .int 0, .int 1, .int 0, .long 0]))] := ⟨hP, hD⟩
  refine lv_aload_n hx hb d_Signs_init_29 rfl (lv_at hl 0 rfl) ?_
  refine lv_lconst (v := 0) hx hb d_Signs_init_30 (by decide) ?_
  refine va_put (D := g) (ci := 6) (v := .long 0) (ty := .long) (C := R_Signs) (T := F_Signs) (N := 8) hx hb hg ul_Signs t_Signs tk_Signs n_Signs hown hK hP hD hS 0 rfl rfl 7 (by decide) (hg _ wd_446) (fun _ h9 => h9) rfl (by decide +kernel) rfl rfl (Nat.le_of_ble_eq_true rfl) d_Signs_init_31 (fun H locs hP hD hS => ?_)
  obtain ⟨hP, hD⟩ : PD g A H [(a, .inr (6, [.null, .null, .int 5, .int 0, .int 0, .int 1, .int 0, .long 0]))] := ⟨hP, hD⟩
  refine lv_aload_n hx hb d_Signs_init_34 rfl (lv_at hl 0 rfl) ?_
  refine lv_aload_n hx hb d_Signs_init_35 rfl (lv_at hl 1 rfl) ?_
  refine va_putF (D := g) (ci := 6) (v := .ref a_tape) (ty := .object "UnifyBench$Bytes") (C := R_Signs) (T := F_Signs) (N := 8) hx hb hg ul_Signs t_Signs tk_Signs n_Signs hown hK hP hD hS 0 rfl rfl 0 (by decide) (hg _ wd_447) (fun _ h9 => h9) rfl hin rfl (by decide +kernel) rfl rfl (Nat.le_of_ble_eq_true rfl) d_Signs_init_36 (fun H locs hP hD hS => ?_)
  obtain ⟨hP, hD⟩ : PD g A H [(a, .inr (6, [.ref a_tape, .null, .int 5, .int 0, .int 0, .int 1, .int 0, .long 0]))] := ⟨hP, hD⟩
  refine lv_aload_n hx hb d_Signs_init_39 rfl (lv_at hl 0 rfl) ?_
  refine lv_aload_n hx hb d_Signs_init_40 rfl (lv_at hl 2 rfl) ?_
  refine va_putF (D := g) (ci := 6) (v := .ref a_names) (ty := .object "UnifyBench$Names") (C := R_Signs) (T := F_Signs) (N := 8) hx hb hg ul_Signs t_Signs tk_Signs n_Signs hown hK hP hD hS 0 rfl rfl 1 (by decide) (hg _ wd_448) (fun _ h9 => h9) rfl hin rfl (by decide +kernel) rfl rfl (Nat.le_of_ble_eq_true rfl) d_Signs_init_41 (fun H locs hP hD hS => ?_)
  obtain ⟨hP, hD⟩ : PD g A H [(a, .inr (6, [.ref a_tape, .ref a_names, .int 5, .int 0, .int 0, .int 1, .int 0, .long 0]))] := ⟨hP, hD⟩
  have hq := Option.some.inj hok
  obtain ⟨hq0, hq⟩ := Prod.mk.inj hq
  obtain ⟨hq1, hq⟩ := Prod.mk.inj hq
  obtain ⟨hq2, hq⟩ := Prod.mk.inj hq
  obtain ⟨hq3, hq⟩ := Prod.mk.inj hq
  obtain ⟨hq4, hq⟩ := Prod.mk.inj hq
  have hq5 := hq
  subst hq0
  subst hq1
  subst hq2
  subst hq3
  subst hq4
  subst hq5
  obtain ⟨hP9, hD9⟩ := sub2 (ws' := [(a, .inr (6, [.ref a_tape, .ref a_names, .int 5, .int 0, .int 0, .int 1, .int 0, .long 0]))]) hP hD [0] rfl (by decide) rfl
  rw [hQ]
  exact W.vret hx hb hr (fun t ht hW => ⟨⟨(), rfl, trivial, by rw [ht]; exact hP9, hD9⟩, hS.F ht⟩) hS.2.2 d_Signs_init_44

theorem d_Signs_kind_0 : decode b_Signs_kind 0 = .ok (.aload_n 0, 1) := by decide +kernel
theorem d_Signs_kind_1 : decode b_Signs_kind 1 = .ok (.getfield 9, 3) := by decide +kernel
theorem d_Signs_kind_4 : decode b_Signs_kind 4 = .ok (.ireturn, 1) := by decide +kernel
def p_Signs_kind (a_kind : Int32) (a_place : Int32) (a_behind : Int32) (a_passed : Int32) (a_name : Int32) (a_number : Int64) : Option Int32 := some a_kind
set_option maxHeartbeats 4000000 in
set_option maxRecDepth 100000 in
theorem c_Signs_kind (l : Launch) (g : va_G) (cs : Nat → ClassId) (ka : Nat → Nat) (a_tape : Nat) (a_names : Nat) (a : Nat) (sz : Nat) (a_kind : Int32) (a_place : Int32) (a_behind : Int32) (a_passed : Int32) (a_name : Int32) (a_number : Int64) (r : Int32) (hok : p_Signs_kind a_kind a_place a_behind a_passed a_name a_number = some r) : Met l y_Signs_kind (.code y_Signs_kind b_Signs_kind 1 (some .int) :: GW) { frames := 0, cells := 0, slots := 0, locals := 0 } (va_Pc [.ref a] (gP g cs ka [(a, .inr (6, [.ref a_tape, .ref a_names, .int a_kind, .int a_place, .int a_behind, .int a_passed, .int a_name, .long a_number]))] sz)) (va_Qi (fun (r' : Int32) (_ : Unit) => r = r') (fun _ t => va_P g classes [(a, .inr (6, [.ref a_tape, .ref a_names, .int a_kind, .int a_place, .int a_behind, .int a_passed, .int a_name, .long a_number]))] t.heap ∧ va_D (va_A [(a, .inr (6, [.ref a_tape, .ref a_names, .int a_kind, .int a_place, .int a_behind, .int a_passed, .int a_name, .long a_number]))] sz) [(a, .inr (6, [.ref a_tape, .ref a_names, .int a_kind, .int a_place, .int a_behind, .int a_passed, .int a_name, .long a_number]))]) (va_A [(a, .inr (6, [.ref a_tape, .ref a_names, .int a_kind, .int a_place, .int a_behind, .int a_passed, .int a_name, .long a_number]))] sz)) 0 0 (va_A [(a, .inr (6, [.ref a_tape, .ref a_names, .int a_kind, .int a_place, .int a_behind, .int a_passed, .int a_name, .long a_number]))] sz) := by
  refine Met.ofW (cc := b_Signs_kind) (maxL := 1) (ret := (some .int)) (by decide) rfl ?_
  intro p e s m args below meth c s₁ B hml hv
  obtain ⟨rfl, hsz, hP, hK, hD0, hgl, hkn, hkr⟩ := hv
  have hx := B.exec
  have hb := B.bytes
  have hr := B.returns
  have hg : ∀ w ∈ GW, w.before ([.ref a] : List Value).toArray s = true := fun w hw => atoms_spec (ws := .code y_Signs_kind b_Signs_kind 1 (some .int) :: GW) B.pre w (List.mem_cons_of_mem _ hw)
  have hown : s.vm.findClass R_Signs = some m.cls := findClass_of_methodNamed B.named
  have hlocks := B.notSynchronized
  subst hsz
  have hD := hD0.self (sz := s.heap.size)
  generalize hAe : va_A [(a, .inr (6, [.ref a_tape, .ref a_names, .int a_kind, .int a_place, .int a_behind, .int a_passed, .int a_name, .long a_number]))] s.heap.size = A at hD hkn ⊢
  have hA : ∀ q : Nat, s.heap.size ≤ q → A q := fun q h => by rw [← hAe]; exact Or.inr h
  have hS : va_S A s.heap s.heap [] := va_S.rf
  have hP : va_P g classes [(a, .inr (6, [.ref a_tape, .ref a_names, .int a_kind, .int a_place, .int a_behind, .int a_passed, .int a_name, .long a_number]))] s.heap := hP
  have hl := lv_entry ([.ref a]) (n := 1) (Nat.le_of_ble_eq_true rfl)
  rw [lg_entry_eq]
  generalize (lg_sl ([.ref a]) ++ List.replicate (1 - (lg_sl ([.ref a])).length) Slot.unset).toArray = ls at hl ⊢
  have hl : lv_has ls 1 [(0, .ref a)] := hl
  refine gq (fun Q hQ => ?_)
  obtain ⟨H, hH⟩ : ∃ H : Heap, H = s.heap := ⟨_, rfl⟩
  rw [← hH] at hP
  have hS : va_S A s.heap H [] := by rw [hH]; exact hS
  refine W.eqH hH ?_
  obtain ⟨locs, hlc⟩ : ∃ L : List Loc, L = [] := ⟨_, rfl⟩
  rw [← hlc] at hS ⊢
  unfold p_Signs_kind at hok
  refine lv_aload_n hx hb d_Signs_kind_0 rfl (lv_at hl 0 rfl) ?_
  refine va_get (D := g) (ci := 6) (v := .int a_kind) (C := R_Signs) (T := F_Signs) (N := 8) hx hb hg ul_Signs hown hK hP 0 rfl rfl 2 (by decide) (hg _ wd_441) (fun _ h9 => h9) rfl d_Signs_kind_1 ?_
  have hq := Option.some.inj hok
  have hq0 := hq
  subst hq0
  obtain ⟨hP9, hD9⟩ := sub2 (ws' := [(a, .inr (6, [.ref a_tape, .ref a_names, .int a_kind, .int a_place, .int a_behind, .int a_passed, .int a_name, .long a_number]))]) hP hD [0] rfl (by decide) rfl
  rw [hQ]
  exact W.iret (v := a_kind) hx hb hr (fun t ht hW => ⟨⟨_, (), rfl, rfl, by rw [ht]; exact hP9, hD9⟩, hS.F ht⟩) hS.2.2 d_Signs_kind_4

theorem d_Signs_place_0 : decode b_Signs_place 0 = .ok (.aload_n 0, 1) := by decide +kernel
theorem d_Signs_place_1 : decode b_Signs_place 1 = .ok (.getfield 13, 3) := by decide +kernel
theorem d_Signs_place_4 : decode b_Signs_place 4 = .ok (.ireturn, 1) := by decide +kernel
def p_Signs_place (a_kind : Int32) (a_place : Int32) (a_behind : Int32) (a_passed : Int32) (a_name : Int32) (a_number : Int64) : Option Int32 := some a_place
set_option maxHeartbeats 4000000 in
set_option maxRecDepth 100000 in
theorem c_Signs_place (l : Launch) (g : va_G) (cs : Nat → ClassId) (ka : Nat → Nat) (a_tape : Nat) (a_names : Nat) (a : Nat) (sz : Nat) (a_kind : Int32) (a_place : Int32) (a_behind : Int32) (a_passed : Int32) (a_name : Int32) (a_number : Int64) (r : Int32) (hok : p_Signs_place a_kind a_place a_behind a_passed a_name a_number = some r) : Met l y_Signs_place (.code y_Signs_place b_Signs_place 1 (some .int) :: GW) { frames := 0, cells := 0, slots := 0, locals := 0 } (va_Pc [.ref a] (gP g cs ka [(a, .inr (6, [.ref a_tape, .ref a_names, .int a_kind, .int a_place, .int a_behind, .int a_passed, .int a_name, .long a_number]))] sz)) (va_Qi (fun (r' : Int32) (_ : Unit) => r = r') (fun _ t => va_P g classes [(a, .inr (6, [.ref a_tape, .ref a_names, .int a_kind, .int a_place, .int a_behind, .int a_passed, .int a_name, .long a_number]))] t.heap ∧ va_D (va_A [(a, .inr (6, [.ref a_tape, .ref a_names, .int a_kind, .int a_place, .int a_behind, .int a_passed, .int a_name, .long a_number]))] sz) [(a, .inr (6, [.ref a_tape, .ref a_names, .int a_kind, .int a_place, .int a_behind, .int a_passed, .int a_name, .long a_number]))]) (va_A [(a, .inr (6, [.ref a_tape, .ref a_names, .int a_kind, .int a_place, .int a_behind, .int a_passed, .int a_name, .long a_number]))] sz)) 0 0 (va_A [(a, .inr (6, [.ref a_tape, .ref a_names, .int a_kind, .int a_place, .int a_behind, .int a_passed, .int a_name, .long a_number]))] sz) := by
  refine Met.ofW (cc := b_Signs_place) (maxL := 1) (ret := (some .int)) (by decide) rfl ?_
  intro p e s m args below meth c s₁ B hml hv
  obtain ⟨rfl, hsz, hP, hK, hD0, hgl, hkn, hkr⟩ := hv
  have hx := B.exec
  have hb := B.bytes
  have hr := B.returns
  have hg : ∀ w ∈ GW, w.before ([.ref a] : List Value).toArray s = true := fun w hw => atoms_spec (ws := .code y_Signs_place b_Signs_place 1 (some .int) :: GW) B.pre w (List.mem_cons_of_mem _ hw)
  have hown : s.vm.findClass R_Signs = some m.cls := findClass_of_methodNamed B.named
  have hlocks := B.notSynchronized
  subst hsz
  have hD := hD0.self (sz := s.heap.size)
  generalize hAe : va_A [(a, .inr (6, [.ref a_tape, .ref a_names, .int a_kind, .int a_place, .int a_behind, .int a_passed, .int a_name, .long a_number]))] s.heap.size = A at hD hkn ⊢
  have hA : ∀ q : Nat, s.heap.size ≤ q → A q := fun q h => by rw [← hAe]; exact Or.inr h
  have hS : va_S A s.heap s.heap [] := va_S.rf
  have hP : va_P g classes [(a, .inr (6, [.ref a_tape, .ref a_names, .int a_kind, .int a_place, .int a_behind, .int a_passed, .int a_name, .long a_number]))] s.heap := hP
  have hl := lv_entry ([.ref a]) (n := 1) (Nat.le_of_ble_eq_true rfl)
  rw [lg_entry_eq]
  generalize (lg_sl ([.ref a]) ++ List.replicate (1 - (lg_sl ([.ref a])).length) Slot.unset).toArray = ls at hl ⊢
  have hl : lv_has ls 1 [(0, .ref a)] := hl
  refine gq (fun Q hQ => ?_)
  obtain ⟨H, hH⟩ : ∃ H : Heap, H = s.heap := ⟨_, rfl⟩
  rw [← hH] at hP
  have hS : va_S A s.heap H [] := by rw [hH]; exact hS
  refine W.eqH hH ?_
  obtain ⟨locs, hlc⟩ : ∃ L : List Loc, L = [] := ⟨_, rfl⟩
  rw [← hlc] at hS ⊢
  unfold p_Signs_place at hok
  refine lv_aload_n hx hb d_Signs_place_0 rfl (lv_at hl 0 rfl) ?_
  refine va_get (D := g) (ci := 6) (v := .int a_place) (C := R_Signs) (T := F_Signs) (N := 8) hx hb hg ul_Signs hown hK hP 0 rfl rfl 3 (by decide) (hg _ wd_442) (fun _ h9 => h9) rfl d_Signs_place_1 ?_
  have hq := Option.some.inj hok
  have hq0 := hq
  subst hq0
  obtain ⟨hP9, hD9⟩ := sub2 (ws' := [(a, .inr (6, [.ref a_tape, .ref a_names, .int a_kind, .int a_place, .int a_behind, .int a_passed, .int a_name, .long a_number]))]) hP hD [0] rfl (by decide) rfl
  rw [hQ]
  exact W.iret (v := a_place) hx hb hr (fun t ht hW => ⟨⟨_, (), rfl, rfl, by rw [ht]; exact hP9, hD9⟩, hS.F ht⟩) hS.2.2 d_Signs_place_4

theorem d_Signs_behind_0 : decode b_Signs_behind 0 = .ok (.aload_n 0, 1) := by decide +kernel
theorem d_Signs_behind_1 : decode b_Signs_behind 1 = .ok (.getfield 16, 3) := by decide +kernel
theorem d_Signs_behind_4 : decode b_Signs_behind 4 = .ok (.ireturn, 1) := by decide +kernel
def p_Signs_behind (a_kind : Int32) (a_place : Int32) (a_behind : Int32) (a_passed : Int32) (a_name : Int32) (a_number : Int64) : Option Int32 := some a_behind
set_option maxHeartbeats 4000000 in
set_option maxRecDepth 100000 in
theorem c_Signs_behind (l : Launch) (g : va_G) (cs : Nat → ClassId) (ka : Nat → Nat) (a_tape : Nat) (a_names : Nat) (a : Nat) (sz : Nat) (a_kind : Int32) (a_place : Int32) (a_behind : Int32) (a_passed : Int32) (a_name : Int32) (a_number : Int64) (r : Int32) (hok : p_Signs_behind a_kind a_place a_behind a_passed a_name a_number = some r) : Met l y_Signs_behind (.code y_Signs_behind b_Signs_behind 1 (some .int) :: GW) { frames := 0, cells := 0, slots := 0, locals := 0 } (va_Pc [.ref a] (gP g cs ka [(a, .inr (6, [.ref a_tape, .ref a_names, .int a_kind, .int a_place, .int a_behind, .int a_passed, .int a_name, .long a_number]))] sz)) (va_Qi (fun (r' : Int32) (_ : Unit) => r = r') (fun _ t => va_P g classes [(a, .inr (6, [.ref a_tape, .ref a_names, .int a_kind, .int a_place, .int a_behind, .int a_passed, .int a_name, .long a_number]))] t.heap ∧ va_D (va_A [(a, .inr (6, [.ref a_tape, .ref a_names, .int a_kind, .int a_place, .int a_behind, .int a_passed, .int a_name, .long a_number]))] sz) [(a, .inr (6, [.ref a_tape, .ref a_names, .int a_kind, .int a_place, .int a_behind, .int a_passed, .int a_name, .long a_number]))]) (va_A [(a, .inr (6, [.ref a_tape, .ref a_names, .int a_kind, .int a_place, .int a_behind, .int a_passed, .int a_name, .long a_number]))] sz)) 0 0 (va_A [(a, .inr (6, [.ref a_tape, .ref a_names, .int a_kind, .int a_place, .int a_behind, .int a_passed, .int a_name, .long a_number]))] sz) := by
  refine Met.ofW (cc := b_Signs_behind) (maxL := 1) (ret := (some .int)) (by decide) rfl ?_
  intro p e s m args below meth c s₁ B hml hv
  obtain ⟨rfl, hsz, hP, hK, hD0, hgl, hkn, hkr⟩ := hv
  have hx := B.exec
  have hb := B.bytes
  have hr := B.returns
  have hg : ∀ w ∈ GW, w.before ([.ref a] : List Value).toArray s = true := fun w hw => atoms_spec (ws := .code y_Signs_behind b_Signs_behind 1 (some .int) :: GW) B.pre w (List.mem_cons_of_mem _ hw)
  have hown : s.vm.findClass R_Signs = some m.cls := findClass_of_methodNamed B.named
  have hlocks := B.notSynchronized
  subst hsz
  have hD := hD0.self (sz := s.heap.size)
  generalize hAe : va_A [(a, .inr (6, [.ref a_tape, .ref a_names, .int a_kind, .int a_place, .int a_behind, .int a_passed, .int a_name, .long a_number]))] s.heap.size = A at hD hkn ⊢
  have hA : ∀ q : Nat, s.heap.size ≤ q → A q := fun q h => by rw [← hAe]; exact Or.inr h
  have hS : va_S A s.heap s.heap [] := va_S.rf
  have hP : va_P g classes [(a, .inr (6, [.ref a_tape, .ref a_names, .int a_kind, .int a_place, .int a_behind, .int a_passed, .int a_name, .long a_number]))] s.heap := hP
  have hl := lv_entry ([.ref a]) (n := 1) (Nat.le_of_ble_eq_true rfl)
  rw [lg_entry_eq]
  generalize (lg_sl ([.ref a]) ++ List.replicate (1 - (lg_sl ([.ref a])).length) Slot.unset).toArray = ls at hl ⊢
  have hl : lv_has ls 1 [(0, .ref a)] := hl
  refine gq (fun Q hQ => ?_)
  obtain ⟨H, hH⟩ : ∃ H : Heap, H = s.heap := ⟨_, rfl⟩
  rw [← hH] at hP
  have hS : va_S A s.heap H [] := by rw [hH]; exact hS
  refine W.eqH hH ?_
  obtain ⟨locs, hlc⟩ : ∃ L : List Loc, L = [] := ⟨_, rfl⟩
  rw [← hlc] at hS ⊢
  unfold p_Signs_behind at hok
  refine lv_aload_n hx hb d_Signs_behind_0 rfl (lv_at hl 0 rfl) ?_
  refine va_get (D := g) (ci := 6) (v := .int a_behind) (C := R_Signs) (T := F_Signs) (N := 8) hx hb hg ul_Signs hown hK hP 0 rfl rfl 4 (by decide) (hg _ wd_443) (fun _ h9 => h9) rfl d_Signs_behind_1 ?_
  have hq := Option.some.inj hok
  have hq0 := hq
  subst hq0
  obtain ⟨hP9, hD9⟩ := sub2 (ws' := [(a, .inr (6, [.ref a_tape, .ref a_names, .int a_kind, .int a_place, .int a_behind, .int a_passed, .int a_name, .long a_number]))]) hP hD [0] rfl (by decide) rfl
  rw [hQ]
  exact W.iret (v := a_behind) hx hb hr (fun t ht hW => ⟨⟨_, (), rfl, rfl, by rw [ht]; exact hP9, hD9⟩, hS.F ht⟩) hS.2.2 d_Signs_behind_4

theorem d_Signs_name_0 : decode b_Signs_name 0 = .ok (.aload_n 0, 1) := by decide +kernel
theorem d_Signs_name_1 : decode b_Signs_name 1 = .ok (.getfield 23, 3) := by decide +kernel
theorem d_Signs_name_4 : decode b_Signs_name 4 = .ok (.ireturn, 1) := by decide +kernel
def p_Signs_name (a_kind : Int32) (a_place : Int32) (a_behind : Int32) (a_passed : Int32) (a_name : Int32) (a_number : Int64) : Option Int32 := some a_name
set_option maxHeartbeats 4000000 in
set_option maxRecDepth 100000 in
theorem c_Signs_name (l : Launch) (g : va_G) (cs : Nat → ClassId) (ka : Nat → Nat) (a_tape : Nat) (a_names : Nat) (a : Nat) (sz : Nat) (a_kind : Int32) (a_place : Int32) (a_behind : Int32) (a_passed : Int32) (a_name : Int32) (a_number : Int64) (r : Int32) (hok : p_Signs_name a_kind a_place a_behind a_passed a_name a_number = some r) : Met l y_Signs_name (.code y_Signs_name b_Signs_name 1 (some .int) :: GW) { frames := 0, cells := 0, slots := 0, locals := 0 } (va_Pc [.ref a] (gP g cs ka [(a, .inr (6, [.ref a_tape, .ref a_names, .int a_kind, .int a_place, .int a_behind, .int a_passed, .int a_name, .long a_number]))] sz)) (va_Qi (fun (r' : Int32) (_ : Unit) => r = r') (fun _ t => va_P g classes [(a, .inr (6, [.ref a_tape, .ref a_names, .int a_kind, .int a_place, .int a_behind, .int a_passed, .int a_name, .long a_number]))] t.heap ∧ va_D (va_A [(a, .inr (6, [.ref a_tape, .ref a_names, .int a_kind, .int a_place, .int a_behind, .int a_passed, .int a_name, .long a_number]))] sz) [(a, .inr (6, [.ref a_tape, .ref a_names, .int a_kind, .int a_place, .int a_behind, .int a_passed, .int a_name, .long a_number]))]) (va_A [(a, .inr (6, [.ref a_tape, .ref a_names, .int a_kind, .int a_place, .int a_behind, .int a_passed, .int a_name, .long a_number]))] sz)) 0 0 (va_A [(a, .inr (6, [.ref a_tape, .ref a_names, .int a_kind, .int a_place, .int a_behind, .int a_passed, .int a_name, .long a_number]))] sz) := by
  refine Met.ofW (cc := b_Signs_name) (maxL := 1) (ret := (some .int)) (by decide) rfl ?_
  intro p e s m args below meth c s₁ B hml hv
  obtain ⟨rfl, hsz, hP, hK, hD0, hgl, hkn, hkr⟩ := hv
  have hx := B.exec
  have hb := B.bytes
  have hr := B.returns
  have hg : ∀ w ∈ GW, w.before ([.ref a] : List Value).toArray s = true := fun w hw => atoms_spec (ws := .code y_Signs_name b_Signs_name 1 (some .int) :: GW) B.pre w (List.mem_cons_of_mem _ hw)
  have hown : s.vm.findClass R_Signs = some m.cls := findClass_of_methodNamed B.named
  have hlocks := B.notSynchronized
  subst hsz
  have hD := hD0.self (sz := s.heap.size)
  generalize hAe : va_A [(a, .inr (6, [.ref a_tape, .ref a_names, .int a_kind, .int a_place, .int a_behind, .int a_passed, .int a_name, .long a_number]))] s.heap.size = A at hD hkn ⊢
  have hA : ∀ q : Nat, s.heap.size ≤ q → A q := fun q h => by rw [← hAe]; exact Or.inr h
  have hS : va_S A s.heap s.heap [] := va_S.rf
  have hP : va_P g classes [(a, .inr (6, [.ref a_tape, .ref a_names, .int a_kind, .int a_place, .int a_behind, .int a_passed, .int a_name, .long a_number]))] s.heap := hP
  have hl := lv_entry ([.ref a]) (n := 1) (Nat.le_of_ble_eq_true rfl)
  rw [lg_entry_eq]
  generalize (lg_sl ([.ref a]) ++ List.replicate (1 - (lg_sl ([.ref a])).length) Slot.unset).toArray = ls at hl ⊢
  have hl : lv_has ls 1 [(0, .ref a)] := hl
  refine gq (fun Q hQ => ?_)
  obtain ⟨H, hH⟩ : ∃ H : Heap, H = s.heap := ⟨_, rfl⟩
  rw [← hH] at hP
  have hS : va_S A s.heap H [] := by rw [hH]; exact hS
  refine W.eqH hH ?_
  obtain ⟨locs, hlc⟩ : ∃ L : List Loc, L = [] := ⟨_, rfl⟩
  rw [← hlc] at hS ⊢
  unfold p_Signs_name at hok
  refine lv_aload_n hx hb d_Signs_name_0 rfl (lv_at hl 0 rfl) ?_
  refine va_get (D := g) (ci := 6) (v := .int a_name) (C := R_Signs) (T := F_Signs) (N := 8) hx hb hg ul_Signs hown hK hP 0 rfl rfl 6 (by decide) (hg _ wd_445) (fun _ h9 => h9) rfl d_Signs_name_1 ?_
  have hq := Option.some.inj hok
  have hq0 := hq
  subst hq0
  obtain ⟨hP9, hD9⟩ := sub2 (ws' := [(a, .inr (6, [.ref a_tape, .ref a_names, .int a_kind, .int a_place, .int a_behind, .int a_passed, .int a_name, .long a_number]))]) hP hD [0] rfl (by decide) rfl
  rw [hQ]
  exact W.iret (v := a_name) hx hb hr (fun t ht hW => ⟨⟨_, (), rfl, rfl, by rw [ht]; exact hP9, hD9⟩, hS.F ht⟩) hS.2.2 d_Signs_name_4

theorem d_Signs_number_0 : decode b_Signs_number 0 = .ok (.aload_n 0, 1) := by decide +kernel
theorem d_Signs_number_1 : decode b_Signs_number 1 = .ok (.getfield 26, 3) := by decide +kernel
theorem d_Signs_number_4 : decode b_Signs_number 4 = .ok (.lreturn, 1) := by decide +kernel
def p_Signs_number (a_kind : Int32) (a_place : Int32) (a_behind : Int32) (a_passed : Int32) (a_name : Int32) (a_number : Int64) : Option Int64 := some a_number
set_option maxHeartbeats 4000000 in
set_option maxRecDepth 100000 in
theorem c_Signs_number (l : Launch) (g : va_G) (cs : Nat → ClassId) (ka : Nat → Nat) (a_tape : Nat) (a_names : Nat) (a : Nat) (sz : Nat) (a_kind : Int32) (a_place : Int32) (a_behind : Int32) (a_passed : Int32) (a_name : Int32) (a_number : Int64) (r : Int64) (hok : p_Signs_number a_kind a_place a_behind a_passed a_name a_number = some r) : Met l y_Signs_number (.code y_Signs_number b_Signs_number 1 (some .long) :: GW) { frames := 0, cells := 0, slots := 0, locals := 0 } (va_Pc [.ref a] (gP g cs ka [(a, .inr (6, [.ref a_tape, .ref a_names, .int a_kind, .int a_place, .int a_behind, .int a_passed, .int a_name, .long a_number]))] sz)) (va_Ql (fun (r' : Int64) (_ : Unit) => r = r') (fun _ t => va_P g classes [(a, .inr (6, [.ref a_tape, .ref a_names, .int a_kind, .int a_place, .int a_behind, .int a_passed, .int a_name, .long a_number]))] t.heap ∧ va_D (va_A [(a, .inr (6, [.ref a_tape, .ref a_names, .int a_kind, .int a_place, .int a_behind, .int a_passed, .int a_name, .long a_number]))] sz) [(a, .inr (6, [.ref a_tape, .ref a_names, .int a_kind, .int a_place, .int a_behind, .int a_passed, .int a_name, .long a_number]))]) (va_A [(a, .inr (6, [.ref a_tape, .ref a_names, .int a_kind, .int a_place, .int a_behind, .int a_passed, .int a_name, .long a_number]))] sz)) 0 0 (va_A [(a, .inr (6, [.ref a_tape, .ref a_names, .int a_kind, .int a_place, .int a_behind, .int a_passed, .int a_name, .long a_number]))] sz) := by
  refine Met.ofW (cc := b_Signs_number) (maxL := 1) (ret := (some .long)) (by decide) rfl ?_
  intro p e s m args below meth c s₁ B hml hv
  obtain ⟨rfl, hsz, hP, hK, hD0, hgl, hkn, hkr⟩ := hv
  have hx := B.exec
  have hb := B.bytes
  have hr := B.returns
  have hg : ∀ w ∈ GW, w.before ([.ref a] : List Value).toArray s = true := fun w hw => atoms_spec (ws := .code y_Signs_number b_Signs_number 1 (some .long) :: GW) B.pre w (List.mem_cons_of_mem _ hw)
  have hown : s.vm.findClass R_Signs = some m.cls := findClass_of_methodNamed B.named
  have hlocks := B.notSynchronized
  subst hsz
  have hD := hD0.self (sz := s.heap.size)
  generalize hAe : va_A [(a, .inr (6, [.ref a_tape, .ref a_names, .int a_kind, .int a_place, .int a_behind, .int a_passed, .int a_name, .long a_number]))] s.heap.size = A at hD hkn ⊢
  have hA : ∀ q : Nat, s.heap.size ≤ q → A q := fun q h => by rw [← hAe]; exact Or.inr h
  have hS : va_S A s.heap s.heap [] := va_S.rf
  have hP : va_P g classes [(a, .inr (6, [.ref a_tape, .ref a_names, .int a_kind, .int a_place, .int a_behind, .int a_passed, .int a_name, .long a_number]))] s.heap := hP
  have hl := lv_entry ([.ref a]) (n := 1) (Nat.le_of_ble_eq_true rfl)
  rw [lg_entry_eq]
  generalize (lg_sl ([.ref a]) ++ List.replicate (1 - (lg_sl ([.ref a])).length) Slot.unset).toArray = ls at hl ⊢
  have hl : lv_has ls 1 [(0, .ref a)] := hl
  refine gq (fun Q hQ => ?_)
  obtain ⟨H, hH⟩ : ∃ H : Heap, H = s.heap := ⟨_, rfl⟩
  rw [← hH] at hP
  have hS : va_S A s.heap H [] := by rw [hH]; exact hS
  refine W.eqH hH ?_
  obtain ⟨locs, hlc⟩ : ∃ L : List Loc, L = [] := ⟨_, rfl⟩
  rw [← hlc] at hS ⊢
  unfold p_Signs_number at hok
  refine lv_aload_n hx hb d_Signs_number_0 rfl (lv_at hl 0 rfl) ?_
  refine va_get (D := g) (ci := 6) (v := .long a_number) (C := R_Signs) (T := F_Signs) (N := 8) hx hb hg ul_Signs hown hK hP 0 rfl rfl 7 (by decide) (hg _ wd_446) (fun _ h9 => h9) rfl d_Signs_number_1 ?_
  have hq := Option.some.inj hok
  have hq0 := hq
  subst hq0
  obtain ⟨hP9, hD9⟩ := sub2 (ws' := [(a, .inr (6, [.ref a_tape, .ref a_names, .int a_kind, .int a_place, .int a_behind, .int a_passed, .int a_name, .long a_number]))]) hP hD [0] rfl (by decide) rfl
  rw [hQ]
  exact W.lret (v := a_number) hx hb hr (fun t ht hW => ⟨⟨_, (), rfl, rfl, by rw [ht]; exact hP9, hD9⟩, hS.F ht⟩) hS.2.2 d_Signs_number_4

theorem d_Signs_goToFirst_0 : decode b_Signs_goToFirst 0 = .ok (.aload_n 0, 1) := by decide +kernel
theorem d_Signs_goToFirst_1 : decode b_Signs_goToFirst 1 = .ok (.iconst 0, 1) := by decide +kernel
theorem d_Signs_goToFirst_2 : decode b_Signs_goToFirst 2 = .ok (.putfield 16, 3) := by decide +kernel
theorem d_Signs_goToFirst_5 : decode b_Signs_goToFirst 5 = .ok (.aload_n 0, 1) := by decide +kernel
theorem d_Signs_goToFirst_6 : decode b_Signs_goToFirst 6 = .ok (.iconst 1, 1) := by decide +kernel
theorem d_Signs_goToFirst_7 : decode b_Signs_goToFirst 7 = .ok (.putfield 19, 3) := by decide +kernel
theorem d_Signs_goToFirst_10 : decode b_Signs_goToFirst 10 = .ok (.return_, 1) := by decide +kernel
def p_Signs_goToFirst (a_kind : Int32) (a_place : Int32) (a_behind : Int32) (a_passed : Int32) (a_name : Int32) (a_number : Int64) : Option (Int32 × Int32) := some ((0 : Int32), (1 : Int32))
set_option maxHeartbeats 4000000 in
set_option maxRecDepth 100000 in
theorem c_Signs_goToFirst (l : Launch) (g : va_G) (cs : Nat → ClassId) (ka : Nat → Nat) (a_tape : Nat) (a_names : Nat) (a : Nat) (sz : Nat) (a_kind : Int32) (a_place : Int32) (a_behind : Int32) (a_passed : Int32) (a_name : Int32) (a_number : Int64) (o_a_behind : Int32) (o_a_passed : Int32) (hok : p_Signs_goToFirst a_kind a_place a_behind a_passed a_name a_number = some (o_a_behind, o_a_passed)) : Met l y_Signs_goToFirst (.code y_Signs_goToFirst b_Signs_goToFirst 1 none :: GW) { frames := 0, cells := 0, slots := 0, locals := 0 } (va_Pc [.ref a] (gP g cs ka [(a, .inr (6, [.ref a_tape, .ref a_names, .int a_kind, .int a_place, .int a_behind, .int a_passed, .int a_name, .long a_number]))] sz)) (va_Qv (fun _ : Unit => True) (fun _ t => va_P g classes [(a, .inr (6, [.ref a_tape, .ref a_names, .int a_kind, .int a_place, .int o_a_behind, .int o_a_passed, .int a_name, .long a_number]))] t.heap ∧ va_D (va_A [(a, .inr (6, [.ref a_tape, .ref a_names, .int a_kind, .int a_place, .int a_behind, .int a_passed, .int a_name, .long a_number]))] sz) [(a, .inr (6, [.ref a_tape, .ref a_names, .int a_kind, .int a_place, .int o_a_behind, .int o_a_passed, .int a_name, .long a_number]))]) (va_A [(a, .inr (6, [.ref a_tape, .ref a_names, .int a_kind, .int a_place, .int a_behind, .int a_passed, .int a_name, .long a_number]))] sz)) 0 0 (va_A [(a, .inr (6, [.ref a_tape, .ref a_names, .int a_kind, .int a_place, .int a_behind, .int a_passed, .int a_name, .long a_number]))] sz) := by
  refine Met.ofW (cc := b_Signs_goToFirst) (maxL := 1) (ret := none) (by decide) rfl ?_
  intro p e s m args below meth c s₁ B hml hv
  obtain ⟨rfl, hsz, hP, hK, hD0, hgl, hkn, hkr⟩ := hv
  have hx := B.exec
  have hb := B.bytes
  have hr := B.returns
  have hg : ∀ w ∈ GW, w.before ([.ref a] : List Value).toArray s = true := fun w hw => atoms_spec (ws := .code y_Signs_goToFirst b_Signs_goToFirst 1 none :: GW) B.pre w (List.mem_cons_of_mem _ hw)
  have hown : s.vm.findClass R_Signs = some m.cls := findClass_of_methodNamed B.named
  have hlocks := B.notSynchronized
  subst hsz
  have hD := hD0.self (sz := s.heap.size)
  generalize hAe : va_A [(a, .inr (6, [.ref a_tape, .ref a_names, .int a_kind, .int a_place, .int a_behind, .int a_passed, .int a_name, .long a_number]))] s.heap.size = A at hD hkn ⊢
  have hA : ∀ q : Nat, s.heap.size ≤ q → A q := fun q h => by rw [← hAe]; exact Or.inr h
  have hS : va_S A s.heap s.heap [] := va_S.rf
  have hP : va_P g classes [(a, .inr (6, [.ref a_tape, .ref a_names, .int a_kind, .int a_place, .int a_behind, .int a_passed, .int a_name, .long a_number]))] s.heap := hP
  have hl := lv_entry ([.ref a]) (n := 1) (Nat.le_of_ble_eq_true rfl)
  rw [lg_entry_eq]
  generalize (lg_sl ([.ref a]) ++ List.replicate (1 - (lg_sl ([.ref a])).length) Slot.unset).toArray = ls at hl ⊢
  have hl : lv_has ls 1 [(0, .ref a)] := hl
  refine gq (fun Q hQ => ?_)
  obtain ⟨H, hH⟩ : ∃ H : Heap, H = s.heap := ⟨_, rfl⟩
  rw [← hH] at hP
  have hS : va_S A s.heap H [] := by rw [hH]; exact hS
  refine W.eqH hH ?_
  obtain ⟨locs, hlc⟩ : ∃ L : List Loc, L = [] := ⟨_, rfl⟩
  rw [← hlc] at hS ⊢
  unfold p_Signs_goToFirst at hok
  refine lv_aload_n hx hb d_Signs_goToFirst_0 rfl (lv_at hl 0 rfl) ?_
  refine lv_iconst (v := 0) hx hb d_Signs_goToFirst_1 (by decide) ?_
  refine va_put (D := g) (ci := 6) (v := .int 0) (ty := .int) (C := R_Signs) (T := F_Signs) (N := 8) hx hb hg ul_Signs t_Signs tk_Signs n_Signs hown hK hP hD hS 0 rfl rfl 4 (by decide) (hg _ wd_443) (fun _ h9 => h9) rfl (by decide +kernel) rfl rfl (Nat.le_of_ble_eq_true rfl) d_Signs_goToFirst_2 (fun H locs hP hD hS => ?_)
  obtain ⟨hP, hD⟩ : PD g A H [(a, .inr (6, [.ref a_tape, .ref a_names, .int a_kind, .int a_place, .int 0, .int a_passed, .int a_name, .long a_number]))] := ⟨hP, hD⟩
  refine lv_aload_n hx hb d_Signs_goToFirst_5 rfl (lv_at hl 0 rfl) ?_
  refine lv_iconst (v := 1) hx hb d_Signs_goToFirst_6 (by decide) ?_
  refine va_put (D := g) (ci := 6) (v := .int 1) (ty := .boolean) (C := R_Signs) (T := F_Signs) (N := 8) hx hb hg ul_Signs t_Signs tk_Signs n_Signs hown hK hP hD hS 0 rfl rfl 5 (by decide) (hg _ wd_444) (fun _ h9 => h9) rfl (by decide +kernel) rfl rfl (Nat.le_of_ble_eq_true rfl) d_Signs_goToFirst_7 (fun H locs hP hD hS => ?_)
  obtain ⟨hP, hD⟩ : PD g A H [(a, .inr (6, [.ref a_tape, .ref a_names, .int a_kind, .int a_place, .int 0, .int 1, .int a_name, .long a_number]))] := ⟨hP, hD⟩
  have hq := Option.some.inj hok
  obtain ⟨hq0, hq⟩ := Prod.mk.inj hq
  have hq1 := hq
  subst hq0
  subst hq1
  obtain ⟨hP9, hD9⟩ := sub2 (ws' := [(a, .inr (6, [.ref a_tape, .ref a_names, .int a_kind, .int a_place, .int 0, .int 1, .int a_name, .long a_number]))]) hP hD [0] rfl (by decide) rfl
  rw [hQ]
  exact W.vret hx hb hr (fun t ht hW => ⟨⟨(), rfl, trivial, by rw [ht]; exact hP9, hD9⟩, hS.F ht⟩) hS.2.2 d_Signs_goToFirst_10

theorem d_Signs_pass_0 : decode b_Signs_pass 0 = .ok (.aload_n 0, 1) := by decide +kernel
theorem d_Signs_pass_1 : decode b_Signs_pass 1 = .ok (.iconst 1, 1) := by decide +kernel
theorem d_Signs_pass_2 : decode b_Signs_pass 2 = .ok (.putfield 19, 3) := by decide +kernel
theorem d_Signs_pass_5 : decode b_Signs_pass 5 = .ok (.return_, 1) := by decide +kernel
def p_Signs_pass (a_kind : Int32) (a_place : Int32) (a_behind : Int32) (a_passed : Int32) (a_name : Int32) (a_number : Int64) : Option Int32 := some (1 : Int32)
set_option maxHeartbeats 4000000 in
set_option maxRecDepth 100000 in
theorem c_Signs_pass (l : Launch) (g : va_G) (cs : Nat → ClassId) (ka : Nat → Nat) (a_tape : Nat) (a_names : Nat) (a : Nat) (sz : Nat) (a_kind : Int32) (a_place : Int32) (a_behind : Int32) (a_passed : Int32) (a_name : Int32) (a_number : Int64) (o_a_passed : Int32) (hok : p_Signs_pass a_kind a_place a_behind a_passed a_name a_number = some o_a_passed) : Met l y_Signs_pass (.code y_Signs_pass b_Signs_pass 1 none :: GW) { frames := 0, cells := 0, slots := 0, locals := 0 } (va_Pc [.ref a] (gP g cs ka [(a, .inr (6, [.ref a_tape, .ref a_names, .int a_kind, .int a_place, .int a_behind, .int a_passed, .int a_name, .long a_number]))] sz)) (va_Qv (fun _ : Unit => True) (fun _ t => va_P g classes [(a, .inr (6, [.ref a_tape, .ref a_names, .int a_kind, .int a_place, .int a_behind, .int o_a_passed, .int a_name, .long a_number]))] t.heap ∧ va_D (va_A [(a, .inr (6, [.ref a_tape, .ref a_names, .int a_kind, .int a_place, .int a_behind, .int a_passed, .int a_name, .long a_number]))] sz) [(a, .inr (6, [.ref a_tape, .ref a_names, .int a_kind, .int a_place, .int a_behind, .int o_a_passed, .int a_name, .long a_number]))]) (va_A [(a, .inr (6, [.ref a_tape, .ref a_names, .int a_kind, .int a_place, .int a_behind, .int a_passed, .int a_name, .long a_number]))] sz)) 0 0 (va_A [(a, .inr (6, [.ref a_tape, .ref a_names, .int a_kind, .int a_place, .int a_behind, .int a_passed, .int a_name, .long a_number]))] sz) := by
  refine Met.ofW (cc := b_Signs_pass) (maxL := 1) (ret := none) (by decide) rfl ?_
  intro p e s m args below meth c s₁ B hml hv
  obtain ⟨rfl, hsz, hP, hK, hD0, hgl, hkn, hkr⟩ := hv
  have hx := B.exec
  have hb := B.bytes
  have hr := B.returns
  have hg : ∀ w ∈ GW, w.before ([.ref a] : List Value).toArray s = true := fun w hw => atoms_spec (ws := .code y_Signs_pass b_Signs_pass 1 none :: GW) B.pre w (List.mem_cons_of_mem _ hw)
  have hown : s.vm.findClass R_Signs = some m.cls := findClass_of_methodNamed B.named
  have hlocks := B.notSynchronized
  subst hsz
  have hD := hD0.self (sz := s.heap.size)
  generalize hAe : va_A [(a, .inr (6, [.ref a_tape, .ref a_names, .int a_kind, .int a_place, .int a_behind, .int a_passed, .int a_name, .long a_number]))] s.heap.size = A at hD hkn ⊢
  have hA : ∀ q : Nat, s.heap.size ≤ q → A q := fun q h => by rw [← hAe]; exact Or.inr h
  have hS : va_S A s.heap s.heap [] := va_S.rf
  have hP : va_P g classes [(a, .inr (6, [.ref a_tape, .ref a_names, .int a_kind, .int a_place, .int a_behind, .int a_passed, .int a_name, .long a_number]))] s.heap := hP
  have hl := lv_entry ([.ref a]) (n := 1) (Nat.le_of_ble_eq_true rfl)
  rw [lg_entry_eq]
  generalize (lg_sl ([.ref a]) ++ List.replicate (1 - (lg_sl ([.ref a])).length) Slot.unset).toArray = ls at hl ⊢
  have hl : lv_has ls 1 [(0, .ref a)] := hl
  refine gq (fun Q hQ => ?_)
  obtain ⟨H, hH⟩ : ∃ H : Heap, H = s.heap := ⟨_, rfl⟩
  rw [← hH] at hP
  have hS : va_S A s.heap H [] := by rw [hH]; exact hS
  refine W.eqH hH ?_
  obtain ⟨locs, hlc⟩ : ∃ L : List Loc, L = [] := ⟨_, rfl⟩
  rw [← hlc] at hS ⊢
  unfold p_Signs_pass at hok
  refine lv_aload_n hx hb d_Signs_pass_0 rfl (lv_at hl 0 rfl) ?_
  refine lv_iconst (v := 1) hx hb d_Signs_pass_1 (by decide) ?_
  refine va_put (D := g) (ci := 6) (v := .int 1) (ty := .boolean) (C := R_Signs) (T := F_Signs) (N := 8) hx hb hg ul_Signs t_Signs tk_Signs n_Signs hown hK hP hD hS 0 rfl rfl 5 (by decide) (hg _ wd_444) (fun _ h9 => h9) rfl (by decide +kernel) rfl rfl (Nat.le_of_ble_eq_true rfl) d_Signs_pass_2 (fun H locs hP hD hS => ?_)
  obtain ⟨hP, hD⟩ : PD g A H [(a, .inr (6, [.ref a_tape, .ref a_names, .int a_kind, .int a_place, .int a_behind, .int 1, .int a_name, .long a_number]))] := ⟨hP, hD⟩
  have hq := Option.some.inj hok
  have hq0 := hq
  subst hq0
  obtain ⟨hP9, hD9⟩ := sub2 (ws' := [(a, .inr (6, [.ref a_tape, .ref a_names, .int a_kind, .int a_place, .int a_behind, .int 1, .int a_name, .long a_number]))]) hP hD [0] rfl (by decide) rfl
  rw [hQ]
  exact W.vret hx hb hr (fun t ht hW => ⟨⟨(), rfl, trivial, by rw [ht]; exact hP9, hD9⟩, hS.F ht⟩) hS.2.2 d_Signs_pass_5

theorem d_Signs_firstNotBlank_0 : decode b_Signs_firstNotBlank 0 = .ok (.iconst 0, 1) := by decide +kernel
theorem d_Signs_firstNotBlank_1 : decode b_Signs_firstNotBlank 1 = .ok (.istore_n 2, 1) := by decide +kernel
theorem d_Signs_firstNotBlank_2 : decode b_Signs_firstNotBlank 2 = .ok (.iload_n 1, 1) := by decide +kernel
theorem d_Signs_firstNotBlank_3 : decode b_Signs_firstNotBlank 3 = .ok (.istore_n 3, 1) := by decide +kernel
theorem d_Signs_firstNotBlank_4 : decode b_Signs_firstNotBlank 4 = .ok (.iload_n 3, 1) := by decide +kernel
theorem d_Signs_firstNotBlank_5 : decode b_Signs_firstNotBlank 5 = .ok (.aload_n 0, 1) := by decide +kernel
theorem d_Signs_firstNotBlank_6 : decode b_Signs_firstNotBlank 6 = .ok (.getfield 30, 3) := by decide +kernel
theorem d_Signs_firstNotBlank_9 : decode b_Signs_firstNotBlank 9 = .ok (.invokevirtual 47, 3) := by decide +kernel
theorem d_Signs_firstNotBlank_12 : decode b_Signs_firstNotBlank 12 = .ok (.if_icmp .ge 61, 3) := by decide +kernel
theorem d_Signs_firstNotBlank_15 : decode b_Signs_firstNotBlank 15 = .ok (.aload_n 0, 1) := by decide +kernel
theorem d_Signs_firstNotBlank_16 : decode b_Signs_firstNotBlank 16 = .ok (.getfield 30, 3) := by decide +kernel
theorem d_Signs_firstNotBlank_19 : decode b_Signs_firstNotBlank 19 = .ok (.iload_n 3, 1) := by decide +kernel
theorem d_Signs_firstNotBlank_20 : decode b_Signs_firstNotBlank 20 = .ok (.invokevirtual 42, 3) := by decide +kernel
theorem d_Signs_firstNotBlank_23 : decode b_Signs_firstNotBlank 23 = .ok (.istore 4, 2) := by decide +kernel
theorem d_Signs_firstNotBlank_25 : decode b_Signs_firstNotBlank 25 = .ok (.iload_n 2, 1) := by decide +kernel
theorem d_Signs_firstNotBlank_26 : decode b_Signs_firstNotBlank 26 = .ok (.ifCond .eq 19, 3) := by decide +kernel
theorem d_Signs_firstNotBlank_29 : decode b_Signs_firstNotBlank 29 = .ok (.iload 4, 2) := by decide +kernel
theorem d_Signs_firstNotBlank_31 : decode b_Signs_firstNotBlank 31 = .ok (.bipush 10, 2) := by decide +kernel
theorem d_Signs_firstNotBlank_33 : decode b_Signs_firstNotBlank 33 = .ok (.if_icmp .eq 7, 3) := by decide +kernel
theorem d_Signs_firstNotBlank_36 : decode b_Signs_firstNotBlank 36 = .ok (.iconst 1, 1) := by decide +kernel
theorem d_Signs_firstNotBlank_37 : decode b_Signs_firstNotBlank 37 = .ok (.goto 4, 3) := by decide +kernel
theorem d_Signs_firstNotBlank_40 : decode b_Signs_firstNotBlank 40 = .ok (.iconst 0, 1) := by decide +kernel
theorem d_Signs_firstNotBlank_41 : decode b_Signs_firstNotBlank 41 = .ok (.istore_n 2, 1) := by decide +kernel
theorem d_Signs_firstNotBlank_42 : decode b_Signs_firstNotBlank 42 = .ok (.goto 25, 3) := by decide +kernel
theorem d_Signs_firstNotBlank_45 : decode b_Signs_firstNotBlank 45 = .ok (.iload 4, 2) := by decide +kernel
theorem d_Signs_firstNotBlank_47 : decode b_Signs_firstNotBlank 47 = .ok (.bipush 37, 2) := by decide +kernel
theorem d_Signs_firstNotBlank_49 : decode b_Signs_firstNotBlank 49 = .ok (.if_icmp .ne 8, 3) := by decide +kernel
theorem d_Signs_firstNotBlank_52 : decode b_Signs_firstNotBlank 52 = .ok (.iconst 1, 1) := by decide +kernel
theorem d_Signs_firstNotBlank_53 : decode b_Signs_firstNotBlank 53 = .ok (.istore_n 2, 1) := by decide +kernel
theorem d_Signs_firstNotBlank_54 : decode b_Signs_firstNotBlank 54 = .ok (.goto 13, 3) := by decide +kernel
theorem d_Signs_firstNotBlank_57 : decode b_Signs_firstNotBlank 57 = .ok (.iload 4, 2) := by decide +kernel
theorem d_Signs_firstNotBlank_59 : decode b_Signs_firstNotBlank 59 = .ok (.invokestatic 92, 3) := by decide +kernel
theorem d_Signs_firstNotBlank_62 : decode b_Signs_firstNotBlank 62 = .ok (.ifCond .ne 5, 3) := by decide +kernel
theorem d_Signs_firstNotBlank_65 : decode b_Signs_firstNotBlank 65 = .ok (.iload_n 3, 1) := by decide +kernel
theorem d_Signs_firstNotBlank_66 : decode b_Signs_firstNotBlank 66 = .ok (.ireturn, 1) := by decide +kernel
theorem d_Signs_firstNotBlank_67 : decode b_Signs_firstNotBlank 67 = .ok (.iinc 3 1, 3) := by decide +kernel
theorem d_Signs_firstNotBlank_70 : decode b_Signs_firstNotBlank 70 = .ok (.goto (-66), 3) := by decide +kernel
theorem d_Signs_firstNotBlank_73 : decode b_Signs_firstNotBlank 73 = .ok (.aload_n 0, 1) := by decide +kernel
theorem d_Signs_firstNotBlank_74 : decode b_Signs_firstNotBlank 74 = .ok (.getfield 30, 3) := by decide +kernel
theorem d_Signs_firstNotBlank_77 : decode b_Signs_firstNotBlank 77 = .ok (.invokevirtual 47, 3) := by decide +kernel
theorem d_Signs_firstNotBlank_80 : decode b_Signs_firstNotBlank 80 = .ok (.ireturn, 1) := by decide +kernel
def p_Signs_firstNotBlank_4 (n : Nat) (a_tape_size : Int32) (a_tape_items_n : Nat) (a_tape_items_f : Nat → Int32) (kf1 : Nat) (x3_1 : Int32) (x2_1 : Int32) : Option Int32 := match kf1 with
  | 0 => none
  | kf1 + 1 => (p_Bytes_size a_tape_size).bind (fun r2 => if r2 ≤ x3_1 then ((p_Bytes_size a_tape_size).bind (fun r4 => some r4)) else ((p_Bytes_at x3_1 a_tape_size a_tape_items_n a_tape_items_f).bind (fun r5 => if x2_1 = 0 then (if r5 = 37 then (p_Signs_firstNotBlank_4 n a_tape_size a_tape_items_n a_tape_items_f kf1 (x3_1 + 1) (1 : Int32)) else ((p_Letters_isBlank r5).bind (fun r8 => if r8 = 0 then (some x3_1) else (p_Signs_firstNotBlank_4 n a_tape_size a_tape_items_n a_tape_items_f kf1 (x3_1 + 1) x2_1)))) else (if r5 = 10 then (p_Signs_firstNotBlank_4 n a_tape_size a_tape_items_n a_tape_items_f kf1 (x3_1 + 1) (0 : Int32)) else (p_Signs_firstNotBlank_4 n a_tape_size a_tape_items_n a_tape_items_f kf1 (x3_1 + 1) (1 : Int32))))))
def p_Signs_firstNotBlank (n : Nat) (from_ : Int32) (a_kind : Int32) (a_place : Int32) (a_behind : Int32) (a_passed : Int32) (a_name : Int32) (a_number : Int64) (a_tape_size : Int32) (a_tape_items_n : Nat) (a_tape_items_f : Nat → Int32) : Option Int32 := p_Signs_firstNotBlank_4 n a_tape_size a_tape_items_n a_tape_items_f n from_ (0 : Int32)
set_option maxHeartbeats 4000000 in
set_option maxRecDepth 100000 in
theorem c_Signs_firstNotBlank (l : Launch) (g : va_G) (cs : Nat → ClassId) (ka : Nat → Nat) (a_names : Nat) (a a_tape a_tape_items : Nat) (sz : Nat) (n : Nat) (from_ : Int32) (a_kind : Int32) (a_place : Int32) (a_behind : Int32) (a_passed : Int32) (a_name : Int32) (a_number : Int64) (a_tape_size : Int32) (a_tape_items_n : Nat) (a_tape_items_f : Nat → Int32) (r : Int32) (hok : p_Signs_firstNotBlank n from_ a_kind a_place a_behind a_passed a_name a_number a_tape_size a_tape_items_n a_tape_items_f = some r) : Met l y_Signs_firstNotBlank (.code y_Signs_firstNotBlank b_Signs_firstNotBlank 5 (some .int) :: GW) { frames := 1, cells := 0, slots := 0, locals := 21 } (va_Pc [.ref a, .int from_] (gP g cs ka [(a, .inr (6, [.ref a_tape, .ref a_names, .int a_kind, .int a_place, .int a_behind, .int a_passed, .int a_name, .long a_number])), (a_tape, .inr (0, [.ref a_tape_items, .int a_tape_size])), (a_tape_items, .inl (cs 1, a_tape_items_n, .inl a_tape_items_f))] sz)) (va_Qi (fun (r' : Int32) (_ : Unit) => r = r') (fun _ t => va_P g classes [(a, .inr (6, [.ref a_tape, .ref a_names, .int a_kind, .int a_place, .int a_behind, .int a_passed, .int a_name, .long a_number])), (a_tape, .inr (0, [.ref a_tape_items, .int a_tape_size])), (a_tape_items, .inl (cs 1, a_tape_items_n, .inl a_tape_items_f))] t.heap ∧ va_D (va_A [(a, .inr (6, [.ref a_tape, .ref a_names, .int a_kind, .int a_place, .int a_behind, .int a_passed, .int a_name, .long a_number])), (a_tape, .inr (0, [.ref a_tape_items, .int a_tape_size])), (a_tape_items, .inl (cs 1, a_tape_items_n, .inl a_tape_items_f))] sz) [(a, .inr (6, [.ref a_tape, .ref a_names, .int a_kind, .int a_place, .int a_behind, .int a_passed, .int a_name, .long a_number])), (a_tape, .inr (0, [.ref a_tape_items, .int a_tape_size])), (a_tape_items, .inl (cs 1, a_tape_items_n, .inl a_tape_items_f))]) (va_A [(a, .inr (6, [.ref a_tape, .ref a_names, .int a_kind, .int a_place, .int a_behind, .int a_passed, .int a_name, .long a_number])), (a_tape, .inr (0, [.ref a_tape_items, .int a_tape_size])), (a_tape_items, .inl (cs 1, a_tape_items_n, .inl a_tape_items_f))] sz)) 0 0 (va_A [(a, .inr (6, [.ref a_tape, .ref a_names, .int a_kind, .int a_place, .int a_behind, .int a_passed, .int a_name, .long a_number])), (a_tape, .inr (0, [.ref a_tape_items, .int a_tape_size])), (a_tape_items, .inl (cs 1, a_tape_items_n, .inl a_tape_items_f))] sz) := by
  refine Met.ofW (cc := b_Signs_firstNotBlank) (maxL := 5) (ret := (some .int)) (by decide) rfl ?_
  intro p e s m args below meth c s₁ B hml hv
  obtain ⟨rfl, hsz, hP, hK, hD0, hgl, hkn, hkr⟩ := hv
  have hx := B.exec
  have hb := B.bytes
  have hr := B.returns
  have hg : ∀ w ∈ GW, w.before ([.ref a, .int from_] : List Value).toArray s = true := fun w hw => atoms_spec (ws := .code y_Signs_firstNotBlank b_Signs_firstNotBlank 5 (some .int) :: GW) B.pre w (List.mem_cons_of_mem _ hw)
  have hown : s.vm.findClass R_Signs = some m.cls := findClass_of_methodNamed B.named
  have hlocks := B.notSynchronized
  subst hsz
  have hD := hD0.self (sz := s.heap.size)
  generalize hAe : va_A [(a, .inr (6, [.ref a_tape, .ref a_names, .int a_kind, .int a_place, .int a_behind, .int a_passed, .int a_name, .long a_number])), (a_tape, .inr (0, [.ref a_tape_items, .int a_tape_size])), (a_tape_items, .inl (cs 1, a_tape_items_n, .inl a_tape_items_f))] s.heap.size = A at hD hkn ⊢
  have hA : ∀ q : Nat, s.heap.size ≤ q → A q := fun q h => by rw [← hAe]; exact Or.inr h
  have hS : va_S A s.heap s.heap [] := va_S.rf
  have hP : va_P g classes [(a, .inr (6, [.ref a_tape, .ref a_names, .int a_kind, .int a_place, .int a_behind, .int a_passed, .int a_name, .long a_number])), (a_tape, .inr (0, [.ref a_tape_items, .int a_tape_size])), (a_tape_items, .inl (cs 1, a_tape_items_n, .inl a_tape_items_f))] s.heap := hP
  have hl := lv_entry ([.ref a, .int from_]) (n := 5) (Nat.le_of_ble_eq_true rfl)
  rw [lg_entry_eq]
  generalize (lg_sl ([.ref a, .int from_]) ++ List.replicate (5 - (lg_sl ([.ref a, .int from_])).length) Slot.unset).toArray = ls at hl ⊢
  have hl : lv_has ls 5 [(0, .ref a), (1, .int from_)] := hl
  refine gq (fun Q hQ => ?_)
  obtain ⟨H, hH⟩ : ∃ H : Heap, H = s.heap := ⟨_, rfl⟩
  rw [← hH] at hP
  have hS : va_S A s.heap H [] := by rw [hH]; exact hS
  refine W.eqH hH ?_
  obtain ⟨locs, hlc⟩ : ∃ L : List Loc, L = [] := ⟨_, rfl⟩
  rw [← hlc] at hS ⊢
  unfold p_Signs_firstNotBlank at hok
  refine lv_iconst (v := 0) hx hb d_Signs_firstNotBlank_0 (by decide) ?_
  refine lv_istore_n hx hb d_Signs_firstNotBlank_1 rfl hl (by decide) rfl (fun ls hl => ?_)
  have hl : lv_has ls 5 [(2, .int 0), (0, .ref a), (1, .int from_)] := hl
  refine lv_iload_n hx hb d_Signs_firstNotBlank_2 rfl (lv_at hl 2 rfl) ?_
  refine lv_istore_n hx hb d_Signs_firstNotBlank_3 rfl hl (by decide) rfl (fun ls hl => ?_)
  have hl : lv_has ls 5 [(3, .int from_), (2, .int 0), (0, .ref a), (1, .int from_)] := hl
  have J1 : ∀ (kf1 : Nat) (H : Heap) (locs : List Loc) (ls : Array Slot) (x3_1 : Int32) (x2_1 : Int32), lv_has ls 5 [(3, .int x3_1), (2, .int x2_1), (0, .ref a), (1, .int from_)] → PD g A H [(a, .inr (6, [.ref a_tape, .ref a_names, .int a_kind, .int a_place, .int a_behind, .int a_passed, .int a_name, .long a_number])), (a_tape, .inr (0, [.ref a_tape_items, .int a_tape_size])), (a_tape_items, .inl (cs 1, a_tape_items_n, .inl a_tape_items_f))] → va_S A s.heap H locs → p_Signs_firstNotBlank_4 n a_tape_size a_tape_items_n a_tape_items_f kf1 x3_1 x2_1 = some r → W p l e (headSpec (.code y_Signs_firstNotBlank b_Signs_firstNotBlank 5 (some .int) :: GW) { frames := 1, cells := 0, slots := 0, locals := 21 }).room s m ([.ref a, .int from_] : List Value).toArray below meth c H locs 0 0 Q (F0 m 4 ls []) := by
    intro kf1
    induction kf1 with
    | zero => intro H locs ls x3_1 x2_1 hl ⟨hP, hD⟩ hS hok; rw [p_Signs_firstNotBlank_4] at hok; cases hok
    | succ kf1 ih1 =>
      intro H locs ls x3_1 x2_1 hl ⟨hP, hD⟩ hS hok
      rw [p_Signs_firstNotBlank_4] at hok
      refine lv_iload_n hx hb d_Signs_firstNotBlank_4 rfl (lv_at hl 0 rfl) ?_
      refine lv_aload_n hx hb d_Signs_firstNotBlank_5 rfl (lv_at hl 2 rfl) ?_
      refine va_get (D := g) (ci := 6) (v := .ref a_tape) (C := R_Signs) (T := F_Signs) (N := 8) hx hb hg ul_Signs hown hK hP 0 rfl rfl 0 (by decide) (hg _ wd_447) (fun _ h9 => h9) rfl d_Signs_firstNotBlank_6 ?_
      obtain ⟨r2, hc2, hok⟩ := bd_some hok
      obtain ⟨hPc, hDc, hFc⟩ := cut0 (wc := [(a_tape, .inr (0, [.ref a_tape_items, .int a_tape_size]))]) hP hD hS hA [1] (by decide) rfl
      refine va_calli (va_runV (As := []) (rest := [.int x3_1]) ⟨hx, hb, hml, hown, hg⟩ (c_Bytes_size l g cs ka a_tape_items a_tape H.size a_tape_size r2 hc2) (cwV (C := R_Bytes) 0 hg (gw_V wd_451 wd_452 wd_453 wd_450 wd_449) rfl rfl rfl (by decide +kernel) ⟨Nat.le_of_ble_eq_true rfl, Nat.le_of_ble_eq_true rfl⟩) ⟨gP_blind, va_recv (q0 := 1) (ci := 0) (q := (R_Bytes, F_Bytes, 2)) hK hP rfl rfl, gP_pre hPc hDc hK hgl hkn hkr hS hFc⟩ rfl rfl hl.1 rfl (lv_room (Nat.le_of_ble_eq_true rfl)) d_Signs_firstNotBlank_9 ⟨Nat.le_of_ble_eq_true rfl, Nat.le_of_ble_eq_true rfl⟩) hS (fun q _ h => hFc q h) hFc (fun r2' u t H locs ht hvm hr2 hB hz1 hk1 hS => ?_)
      subst hr2
      rw [ht] at hB
      obtain ⟨hP1, hD1⟩ := hB
      obtain ⟨hP, hD⟩ := jn_A hP hD [1] [0, 2] rfl rfl (by decide) (by decide) hk1 hFc hP1 hD1
      obtain ⟨hP, hD⟩ : PD g A H [(a, .inr (6, [.ref a_tape, .ref a_names, .int a_kind, .int a_place, .int a_behind, .int a_passed, .int a_name, .long a_number])), (a_tape_items, .inl (cs 1, a_tape_items_n, .inl a_tape_items_f)), (a_tape, .inr (0, [.ref a_tape_items, .int a_tape_size]))] := ⟨hP, hD⟩
      refine lv_icmp_ge hx hb d_Signs_firstNotBlank_12 rfl (fun h3 => ?_) (fun h3 => ?_)
      · rw [if_pos h3] at hok
        refine lv_aload_n hx hb d_Signs_firstNotBlank_73 rfl (lv_at hl 2 rfl) ?_
        refine va_get (D := g) (ci := 6) (v := .ref a_tape) (C := R_Signs) (T := F_Signs) (N := 8) hx hb hg ul_Signs hown hK hP 0 rfl rfl 0 (by decide) (hg _ wd_447) (fun _ h9 => h9) rfl d_Signs_firstNotBlank_74 ?_
        obtain ⟨r4, hc4, hok⟩ := bd_some hok
        obtain ⟨hPc, hDc, hFc⟩ := cut0 (wc := [(a_tape, .inr (0, [.ref a_tape_items, .int a_tape_size]))]) hP hD hS hA [2] (by decide) rfl
        refine va_calli (va_runV (As := []) (rest := []) ⟨hx, hb, hml, hown, hg⟩ (c_Bytes_size l g cs ka a_tape_items a_tape H.size a_tape_size r4 hc4) (cwV (C := R_Bytes) 0 hg (gw_V wd_451 wd_452 wd_453 wd_450 wd_449) rfl rfl rfl (by decide +kernel) ⟨Nat.le_of_ble_eq_true rfl, Nat.le_of_ble_eq_true rfl⟩) ⟨gP_blind, va_recv (q0 := 2) (ci := 0) (q := (R_Bytes, F_Bytes, 2)) hK hP rfl rfl, gP_pre hPc hDc hK hgl hkn hkr hS hFc⟩ rfl rfl hl.1 rfl (lv_room (Nat.le_of_ble_eq_true rfl)) d_Signs_firstNotBlank_77 ⟨Nat.le_of_ble_eq_true rfl, Nat.le_of_ble_eq_true rfl⟩) hS (fun q _ h => hFc q h) hFc (fun r4' u t H locs ht hvm hr4 hB hz1 hk1 hS => ?_)
        subst hr4
        rw [ht] at hB
        obtain ⟨hP1, hD1⟩ := hB
        obtain ⟨hP, hD⟩ := jn_A hP hD [2] [0, 1] rfl rfl (by decide) (by decide) hk1 hFc hP1 hD1
        obtain ⟨hP, hD⟩ : PD g A H [(a, .inr (6, [.ref a_tape, .ref a_names, .int a_kind, .int a_place, .int a_behind, .int a_passed, .int a_name, .long a_number])), (a_tape_items, .inl (cs 1, a_tape_items_n, .inl a_tape_items_f)), (a_tape, .inr (0, [.ref a_tape_items, .int a_tape_size]))] := ⟨hP, hD⟩
        have hq := Option.some.inj hok
        have hq0 := hq
        subst hq0
        obtain ⟨hP9, hD9⟩ := sub2 (ws' := [(a, .inr (6, [.ref a_tape, .ref a_names, .int a_kind, .int a_place, .int a_behind, .int a_passed, .int a_name, .long a_number])), (a_tape, .inr (0, [.ref a_tape_items, .int a_tape_size])), (a_tape_items, .inl (cs 1, a_tape_items_n, .inl a_tape_items_f))]) hP hD [0, 2, 1] rfl (by decide) rfl
        rw [hQ]
        exact W.iret (v := r4) hx hb hr (fun t ht hW => ⟨⟨_, (), rfl, rfl, by rw [ht]; exact hP9, hD9⟩, hS.F ht⟩) hS.2.2 d_Signs_firstNotBlank_80
      · rw [if_neg h3] at hok
        refine lv_aload_n hx hb d_Signs_firstNotBlank_15 rfl (lv_at hl 2 rfl) ?_
        refine va_get (D := g) (ci := 6) (v := .ref a_tape) (C := R_Signs) (T := F_Signs) (N := 8) hx hb hg ul_Signs hown hK hP 0 rfl rfl 0 (by decide) (hg _ wd_447) (fun _ h9 => h9) rfl d_Signs_firstNotBlank_16 ?_
        refine lv_iload_n hx hb d_Signs_firstNotBlank_19 rfl (lv_at hl 0 rfl) ?_
        obtain ⟨r5, hc5, hok⟩ := bd_some hok
        obtain ⟨hPc, hDc, hFc⟩ := cut0 (wc := [(a_tape, .inr (0, [.ref a_tape_items, .int a_tape_size])), (a_tape_items, .inl (cs 1, a_tape_items_n, .inl a_tape_items_f))]) hP hD hS hA [2, 1] (by decide) rfl
        refine va_calli (va_runV (As := [.int x3_1]) (rest := []) ⟨hx, hb, hml, hown, hg⟩ (c_Bytes_at l g cs ka a_tape a_tape_items H.size x3_1 a_tape_size a_tape_items_n a_tape_items_f r5 hc5) (cwV (C := R_Bytes) 1 hg (gw_V wd_455 wd_456 wd_457 wd_450 wd_454) rfl rfl rfl (by decide +kernel) ⟨Nat.le_of_ble_eq_true rfl, Nat.le_of_ble_eq_true rfl⟩) ⟨gP_blind, va_recv (q0 := 2) (ci := 0) (q := (R_Bytes, F_Bytes, 2)) hK hP rfl rfl, gP_pre hPc hDc hK hgl hkn hkr hS hFc⟩ rfl rfl hl.1 rfl (lv_room (Nat.le_of_ble_eq_true rfl)) d_Signs_firstNotBlank_20 ⟨Nat.le_of_ble_eq_true rfl, Nat.le_of_ble_eq_true rfl⟩) hS (fun q _ h => hFc q h) hFc (fun r5' u t H locs ht hvm hr5 hB hz1 hk1 hS => ?_)
        subst hr5
        rw [ht] at hB
        obtain ⟨hP1, hD1⟩ := hB
        obtain ⟨hP, hD⟩ := jn_A hP hD [2, 1] [0] rfl rfl (by decide) (by decide) hk1 hFc hP1 hD1
        obtain ⟨hP, hD⟩ : PD g A H [(a, .inr (6, [.ref a_tape, .ref a_names, .int a_kind, .int a_place, .int a_behind, .int a_passed, .int a_name, .long a_number])), (a_tape, .inr (0, [.ref a_tape_items, .int a_tape_size])), (a_tape_items, .inl (cs 1, a_tape_items_n, .inl a_tape_items_f))] := ⟨hP, hD⟩
        refine lv_istore hx hb d_Signs_firstNotBlank_23 hl (by decide) rfl (fun ls hl => ?_)
        have hl : lv_has ls 5 [(4, .int r5), (3, .int x3_1), (2, .int x2_1), (0, .ref a), (1, .int from_)] := hl
        refine lv_iload_n hx hb d_Signs_firstNotBlank_25 rfl (lv_at hl 2 rfl) ?_
        refine lv_if_eq hx hb d_Signs_firstNotBlank_26 rfl (fun h6 => ?_) (fun h6 => ?_)
        · rw [if_pos h6] at hok
          refine lv_iload hx hb d_Signs_firstNotBlank_45 (lv_at hl 0 rfl) ?_
          refine lv_bipush (v := 37) hx hb d_Signs_firstNotBlank_47 (by decide) ?_
          refine lv_icmp_ne hx hb d_Signs_firstNotBlank_49 rfl (fun h7 => ?_) (fun h7 => ?_)
          · rw [if_neg h7] at hok
            refine lv_iload hx hb d_Signs_firstNotBlank_57 (lv_at hl 0 rfl) ?_
            obtain ⟨r8, hc8, hok⟩ := bd_some hok
            obtain ⟨hPc, hDc, hFc⟩ := cut0 (wc := []) hP hD hS hA [] (by decide) rfl
            refine va_calli (va_runS (As := [.int r5]) (rest := []) ⟨hx, hb, hml, hown, hg⟩ (c_Letters_isBlank l g cs ka H.size r5 r8 hc8) (va_cwS 1 hg (gw_S wd_459 wd_460 wd_217 wd_458) rfl rfl rfl (by decide +kernel) ⟨Nat.le_of_ble_eq_true rfl, Nat.le_of_ble_eq_true rfl⟩) ⟨gP_blind, gP_pre hPc hDc hK hgl hkn hkr hS hFc⟩ rfl rfl hl.1 rfl (lv_room (Nat.le_of_ble_eq_true rfl)) d_Signs_firstNotBlank_59 ⟨Nat.le_of_ble_eq_true rfl, Nat.le_of_ble_eq_true rfl⟩) hS (fun q _ h => hFc q h) hFc (fun r8' u t H locs ht hvm hr8 hB hz1 hk1 hS => ?_)
            subst hr8
            rw [ht] at hB
            obtain ⟨hP1, hD1⟩ := hB
            obtain ⟨hP, hD⟩ := jn_A hP hD [] [0, 1, 2] rfl rfl (by decide) (by decide) hk1 hFc hP1 hD1
            obtain ⟨hP, hD⟩ : PD g A H [(a, .inr (6, [.ref a_tape, .ref a_names, .int a_kind, .int a_place, .int a_behind, .int a_passed, .int a_name, .long a_number])), (a_tape, .inr (0, [.ref a_tape_items, .int a_tape_size])), (a_tape_items, .inl (cs 1, a_tape_items_n, .inl a_tape_items_f))] := ⟨hP, hD⟩
            refine lv_if_ne hx hb d_Signs_firstNotBlank_62 rfl (fun h9 => ?_) (fun h9 => ?_)
            · rw [if_neg h9] at hok
              refine lv_iinc (k := 1) (v := x3_1 + 1) hx hb d_Signs_firstNotBlank_67 hl rfl rfl (by decide) rfl (fun ls hl => ?_)
              have hl : lv_has ls 5 [(3, .int (x3_1 + 1)), (4, .int r5), (2, .int x2_1), (0, .ref a), (1, .int from_)] := hl
              refine lv_goto hx hb d_Signs_firstNotBlank_70 rfl ?_
              exact ih1 _ _ _ (x3_1 + 1) x2_1 (lv_sub hl [0, 2, 3, 4] rfl) (sub3 hP hD [0, 1, 2] (by decide)) hS hok
            · rw [if_pos h9] at hok
              refine lv_iload_n hx hb d_Signs_firstNotBlank_65 rfl (lv_at hl 1 rfl) ?_
              have hq := Option.some.inj hok
              have hq0 := hq
              subst hq0
              obtain ⟨hP9, hD9⟩ := sub2 (ws' := [(a, .inr (6, [.ref a_tape, .ref a_names, .int a_kind, .int a_place, .int a_behind, .int a_passed, .int a_name, .long a_number])), (a_tape, .inr (0, [.ref a_tape_items, .int a_tape_size])), (a_tape_items, .inl (cs 1, a_tape_items_n, .inl a_tape_items_f))]) hP hD [0, 1, 2] rfl (by decide) rfl
              rw [hQ]
              exact W.iret (v := x3_1) hx hb hr (fun t ht hW => ⟨⟨_, (), rfl, rfl, by rw [ht]; exact hP9, hD9⟩, hS.F ht⟩) hS.2.2 d_Signs_firstNotBlank_66
          · rw [if_pos h7] at hok
            refine lv_iconst (v := 1) hx hb d_Signs_firstNotBlank_52 (by decide) ?_
            refine lv_istore_n hx hb d_Signs_firstNotBlank_53 rfl hl (by decide) rfl (fun ls hl => ?_)
            have hl : lv_has ls 5 [(2, .int 1), (4, .int r5), (3, .int x3_1), (0, .ref a), (1, .int from_)] := hl
            refine lv_goto hx hb d_Signs_firstNotBlank_54 rfl ?_
            refine lv_iinc (k := 2) (v := x3_1 + 1) hx hb d_Signs_firstNotBlank_67 hl rfl rfl (by decide) rfl (fun ls hl => ?_)
            have hl : lv_has ls 5 [(3, .int (x3_1 + 1)), (2, .int 1), (4, .int r5), (0, .ref a), (1, .int from_)] := hl
            refine lv_goto hx hb d_Signs_firstNotBlank_70 rfl ?_
            exact ih1 _ _ _ (x3_1 + 1) (1 : Int32) (lv_sub hl [0, 1, 3, 4] rfl) (sub3 hP hD [0, 1, 2] (by decide)) hS hok
        · rw [if_neg h6] at hok
          refine lv_iload hx hb d_Signs_firstNotBlank_29 (lv_at hl 0 rfl) ?_
          refine lv_bipush (v := 10) hx hb d_Signs_firstNotBlank_31 (by decide) ?_
          refine lv_icmp_eq hx hb d_Signs_firstNotBlank_33 rfl (fun h10 => ?_) (fun h10 => ?_)
          · rw [if_pos h10] at hok
            refine lv_iconst (v := 0) hx hb d_Signs_firstNotBlank_40 (by decide) ?_
            refine lv_istore_n hx hb d_Signs_firstNotBlank_41 rfl hl (by decide) rfl (fun ls hl => ?_)
            have hl : lv_has ls 5 [(2, .int 0), (4, .int r5), (3, .int x3_1), (0, .ref a), (1, .int from_)] := hl
            refine lv_goto hx hb d_Signs_firstNotBlank_42 rfl ?_
            refine lv_iinc (k := 2) (v := x3_1 + 1) hx hb d_Signs_firstNotBlank_67 hl rfl rfl (by decide) rfl (fun ls hl => ?_)
            have hl : lv_has ls 5 [(3, .int (x3_1 + 1)), (2, .int 0), (4, .int r5), (0, .ref a), (1, .int from_)] := hl
            refine lv_goto hx hb d_Signs_firstNotBlank_70 rfl ?_
            exact ih1 _ _ _ (x3_1 + 1) (0 : Int32) (lv_sub hl [0, 1, 3, 4] rfl) (sub3 hP hD [0, 1, 2] (by decide)) hS hok
          · rw [if_neg h10] at hok
            refine lv_iconst (v := 1) hx hb d_Signs_firstNotBlank_36 (by decide) ?_
            refine lv_goto hx hb d_Signs_firstNotBlank_37 rfl ?_
            refine lv_istore_n hx hb d_Signs_firstNotBlank_41 rfl hl (by decide) rfl (fun ls hl => ?_)
            have hl : lv_has ls 5 [(2, .int 1), (4, .int r5), (3, .int x3_1), (0, .ref a), (1, .int from_)] := hl
            refine lv_goto hx hb d_Signs_firstNotBlank_42 rfl ?_
            refine lv_iinc (k := 2) (v := x3_1 + 1) hx hb d_Signs_firstNotBlank_67 hl rfl rfl (by decide) rfl (fun ls hl => ?_)
            have hl : lv_has ls 5 [(3, .int (x3_1 + 1)), (2, .int 1), (4, .int r5), (0, .ref a), (1, .int from_)] := hl
            refine lv_goto hx hb d_Signs_firstNotBlank_70 rfl ?_
            exact ih1 _ _ _ (x3_1 + 1) (1 : Int32) (lv_sub hl [0, 1, 3, 4] rfl) (sub3 hP hD [0, 1, 2] (by decide)) hS hok
  exact J1 n H locs ls from_ (0 : Int32) hl ⟨hP, hD⟩ hS hok

theorem d_Signs_takeTo_0 : decode b_Signs_takeTo 0 = .ok (.aload_n 0, 1) := by decide +kernel
theorem d_Signs_takeTo_1 : decode b_Signs_takeTo 1 = .ok (.iload_n 1, 1) := by decide +kernel
theorem d_Signs_takeTo_2 : decode b_Signs_takeTo 2 = .ok (.putfield 9, 3) := by decide +kernel
theorem d_Signs_takeTo_5 : decode b_Signs_takeTo 5 = .ok (.aload_n 0, 1) := by decide +kernel
theorem d_Signs_takeTo_6 : decode b_Signs_takeTo 6 = .ok (.iload_n 2, 1) := by decide +kernel
theorem d_Signs_takeTo_7 : decode b_Signs_takeTo 7 = .ok (.putfield 16, 3) := by decide +kernel
theorem d_Signs_takeTo_10 : decode b_Signs_takeTo 10 = .ok (.return_, 1) := by decide +kernel
def p_Signs_takeTo (kindTaken : Int32) (end_ : Int32) (a_kind : Int32) (a_place : Int32) (a_behind : Int32) (a_passed : Int32) (a_name : Int32) (a_number : Int64) : Option (Int32 × Int32) := some (kindTaken, end_)
set_option maxHeartbeats 4000000 in
set_option maxRecDepth 100000 in
theorem c_Signs_takeTo (l : Launch) (g : va_G) (cs : Nat → ClassId) (ka : Nat → Nat) (a_tape : Nat) (a_names : Nat) (a : Nat) (sz : Nat) (kindTaken : Int32) (end_ : Int32) (a_kind : Int32) (a_place : Int32) (a_behind : Int32) (a_passed : Int32) (a_name : Int32) (a_number : Int64) (o_a_kind : Int32) (o_a_behind : Int32) (hok : p_Signs_takeTo kindTaken end_ a_kind a_place a_behind a_passed a_name a_number = some (o_a_kind, o_a_behind)) : Met l y_Signs_takeTo (.code y_Signs_takeTo b_Signs_takeTo 3 none :: GW) { frames := 0, cells := 0, slots := 0, locals := 0 } (va_Pc [.ref a, .int kindTaken, .int end_] (gP g cs ka [(a, .inr (6, [.ref a_tape, .ref a_names, .int a_kind, .int a_place, .int a_behind, .int a_passed, .int a_name, .long a_number]))] sz)) (va_Qv (fun _ : Unit => True) (fun _ t => va_P g classes [(a, .inr (6, [.ref a_tape, .ref a_names, .int o_a_kind, .int a_place, .int o_a_behind, .int a_passed, .int a_name, .long a_number]))] t.heap ∧ va_D (va_A [(a, .inr (6, [.ref a_tape, .ref a_names, .int a_kind, .int a_place, .int a_behind, .int a_passed, .int a_name, .long a_number]))] sz) [(a, .inr (6, [.ref a_tape, .ref a_names, .int o_a_kind, .int a_place, .int o_a_behind, .int a_passed, .int a_name, .long a_number]))]) (va_A [(a, .inr (6, [.ref a_tape, .ref a_names, .int a_kind, .int a_place, .int a_behind, .int a_passed, .int a_name, .long a_number]))] sz)) 0 0 (va_A [(a, .inr (6, [.ref a_tape, .ref a_names, .int a_kind, .int a_place, .int a_behind, .int a_passed, .int a_name, .long a_number]))] sz) := by
  refine Met.ofW (cc := b_Signs_takeTo) (maxL := 3) (ret := none) (by decide) rfl ?_
  intro p e s m args below meth c s₁ B hml hv
  obtain ⟨rfl, hsz, hP, hK, hD0, hgl, hkn, hkr⟩ := hv
  have hx := B.exec
  have hb := B.bytes
  have hr := B.returns
  have hg : ∀ w ∈ GW, w.before ([.ref a, .int kindTaken, .int end_] : List Value).toArray s = true := fun w hw => atoms_spec (ws := .code y_Signs_takeTo b_Signs_takeTo 3 none :: GW) B.pre w (List.mem_cons_of_mem _ hw)
  have hown : s.vm.findClass R_Signs = some m.cls := findClass_of_methodNamed B.named
  have hlocks := B.notSynchronized
  subst hsz
  have hD := hD0.self (sz := s.heap.size)
  generalize hAe : va_A [(a, .inr (6, [.ref a_tape, .ref a_names, .int a_kind, .int a_place, .int a_behind, .int a_passed, .int a_name, .long a_number]))] s.heap.size = A at hD hkn ⊢
  have hA : ∀ q : Nat, s.heap.size ≤ q → A q := fun q h => by rw [← hAe]; exact Or.inr h
  have hS : va_S A s.heap s.heap [] := va_S.rf
  have hP : va_P g classes [(a, .inr (6, [.ref a_tape, .ref a_names, .int a_kind, .int a_place, .int a_behind, .int a_passed, .int a_name, .long a_number]))] s.heap := hP
  have hl := lv_entry ([.ref a, .int kindTaken, .int end_]) (n := 3) (Nat.le_of_ble_eq_true rfl)
  rw [lg_entry_eq]
  generalize (lg_sl ([.ref a, .int kindTaken, .int end_]) ++ List.replicate (3 - (lg_sl ([.ref a, .int kindTaken, .int end_])).length) Slot.unset).toArray = ls at hl ⊢
  have hl : lv_has ls 3 [(0, .ref a), (1, .int kindTaken), (2, .int end_)] := hl
  refine gq (fun Q hQ => ?_)
  obtain ⟨H, hH⟩ : ∃ H : Heap, H = s.heap := ⟨_, rfl⟩
  rw [← hH] at hP
  have hS : va_S A s.heap H [] := by rw [hH]; exact hS
  refine W.eqH hH ?_
  obtain ⟨locs, hlc⟩ : ∃ L : List Loc, L = [] := ⟨_, rfl⟩
  rw [← hlc] at hS ⊢
  unfold p_Signs_takeTo at hok
  refine lv_aload_n hx hb d_Signs_takeTo_0 rfl (lv_at hl 0 rfl) ?_
  refine lv_iload_n hx hb d_Signs_takeTo_1 rfl (lv_at hl 1 rfl) ?_
  refine va_put (D := g) (ci := 6) (v := .int kindTaken) (ty := .int) (C := R_Signs) (T := F_Signs) (N := 8) hx hb hg ul_Signs t_Signs tk_Signs n_Signs hown hK hP hD hS 0 rfl rfl 2 (by decide) (hg _ wd_441) (fun _ h9 => h9) rfl (by decide +kernel) rfl rfl (Nat.le_of_ble_eq_true rfl) d_Signs_takeTo_2 (fun H locs hP hD hS => ?_)
  obtain ⟨hP, hD⟩ : PD g A H [(a, .inr (6, [.ref a_tape, .ref a_names, .int kindTaken, .int a_place, .int a_behind, .int a_passed, .int a_name, .long a_number]))] := ⟨hP, hD⟩
  refine lv_aload_n hx hb d_Signs_takeTo_5 rfl (lv_at hl 0 rfl) ?_
  refine lv_iload_n hx hb d_Signs_takeTo_6 rfl (lv_at hl 2 rfl) ?_
  refine va_put (D := g) (ci := 6) (v := .int end_) (ty := .int) (C := R_Signs) (T := F_Signs) (N := 8) hx hb hg ul_Signs t_Signs tk_Signs n_Signs hown hK hP hD hS 0 rfl rfl 4 (by decide) (hg _ wd_443) (fun _ h9 => h9) rfl (by decide +kernel) rfl rfl (Nat.le_of_ble_eq_true rfl) d_Signs_takeTo_7 (fun H locs hP hD hS => ?_)
  obtain ⟨hP, hD⟩ : PD g A H [(a, .inr (6, [.ref a_tape, .ref a_names, .int kindTaken, .int a_place, .int end_, .int a_passed, .int a_name, .long a_number]))] := ⟨hP, hD⟩
  have hq := Option.some.inj hok
  obtain ⟨hq0, hq⟩ := Prod.mk.inj hq
  have hq1 := hq
  subst hq0
  subst hq1
  obtain ⟨hP9, hD9⟩ := sub2 (ws' := [(a, .inr (6, [.ref a_tape, .ref a_names, .int kindTaken, .int a_place, .int end_, .int a_passed, .int a_name, .long a_number]))]) hP hD [0] rfl (by decide) rfl
  rw [hQ]
  exact W.vret hx hb hr (fun t ht hW => ⟨⟨(), rfl, trivial, by rw [ht]; exact hP9, hD9⟩, hS.F ht⟩) hS.2.2 d_Signs_takeTo_10

theorem d_Signs_wordEnd_0 : decode b_Signs_wordEnd 0 = .ok (.aload_n 0, 1) := by decide +kernel
theorem d_Signs_wordEnd_1 : decode b_Signs_wordEnd 1 = .ok (.getfield 13, 3) := by decide +kernel
theorem d_Signs_wordEnd_4 : decode b_Signs_wordEnd 4 = .ok (.istore_n 1, 1) := by decide +kernel
theorem d_Signs_wordEnd_5 : decode b_Signs_wordEnd 5 = .ok (.iload_n 1, 1) := by decide +kernel
theorem d_Signs_wordEnd_6 : decode b_Signs_wordEnd 6 = .ok (.aload_n 0, 1) := by decide +kernel
theorem d_Signs_wordEnd_7 : decode b_Signs_wordEnd 7 = .ok (.getfield 30, 3) := by decide +kernel
theorem d_Signs_wordEnd_10 : decode b_Signs_wordEnd 10 = .ok (.invokevirtual 47, 3) := by decide +kernel
theorem d_Signs_wordEnd_13 : decode b_Signs_wordEnd 13 = .ok (.if_icmp .ge 23, 3) := by decide +kernel
theorem d_Signs_wordEnd_16 : decode b_Signs_wordEnd 16 = .ok (.aload_n 0, 1) := by decide +kernel
theorem d_Signs_wordEnd_17 : decode b_Signs_wordEnd 17 = .ok (.getfield 30, 3) := by decide +kernel
theorem d_Signs_wordEnd_20 : decode b_Signs_wordEnd 20 = .ok (.iload_n 1, 1) := by decide +kernel
theorem d_Signs_wordEnd_21 : decode b_Signs_wordEnd 21 = .ok (.invokevirtual 42, 3) := by decide +kernel
theorem d_Signs_wordEnd_24 : decode b_Signs_wordEnd 24 = .ok (.invokestatic 95, 3) := by decide +kernel
theorem d_Signs_wordEnd_27 : decode b_Signs_wordEnd 27 = .ok (.ifCond .eq 9, 3) := by decide +kernel
theorem d_Signs_wordEnd_30 : decode b_Signs_wordEnd 30 = .ok (.iinc 1 1, 3) := by decide +kernel
theorem d_Signs_wordEnd_33 : decode b_Signs_wordEnd 33 = .ok (.goto (-28), 3) := by decide +kernel
theorem d_Signs_wordEnd_36 : decode b_Signs_wordEnd 36 = .ok (.iload_n 1, 1) := by decide +kernel
theorem d_Signs_wordEnd_37 : decode b_Signs_wordEnd 37 = .ok (.ireturn, 1) := by decide +kernel
def p_Signs_wordEnd_5 (n : Nat) (a_tape_size : Int32) (a_tape_items_n : Nat) (a_tape_items_f : Nat → Int32) (kf1 : Nat) (x1_1 : Int32) : Option Int32 := match kf1 with
  | 0 => none
  | kf1 + 1 => (p_Bytes_size a_tape_size).bind (fun r2 => if r2 ≤ x1_1 then (some x1_1) else ((p_Bytes_at x1_1 a_tape_size a_tape_items_n a_tape_items_f).bind (fun r4 => (p_Letters_isOfWord r4).bind (fun r5 => if r5 = 0 then (some x1_1) else (p_Signs_wordEnd_5 n a_tape_size a_tape_items_n a_tape_items_f kf1 (x1_1 + 1))))))
def p_Signs_wordEnd (n : Nat) (a_kind : Int32) (a_place : Int32) (a_behind : Int32) (a_passed : Int32) (a_name : Int32) (a_number : Int64) (a_tape_size : Int32) (a_tape_items_n : Nat) (a_tape_items_f : Nat → Int32) : Option Int32 := p_Signs_wordEnd_5 n a_tape_size a_tape_items_n a_tape_items_f n a_place
set_option maxHeartbeats 4000000 in
set_option maxRecDepth 100000 in
theorem c_Signs_wordEnd (l : Launch) (g : va_G) (cs : Nat → ClassId) (ka : Nat → Nat) (a_names : Nat) (a a_tape a_tape_items : Nat) (sz : Nat) (n : Nat) (a_kind : Int32) (a_place : Int32) (a_behind : Int32) (a_passed : Int32) (a_name : Int32) (a_number : Int64) (a_tape_size : Int32) (a_tape_items_n : Nat) (a_tape_items_f : Nat → Int32) (r : Int32) (hok : p_Signs_wordEnd n a_kind a_place a_behind a_passed a_name a_number a_tape_size a_tape_items_n a_tape_items_f = some r) : Met l y_Signs_wordEnd (.code y_Signs_wordEnd b_Signs_wordEnd 2 (some .int) :: GW) { frames := 2, cells := 0, slots := 0, locals := 40 } (va_Pc [.ref a] (gP g cs ka [(a, .inr (6, [.ref a_tape, .ref a_names, .int a_kind, .int a_place, .int a_behind, .int a_passed, .int a_name, .long a_number])), (a_tape, .inr (0, [.ref a_tape_items, .int a_tape_size])), (a_tape_items, .inl (cs 1, a_tape_items_n, .inl a_tape_items_f))] sz)) (va_Qi (fun (r' : Int32) (_ : Unit) => r = r') (fun _ t => va_P g classes [(a, .inr (6, [.ref a_tape, .ref a_names, .int a_kind, .int a_place, .int a_behind, .int a_passed, .int a_name, .long a_number])), (a_tape, .inr (0, [.ref a_tape_items, .int a_tape_size])), (a_tape_items, .inl (cs 1, a_tape_items_n, .inl a_tape_items_f))] t.heap ∧ va_D (va_A [(a, .inr (6, [.ref a_tape, .ref a_names, .int a_kind, .int a_place, .int a_behind, .int a_passed, .int a_name, .long a_number])), (a_tape, .inr (0, [.ref a_tape_items, .int a_tape_size])), (a_tape_items, .inl (cs 1, a_tape_items_n, .inl a_tape_items_f))] sz) [(a, .inr (6, [.ref a_tape, .ref a_names, .int a_kind, .int a_place, .int a_behind, .int a_passed, .int a_name, .long a_number])), (a_tape, .inr (0, [.ref a_tape_items, .int a_tape_size])), (a_tape_items, .inl (cs 1, a_tape_items_n, .inl a_tape_items_f))]) (va_A [(a, .inr (6, [.ref a_tape, .ref a_names, .int a_kind, .int a_place, .int a_behind, .int a_passed, .int a_name, .long a_number])), (a_tape, .inr (0, [.ref a_tape_items, .int a_tape_size])), (a_tape_items, .inl (cs 1, a_tape_items_n, .inl a_tape_items_f))] sz)) 0 0 (va_A [(a, .inr (6, [.ref a_tape, .ref a_names, .int a_kind, .int a_place, .int a_behind, .int a_passed, .int a_name, .long a_number])), (a_tape, .inr (0, [.ref a_tape_items, .int a_tape_size])), (a_tape_items, .inl (cs 1, a_tape_items_n, .inl a_tape_items_f))] sz) := by
  refine Met.ofW (cc := b_Signs_wordEnd) (maxL := 2) (ret := (some .int)) (by decide) rfl ?_
  intro p e s m args below meth c s₁ B hml hv
  obtain ⟨rfl, hsz, hP, hK, hD0, hgl, hkn, hkr⟩ := hv
  have hx := B.exec
  have hb := B.bytes
  have hr := B.returns
  have hg : ∀ w ∈ GW, w.before ([.ref a] : List Value).toArray s = true := fun w hw => atoms_spec (ws := .code y_Signs_wordEnd b_Signs_wordEnd 2 (some .int) :: GW) B.pre w (List.mem_cons_of_mem _ hw)
  have hown : s.vm.findClass R_Signs = some m.cls := findClass_of_methodNamed B.named
  have hlocks := B.notSynchronized
  subst hsz
  have hD := hD0.self (sz := s.heap.size)
  generalize hAe : va_A [(a, .inr (6, [.ref a_tape, .ref a_names, .int a_kind, .int a_place, .int a_behind, .int a_passed, .int a_name, .long a_number])), (a_tape, .inr (0, [.ref a_tape_items, .int a_tape_size])), (a_tape_items, .inl (cs 1, a_tape_items_n, .inl a_tape_items_f))] s.heap.size = A at hD hkn ⊢
  have hA : ∀ q : Nat, s.heap.size ≤ q → A q := fun q h => by rw [← hAe]; exact Or.inr h
  have hS : va_S A s.heap s.heap [] := va_S.rf
  have hP : va_P g classes [(a, .inr (6, [.ref a_tape, .ref a_names, .int a_kind, .int a_place, .int a_behind, .int a_passed, .int a_name, .long a_number])), (a_tape, .inr (0, [.ref a_tape_items, .int a_tape_size])), (a_tape_items, .inl (cs 1, a_tape_items_n, .inl a_tape_items_f))] s.heap := hP
  have hl := lv_entry ([.ref a]) (n := 2) (Nat.le_of_ble_eq_true rfl)
  rw [lg_entry_eq]
  generalize (lg_sl ([.ref a]) ++ List.replicate (2 - (lg_sl ([.ref a])).length) Slot.unset).toArray = ls at hl ⊢
  have hl : lv_has ls 2 [(0, .ref a)] := hl
  refine gq (fun Q hQ => ?_)
  obtain ⟨H, hH⟩ : ∃ H : Heap, H = s.heap := ⟨_, rfl⟩
  rw [← hH] at hP
  have hS : va_S A s.heap H [] := by rw [hH]; exact hS
  refine W.eqH hH ?_
  obtain ⟨locs, hlc⟩ : ∃ L : List Loc, L = [] := ⟨_, rfl⟩
  rw [← hlc] at hS ⊢
  unfold p_Signs_wordEnd at hok
  refine lv_aload_n hx hb d_Signs_wordEnd_0 rfl (lv_at hl 0 rfl) ?_
  refine va_get (D := g) (ci := 6) (v := .int a_place) (C := R_Signs) (T := F_Signs) (N := 8) hx hb hg ul_Signs hown hK hP 0 rfl rfl 3 (by decide) (hg _ wd_442) (fun _ h9 => h9) rfl d_Signs_wordEnd_1 ?_
  refine lv_istore_n hx hb d_Signs_wordEnd_4 rfl hl (by decide) rfl (fun ls hl => ?_)
  have hl : lv_has ls 2 [(1, .int a_place), (0, .ref a)] := hl
  have J1 : ∀ (kf1 : Nat) (H : Heap) (locs : List Loc) (ls : Array Slot) (x1_1 : Int32), lv_has ls 2 [(1, .int x1_1), (0, .ref a)] → PD g A H [(a, .inr (6, [.ref a_tape, .ref a_names, .int a_kind, .int a_place, .int a_behind, .int a_passed, .int a_name, .long a_number])), (a_tape, .inr (0, [.ref a_tape_items, .int a_tape_size])), (a_tape_items, .inl (cs 1, a_tape_items_n, .inl a_tape_items_f))] → va_S A s.heap H locs → p_Signs_wordEnd_5 n a_tape_size a_tape_items_n a_tape_items_f kf1 x1_1 = some r → W p l e (headSpec (.code y_Signs_wordEnd b_Signs_wordEnd 2 (some .int) :: GW) { frames := 2, cells := 0, slots := 0, locals := 40 }).room s m ([.ref a] : List Value).toArray below meth c H locs 0 0 Q (F0 m 5 ls []) := by
    intro kf1
    induction kf1 with
    | zero => intro H locs ls x1_1 hl ⟨hP, hD⟩ hS hok; rw [p_Signs_wordEnd_5] at hok; cases hok
    | succ kf1 ih1 =>
      intro H locs ls x1_1 hl ⟨hP, hD⟩ hS hok
      rw [p_Signs_wordEnd_5] at hok
      refine lv_iload_n hx hb d_Signs_wordEnd_5 rfl (lv_at hl 0 rfl) ?_
      refine lv_aload_n hx hb d_Signs_wordEnd_6 rfl (lv_at hl 1 rfl) ?_
      refine va_get (D := g) (ci := 6) (v := .ref a_tape) (C := R_Signs) (T := F_Signs) (N := 8) hx hb hg ul_Signs hown hK hP 0 rfl rfl 0 (by decide) (hg _ wd_447) (fun _ h9 => h9) rfl d_Signs_wordEnd_7 ?_
      obtain ⟨r2, hc2, hok⟩ := bd_some hok
      obtain ⟨hPc, hDc, hFc⟩ := cut0 (wc := [(a_tape, .inr (0, [.ref a_tape_items, .int a_tape_size]))]) hP hD hS hA [1] (by decide) rfl
      refine va_calli (va_runV (As := []) (rest := [.int x1_1]) ⟨hx, hb, hml, hown, hg⟩ (c_Bytes_size l g cs ka a_tape_items a_tape H.size a_tape_size r2 hc2) (cwV (C := R_Bytes) 0 hg (gw_V wd_451 wd_452 wd_453 wd_450 wd_449) rfl rfl rfl (by decide +kernel) ⟨Nat.le_of_ble_eq_true rfl, Nat.le_of_ble_eq_true rfl⟩) ⟨gP_blind, va_recv (q0 := 1) (ci := 0) (q := (R_Bytes, F_Bytes, 2)) hK hP rfl rfl, gP_pre hPc hDc hK hgl hkn hkr hS hFc⟩ rfl rfl hl.1 rfl (lv_room (Nat.le_of_ble_eq_true rfl)) d_Signs_wordEnd_10 ⟨Nat.le_of_ble_eq_true rfl, Nat.le_of_ble_eq_true rfl⟩) hS (fun q _ h => hFc q h) hFc (fun r2' u t H locs ht hvm hr2 hB hz1 hk1 hS => ?_)
      subst hr2
      rw [ht] at hB
      obtain ⟨hP1, hD1⟩ := hB
      obtain ⟨hP, hD⟩ := jn_A hP hD [1] [0, 2] rfl rfl (by decide) (by decide) hk1 hFc hP1 hD1
      obtain ⟨hP, hD⟩ : PD g A H [(a, .inr (6, [.ref a_tape, .ref a_names, .int a_kind, .int a_place, .int a_behind, .int a_passed, .int a_name, .long a_number])), (a_tape_items, .inl (cs 1, a_tape_items_n, .inl a_tape_items_f)), (a_tape, .inr (0, [.ref a_tape_items, .int a_tape_size]))] := ⟨hP, hD⟩
      refine lv_icmp_ge hx hb d_Signs_wordEnd_13 rfl (fun h3 => ?_) (fun h3 => ?_)
      · rw [if_pos h3] at hok
        refine lv_iload_n hx hb d_Signs_wordEnd_36 rfl (lv_at hl 0 rfl) ?_
        have hq := Option.some.inj hok
        have hq0 := hq
        subst hq0
        obtain ⟨hP9, hD9⟩ := sub2 (ws' := [(a, .inr (6, [.ref a_tape, .ref a_names, .int a_kind, .int a_place, .int a_behind, .int a_passed, .int a_name, .long a_number])), (a_tape, .inr (0, [.ref a_tape_items, .int a_tape_size])), (a_tape_items, .inl (cs 1, a_tape_items_n, .inl a_tape_items_f))]) hP hD [0, 2, 1] rfl (by decide) rfl
        rw [hQ]
        exact W.iret (v := x1_1) hx hb hr (fun t ht hW => ⟨⟨_, (), rfl, rfl, by rw [ht]; exact hP9, hD9⟩, hS.F ht⟩) hS.2.2 d_Signs_wordEnd_37
      · rw [if_neg h3] at hok
        refine lv_aload_n hx hb d_Signs_wordEnd_16 rfl (lv_at hl 1 rfl) ?_
        refine va_get (D := g) (ci := 6) (v := .ref a_tape) (C := R_Signs) (T := F_Signs) (N := 8) hx hb hg ul_Signs hown hK hP 0 rfl rfl 0 (by decide) (hg _ wd_447) (fun _ h9 => h9) rfl d_Signs_wordEnd_17 ?_
        refine lv_iload_n hx hb d_Signs_wordEnd_20 rfl (lv_at hl 0 rfl) ?_
        obtain ⟨r4, hc4, hok⟩ := bd_some hok
        obtain ⟨hPc, hDc, hFc⟩ := cut0 (wc := [(a_tape, .inr (0, [.ref a_tape_items, .int a_tape_size])), (a_tape_items, .inl (cs 1, a_tape_items_n, .inl a_tape_items_f))]) hP hD hS hA [2, 1] (by decide) rfl
        refine va_calli (va_runV (As := [.int x1_1]) (rest := []) ⟨hx, hb, hml, hown, hg⟩ (c_Bytes_at l g cs ka a_tape a_tape_items H.size x1_1 a_tape_size a_tape_items_n a_tape_items_f r4 hc4) (cwV (C := R_Bytes) 1 hg (gw_V wd_455 wd_456 wd_457 wd_450 wd_454) rfl rfl rfl (by decide +kernel) ⟨Nat.le_of_ble_eq_true rfl, Nat.le_of_ble_eq_true rfl⟩) ⟨gP_blind, va_recv (q0 := 2) (ci := 0) (q := (R_Bytes, F_Bytes, 2)) hK hP rfl rfl, gP_pre hPc hDc hK hgl hkn hkr hS hFc⟩ rfl rfl hl.1 rfl (lv_room (Nat.le_of_ble_eq_true rfl)) d_Signs_wordEnd_21 ⟨Nat.le_of_ble_eq_true rfl, Nat.le_of_ble_eq_true rfl⟩) hS (fun q _ h => hFc q h) hFc (fun r4' u t H locs ht hvm hr4 hB hz1 hk1 hS => ?_)
        subst hr4
        rw [ht] at hB
        obtain ⟨hP1, hD1⟩ := hB
        obtain ⟨hP, hD⟩ := jn_A hP hD [2, 1] [0] rfl rfl (by decide) (by decide) hk1 hFc hP1 hD1
        obtain ⟨hP, hD⟩ : PD g A H [(a, .inr (6, [.ref a_tape, .ref a_names, .int a_kind, .int a_place, .int a_behind, .int a_passed, .int a_name, .long a_number])), (a_tape, .inr (0, [.ref a_tape_items, .int a_tape_size])), (a_tape_items, .inl (cs 1, a_tape_items_n, .inl a_tape_items_f))] := ⟨hP, hD⟩
        obtain ⟨r5, hc5, hok⟩ := bd_some hok
        obtain ⟨hPc, hDc, hFc⟩ := cut0 (wc := []) hP hD hS hA [] (by decide) rfl
        refine va_calli (va_runS (As := [.int r4]) (rest := []) ⟨hx, hb, hml, hown, hg⟩ (c_Letters_isOfWord l g cs ka H.size r4 r5 hc5) (va_cwS 1 hg (gw_S wd_462 wd_463 wd_217 wd_461) rfl rfl rfl (by decide +kernel) ⟨Nat.le_of_ble_eq_true rfl, Nat.le_of_ble_eq_true rfl⟩) ⟨gP_blind, gP_pre hPc hDc hK hgl hkn hkr hS hFc⟩ rfl rfl hl.1 rfl (lv_room (Nat.le_of_ble_eq_true rfl)) d_Signs_wordEnd_24 ⟨Nat.le_of_ble_eq_true rfl, Nat.le_of_ble_eq_true rfl⟩) hS (fun q _ h => hFc q h) hFc (fun r5' u t H locs ht hvm hr5 hB hz1 hk1 hS => ?_)
        subst hr5
        rw [ht] at hB
        obtain ⟨hP1, hD1⟩ := hB
        obtain ⟨hP, hD⟩ := jn_A hP hD [] [0, 1, 2] rfl rfl (by decide) (by decide) hk1 hFc hP1 hD1
        obtain ⟨hP, hD⟩ : PD g A H [(a, .inr (6, [.ref a_tape, .ref a_names, .int a_kind, .int a_place, .int a_behind, .int a_passed, .int a_name, .long a_number])), (a_tape, .inr (0, [.ref a_tape_items, .int a_tape_size])), (a_tape_items, .inl (cs 1, a_tape_items_n, .inl a_tape_items_f))] := ⟨hP, hD⟩
        refine lv_if_eq hx hb d_Signs_wordEnd_27 rfl (fun h6 => ?_) (fun h6 => ?_)
        · rw [if_pos h6] at hok
          refine lv_iload_n hx hb d_Signs_wordEnd_36 rfl (lv_at hl 0 rfl) ?_
          have hq := Option.some.inj hok
          have hq0 := hq
          subst hq0
          obtain ⟨hP9, hD9⟩ := sub2 (ws' := [(a, .inr (6, [.ref a_tape, .ref a_names, .int a_kind, .int a_place, .int a_behind, .int a_passed, .int a_name, .long a_number])), (a_tape, .inr (0, [.ref a_tape_items, .int a_tape_size])), (a_tape_items, .inl (cs 1, a_tape_items_n, .inl a_tape_items_f))]) hP hD [0, 1, 2] rfl (by decide) rfl
          rw [hQ]
          exact W.iret (v := x1_1) hx hb hr (fun t ht hW => ⟨⟨_, (), rfl, rfl, by rw [ht]; exact hP9, hD9⟩, hS.F ht⟩) hS.2.2 d_Signs_wordEnd_37
        · rw [if_neg h6] at hok
          refine lv_iinc (k := 0) (v := x1_1 + 1) hx hb d_Signs_wordEnd_30 hl rfl rfl (by decide) rfl (fun ls hl => ?_)
          have hl : lv_has ls 2 [(1, .int (x1_1 + 1)), (0, .ref a)] := hl
          refine lv_goto hx hb d_Signs_wordEnd_33 rfl ?_
          exact ih1 _ _ _ (x1_1 + 1) (lv_sub hl [0, 1] rfl) (sub3 hP hD [0, 1, 2] (by decide)) hS hok
  exact J1 n H locs ls a_place hl ⟨hP, hD⟩ hS hok

theorem d_Signs_takeName_0 : decode b_Signs_takeName 0 = .ok (.aload_n 0, 1) := by decide +kernel
theorem d_Signs_takeName_1 : decode b_Signs_takeName 1 = .ok (.getfield 34, 3) := by decide +kernel
theorem d_Signs_takeName_4 : decode b_Signs_takeName 4 = .ok (.invokevirtual 98, 3) := by decide +kernel
theorem d_Signs_takeName_7 : decode b_Signs_takeName 7 = .ok (.aload_n 0, 1) := by decide +kernel
theorem d_Signs_takeName_8 : decode b_Signs_takeName 8 = .ok (.getfield 13, 3) := by decide +kernel
theorem d_Signs_takeName_11 : decode b_Signs_takeName 11 = .ok (.istore_n 2, 1) := by decide +kernel
theorem d_Signs_takeName_12 : decode b_Signs_takeName 12 = .ok (.iload_n 2, 1) := by decide +kernel
theorem d_Signs_takeName_13 : decode b_Signs_takeName 13 = .ok (.iload_n 1, 1) := by decide +kernel
theorem d_Signs_takeName_14 : decode b_Signs_takeName 14 = .ok (.if_icmp .ge 24, 3) := by decide +kernel
theorem d_Signs_takeName_17 : decode b_Signs_takeName 17 = .ok (.aload_n 0, 1) := by decide +kernel
theorem d_Signs_takeName_18 : decode b_Signs_takeName 18 = .ok (.getfield 34, 3) := by decide +kernel
theorem d_Signs_takeName_21 : decode b_Signs_takeName 21 = .ok (.aload_n 0, 1) := by decide +kernel
theorem d_Signs_takeName_22 : decode b_Signs_takeName 22 = .ok (.getfield 30, 3) := by decide +kernel
theorem d_Signs_takeName_25 : decode b_Signs_takeName 25 = .ok (.iload_n 2, 1) := by decide +kernel
theorem d_Signs_takeName_26 : decode b_Signs_takeName 26 = .ok (.invokevirtual 42, 3) := by decide +kernel
theorem d_Signs_takeName_29 : decode b_Signs_takeName 29 = .ok (.invokevirtual 103, 3) := by decide +kernel
theorem d_Signs_takeName_32 : decode b_Signs_takeName 32 = .ok (.iinc 2 1, 3) := by decide +kernel
theorem d_Signs_takeName_35 : decode b_Signs_takeName 35 = .ok (.goto (-23), 3) := by decide +kernel
theorem d_Signs_takeName_38 : decode b_Signs_takeName 38 = .ok (.aload_n 0, 1) := by decide +kernel
theorem d_Signs_takeName_39 : decode b_Signs_takeName 39 = .ok (.aload_n 0, 1) := by decide +kernel
theorem d_Signs_takeName_40 : decode b_Signs_takeName 40 = .ok (.getfield 34, 3) := by decide +kernel
theorem d_Signs_takeName_43 : decode b_Signs_takeName 43 = .ok (.invokevirtual 106, 3) := by decide +kernel
theorem d_Signs_takeName_46 : decode b_Signs_takeName 46 = .ok (.putfield 23, 3) := by decide +kernel
theorem d_Signs_takeName_49 : decode b_Signs_takeName 49 = .ok (.aload_n 0, 1) := by decide +kernel
theorem d_Signs_takeName_50 : decode b_Signs_takeName 50 = .ok (.iconst 3, 1) := by decide +kernel
theorem d_Signs_takeName_51 : decode b_Signs_takeName 51 = .ok (.iload_n 1, 1) := by decide +kernel
theorem d_Signs_takeName_52 : decode b_Signs_takeName 52 = .ok (.invokevirtual 51, 3) := by decide +kernel
theorem d_Signs_takeName_55 : decode b_Signs_takeName 55 = .ok (.return_, 1) := by decide +kernel
def p_Signs_takeName_12 (n : Nat) (end_ : Int32) (a_kind : Int32) (a_place : Int32) (a_behind : Int32) (a_passed : Int32) (a_number : Int64) (a_tape_size : Int32) (a_tape_items_n : Nat) (a_tape_items_f : Nat → Int32) (a_names_sizeBefore : Int32) (a_names_ends_size : Int32) (a_names_ends_items_n : Nat) (a_names_ends_items_f : Nat → Int32) (a_names_older_size : Int32) (a_names_older_items_n : Nat) (a_names_older_items_f : Nat → Int32) (a_names_newest_n : Nat) (a_names_newest_f : Nat → Int32) (kf2 : Nat) (x2_2 : Int32) (a_names_textsSize_2 : Int32) (a_names_texts_2n : Nat) (a_names_texts_2f : Nat → Int32) : Option ((Int32 × Int32 × Int32 × Int32 × Nat × (Nat → Int32) × Int32 × Nat × (Nat → Int32) × Int32 × Nat × (Nat → Int32) × (Nat → Int32)) × Nat × Nat) := match kf2 with
  | 0 => none
  | kf2 + 1 => if end_ ≤ x2_2 then ((p_Names_numberOfText n a_names_textsSize_2 a_names_sizeBefore a_names_texts_2n a_names_texts_2f a_names_ends_size a_names_ends_items_n a_names_ends_items_f a_names_older_size a_names_older_items_n a_names_older_items_f a_names_newest_n a_names_newest_f).bind (fun ((r4, a_ends_size_4, a_ends_items_n_4, a_ends_items_f_4, a_older_size_4, a_older_items_n_4, a_older_items_f_4, a_newest_f_4), mk4, sk4) => al mk4 sk4 ((p_Signs_takeTo (3 : Int32) end_ a_kind a_place a_behind a_passed r4 a_number).bind (fun (a_kind_5, a_behind_5) => some ((a_kind_5, a_behind_5, r4, a_names_textsSize_2, a_names_texts_2n, a_names_texts_2f, a_ends_size_4, a_ends_items_n_4, a_ends_items_f_4, a_older_size_4, a_older_items_n_4, a_older_items_f_4, a_newest_f_4), 0, 0))))) else ((p_Bytes_at x2_2 a_tape_size a_tape_items_n a_tape_items_f).bind (fun r6 => (p_Names_addToText r6 a_names_textsSize_2 a_names_sizeBefore a_names_texts_2n a_names_texts_2f).bind (fun ((a_textsSize_7, a_texts_n_7, a_texts_f_7), mk7, sk7) => al mk7 sk7 (p_Signs_takeName_12 n end_ a_kind a_place a_behind a_passed a_number a_tape_size a_tape_items_n a_tape_items_f a_names_sizeBefore a_names_ends_size a_names_ends_items_n a_names_ends_items_f a_names_older_size a_names_older_items_n a_names_older_items_f a_names_newest_n a_names_newest_f kf2 (x2_2 + 1) a_textsSize_7 a_texts_n_7 a_texts_f_7))))
def p_Signs_takeName (n : Nat) (end_ : Int32) (a_kind : Int32) (a_place : Int32) (a_behind : Int32) (a_passed : Int32) (a_name : Int32) (a_number : Int64) (a_tape_size : Int32) (a_tape_items_n : Nat) (a_tape_items_f : Nat → Int32) (a_names_textsSize : Int32) (a_names_sizeBefore : Int32) (a_names_texts_n : Nat) (a_names_texts_f : Nat → Int32) (a_names_ends_size : Int32) (a_names_ends_items_n : Nat) (a_names_ends_items_f : Nat → Int32) (a_names_older_size : Int32) (a_names_older_items_n : Nat) (a_names_older_items_f : Nat → Int32) (a_names_newest_n : Nat) (a_names_newest_f : Nat → Int32) : Option ((Int32 × Int32 × Int32 × Int32 × Nat × (Nat → Int32) × Int32 × Nat × (Nat → Int32) × Int32 × Nat × (Nat → Int32) × (Nat → Int32)) × Nat × Nat) := (p_Names_startText a_names_textsSize a_names_sizeBefore a_names_ends_size a_names_ends_items_n a_names_ends_items_f).bind (fun a_textsSize_1 => p_Signs_takeName_12 n end_ a_kind a_place a_behind a_passed a_number a_tape_size a_tape_items_n a_tape_items_f a_names_sizeBefore a_names_ends_size a_names_ends_items_n a_names_ends_items_f a_names_older_size a_names_older_items_n a_names_older_items_f a_names_newest_n a_names_newest_f n a_place a_textsSize_1 a_names_texts_n a_names_texts_f)
set_option maxHeartbeats 4000000 in
set_option maxRecDepth 100000 in
theorem c_Signs_takeName (l : Launch) (g : va_G) (cs : Nat → ClassId) (ka : Nat → Nat) (a a_tape a_tape_items a_names a_names_texts a_names_ends a_names_ends_items a_names_older a_names_older_items a_names_newest : Nat) (sz : Nat) (n : Nat) (end_ : Int32) (a_kind : Int32) (a_place : Int32) (a_behind : Int32) (a_passed : Int32) (a_name : Int32) (a_number : Int64) (a_tape_size : Int32) (a_tape_items_n : Nat) (a_tape_items_f : Nat → Int32) (a_names_textsSize : Int32) (a_names_sizeBefore : Int32) (a_names_texts_n : Nat) (a_names_texts_f : Nat → Int32) (a_names_ends_size : Int32) (a_names_ends_items_n : Nat) (a_names_ends_items_f : Nat → Int32) (a_names_older_size : Int32) (a_names_older_items_n : Nat) (a_names_older_items_f : Nat → Int32) (a_names_newest_n : Nat) (a_names_newest_f : Nat → Int32) (o_a_kind : Int32) (o_a_behind : Int32) (o_a_name : Int32) (o_a_names_textsSize : Int32) (o_a_names_texts_n : Nat) (o_a_names_texts_f : Nat → Int32) (o_a_names_ends_size : Int32) (o_a_names_ends_items_n : Nat) (o_a_names_ends_items_f : Nat → Int32) (o_a_names_older_size : Int32) (o_a_names_older_items_n : Nat) (o_a_names_older_items_f : Nat → Int32) (o_a_names_newest_f : Nat → Int32) (mc ms : Nat) (hok : p_Signs_takeName n end_ a_kind a_place a_behind a_passed a_name a_number a_tape_size a_tape_items_n a_tape_items_f a_names_textsSize a_names_sizeBefore a_names_texts_n a_names_texts_f a_names_ends_size a_names_ends_items_n a_names_ends_items_f a_names_older_size a_names_older_items_n a_names_older_items_f a_names_newest_n a_names_newest_f = some ((o_a_kind, o_a_behind, o_a_name, o_a_names_textsSize, o_a_names_texts_n, o_a_names_texts_f, o_a_names_ends_size, o_a_names_ends_items_n, o_a_names_ends_items_f, o_a_names_older_size, o_a_names_older_items_n, o_a_names_older_items_f, o_a_names_newest_f), mc, ms)) : Met l y_Signs_takeName (.code y_Signs_takeName b_Signs_takeName 3 none :: GW) { frames := 4, cells := mc, slots := ms, locals := 167 } (va_Pc [.ref a, .int end_] (gP g cs ka [(a, .inr (6, [.ref a_tape, .ref a_names, .int a_kind, .int a_place, .int a_behind, .int a_passed, .int a_name, .long a_number])), (a_tape, .inr (0, [.ref a_tape_items, .int a_tape_size])), (a_tape_items, .inl (cs 1, a_tape_items_n, .inl a_tape_items_f)), (a_names, .inr (2, [.ref a_names_texts, .int a_names_textsSize, .ref a_names_ends, .ref a_names_older, .ref a_names_newest, .int a_names_sizeBefore])), (a_names_texts, .inl (cs 1, a_names_texts_n, .inl a_names_texts_f)), (a_names_ends, .inr (1, [.ref a_names_ends_items, .int a_names_ends_size])), (a_names_ends_items, .inl (cs 0, a_names_ends_items_n, .inl a_names_ends_items_f)), (a_names_older, .inr (1, [.ref a_names_older_items, .int a_names_older_size])), (a_names_older_items, .inl (cs 0, a_names_older_items_n, .inl a_names_older_items_f)), (a_names_newest, .inl (cs 0, a_names_newest_n, .inl a_names_newest_f))] sz)) (va_Qv (fun _ : Unit => True) (fun _ t => ∃ b_a_names_texts b_a_names_ends_items b_a_names_older_items : Nat, va_P g classes [(a, .inr (6, [.ref a_tape, .ref a_names, .int o_a_kind, .int a_place, .int o_a_behind, .int a_passed, .int o_a_name, .long a_number])), (a_tape, .inr (0, [.ref a_tape_items, .int a_tape_size])), (a_tape_items, .inl (cs 1, a_tape_items_n, .inl a_tape_items_f)), (a_names, .inr (2, [.ref b_a_names_texts, .int o_a_names_textsSize, .ref a_names_ends, .ref a_names_older, .ref a_names_newest, .int a_names_sizeBefore])), (b_a_names_texts, .inl (cs 1, o_a_names_texts_n, .inl o_a_names_texts_f)), (a_names_ends, .inr (1, [.ref b_a_names_ends_items, .int o_a_names_ends_size])), (b_a_names_ends_items, .inl (cs 0, o_a_names_ends_items_n, .inl o_a_names_ends_items_f)), (a_names_older, .inr (1, [.ref b_a_names_older_items, .int o_a_names_older_size])), (b_a_names_older_items, .inl (cs 0, o_a_names_older_items_n, .inl o_a_names_older_items_f)), (a_names_newest, .inl (cs 0, a_names_newest_n, .inl o_a_names_newest_f))] t.heap ∧ va_D (va_A [(a, .inr (6, [.ref a_tape, .ref a_names, .int a_kind, .int a_place, .int a_behind, .int a_passed, .int a_name, .long a_number])), (a_tape, .inr (0, [.ref a_tape_items, .int a_tape_size])), (a_tape_items, .inl (cs 1, a_tape_items_n, .inl a_tape_items_f)), (a_names, .inr (2, [.ref a_names_texts, .int a_names_textsSize, .ref a_names_ends, .ref a_names_older, .ref a_names_newest, .int a_names_sizeBefore])), (a_names_texts, .inl (cs 1, a_names_texts_n, .inl a_names_texts_f)), (a_names_ends, .inr (1, [.ref a_names_ends_items, .int a_names_ends_size])), (a_names_ends_items, .inl (cs 0, a_names_ends_items_n, .inl a_names_ends_items_f)), (a_names_older, .inr (1, [.ref a_names_older_items, .int a_names_older_size])), (a_names_older_items, .inl (cs 0, a_names_older_items_n, .inl a_names_older_items_f)), (a_names_newest, .inl (cs 0, a_names_newest_n, .inl a_names_newest_f))] sz) [(a, .inr (6, [.ref a_tape, .ref a_names, .int o_a_kind, .int a_place, .int o_a_behind, .int a_passed, .int o_a_name, .long a_number])), (a_tape, .inr (0, [.ref a_tape_items, .int a_tape_size])), (a_tape_items, .inl (cs 1, a_tape_items_n, .inl a_tape_items_f)), (a_names, .inr (2, [.ref b_a_names_texts, .int o_a_names_textsSize, .ref a_names_ends, .ref a_names_older, .ref a_names_newest, .int a_names_sizeBefore])), (b_a_names_texts, .inl (cs 1, o_a_names_texts_n, .inl o_a_names_texts_f)), (a_names_ends, .inr (1, [.ref b_a_names_ends_items, .int o_a_names_ends_size])), (b_a_names_ends_items, .inl (cs 0, o_a_names_ends_items_n, .inl o_a_names_ends_items_f)), (a_names_older, .inr (1, [.ref b_a_names_older_items, .int o_a_names_older_size])), (b_a_names_older_items, .inl (cs 0, o_a_names_older_items_n, .inl o_a_names_older_items_f)), (a_names_newest, .inl (cs 0, a_names_newest_n, .inl o_a_names_newest_f))]) (va_A [(a, .inr (6, [.ref a_tape, .ref a_names, .int a_kind, .int a_place, .int a_behind, .int a_passed, .int a_name, .long a_number])), (a_tape, .inr (0, [.ref a_tape_items, .int a_tape_size])), (a_tape_items, .inl (cs 1, a_tape_items_n, .inl a_tape_items_f)), (a_names, .inr (2, [.ref a_names_texts, .int a_names_textsSize, .ref a_names_ends, .ref a_names_older, .ref a_names_newest, .int a_names_sizeBefore])), (a_names_texts, .inl (cs 1, a_names_texts_n, .inl a_names_texts_f)), (a_names_ends, .inr (1, [.ref a_names_ends_items, .int a_names_ends_size])), (a_names_ends_items, .inl (cs 0, a_names_ends_items_n, .inl a_names_ends_items_f)), (a_names_older, .inr (1, [.ref a_names_older_items, .int a_names_older_size])), (a_names_older_items, .inl (cs 0, a_names_older_items_n, .inl a_names_older_items_f)), (a_names_newest, .inl (cs 0, a_names_newest_n, .inl a_names_newest_f))] sz)) mc ms (va_A [(a, .inr (6, [.ref a_tape, .ref a_names, .int a_kind, .int a_place, .int a_behind, .int a_passed, .int a_name, .long a_number])), (a_tape, .inr (0, [.ref a_tape_items, .int a_tape_size])), (a_tape_items, .inl (cs 1, a_tape_items_n, .inl a_tape_items_f)), (a_names, .inr (2, [.ref a_names_texts, .int a_names_textsSize, .ref a_names_ends, .ref a_names_older, .ref a_names_newest, .int a_names_sizeBefore])), (a_names_texts, .inl (cs 1, a_names_texts_n, .inl a_names_texts_f)), (a_names_ends, .inr (1, [.ref a_names_ends_items, .int a_names_ends_size])), (a_names_ends_items, .inl (cs 0, a_names_ends_items_n, .inl a_names_ends_items_f)), (a_names_older, .inr (1, [.ref a_names_older_items, .int a_names_older_size])), (a_names_older_items, .inl (cs 0, a_names_older_items_n, .inl a_names_older_items_f)), (a_names_newest, .inl (cs 0, a_names_newest_n, .inl a_names_newest_f))] sz) := by
  refine Met.ofW (cc := b_Signs_takeName) (maxL := 3) (ret := none) (by decide) rfl ?_
  intro p e s m args below meth c s₁ B hml hv
  obtain ⟨rfl, hsz, hP, hK, hD0, hgl, hkn, hkr⟩ := hv
  have hx := B.exec
  have hb := B.bytes
  have hr := B.returns
  have hg : ∀ w ∈ GW, w.before ([.ref a, .int end_] : List Value).toArray s = true := fun w hw => atoms_spec (ws := .code y_Signs_takeName b_Signs_takeName 3 none :: GW) B.pre w (List.mem_cons_of_mem _ hw)
  have hown : s.vm.findClass R_Signs = some m.cls := findClass_of_methodNamed B.named
  have hlocks := B.notSynchronized
  subst hsz
  have hD := hD0.self (sz := s.heap.size)
  generalize hAe : va_A [(a, .inr (6, [.ref a_tape, .ref a_names, .int a_kind, .int a_place, .int a_behind, .int a_passed, .int a_name, .long a_number])), (a_tape, .inr (0, [.ref a_tape_items, .int a_tape_size])), (a_tape_items, .inl (cs 1, a_tape_items_n, .inl a_tape_items_f)), (a_names, .inr (2, [.ref a_names_texts, .int a_names_textsSize, .ref a_names_ends, .ref a_names_older, .ref a_names_newest, .int a_names_sizeBefore])), (a_names_texts, .inl (cs 1, a_names_texts_n, .inl a_names_texts_f)), (a_names_ends, .inr (1, [.ref a_names_ends_items, .int a_names_ends_size])), (a_names_ends_items, .inl (cs 0, a_names_ends_items_n, .inl a_names_ends_items_f)), (a_names_older, .inr (1, [.ref a_names_older_items, .int a_names_older_size])), (a_names_older_items, .inl (cs 0, a_names_older_items_n, .inl a_names_older_items_f)), (a_names_newest, .inl (cs 0, a_names_newest_n, .inl a_names_newest_f))] s.heap.size = A at hD hkn ⊢
  have hA : ∀ q : Nat, s.heap.size ≤ q → A q := fun q h => by rw [← hAe]; exact Or.inr h
  have hS : va_S A s.heap s.heap [] := va_S.rf
  have hP : va_P g classes [(a, .inr (6, [.ref a_tape, .ref a_names, .int a_kind, .int a_place, .int a_behind, .int a_passed, .int a_name, .long a_number])), (a_tape, .inr (0, [.ref a_tape_items, .int a_tape_size])), (a_tape_items, .inl (cs 1, a_tape_items_n, .inl a_tape_items_f)), (a_names, .inr (2, [.ref a_names_texts, .int a_names_textsSize, .ref a_names_ends, .ref a_names_older, .ref a_names_newest, .int a_names_sizeBefore])), (a_names_texts, .inl (cs 1, a_names_texts_n, .inl a_names_texts_f)), (a_names_ends, .inr (1, [.ref a_names_ends_items, .int a_names_ends_size])), (a_names_ends_items, .inl (cs 0, a_names_ends_items_n, .inl a_names_ends_items_f)), (a_names_older, .inr (1, [.ref a_names_older_items, .int a_names_older_size])), (a_names_older_items, .inl (cs 0, a_names_older_items_n, .inl a_names_older_items_f)), (a_names_newest, .inl (cs 0, a_names_newest_n, .inl a_names_newest_f))] s.heap := hP
  have hl := lv_entry ([.ref a, .int end_]) (n := 3) (Nat.le_of_ble_eq_true rfl)
  rw [lg_entry_eq]
  generalize (lg_sl ([.ref a, .int end_]) ++ List.replicate (3 - (lg_sl ([.ref a, .int end_])).length) Slot.unset).toArray = ls at hl ⊢
  have hl : lv_has ls 3 [(0, .ref a), (1, .int end_)] := hl
  refine gq (fun Q hQ => ?_)
  obtain ⟨H, hH⟩ : ∃ H : Heap, H = s.heap := ⟨_, rfl⟩
  rw [← hH] at hP
  have hS : va_S A s.heap H [] := by rw [hH]; exact hS
  refine W.eqH hH ?_
  obtain ⟨locs, hlc⟩ : ∃ L : List Loc, L = [] := ⟨_, rfl⟩
  rw [← hlc] at hS ⊢
  unfold p_Signs_takeName at hok
  refine lv_aload_n hx hb d_Signs_takeName_0 rfl (lv_at hl 0 rfl) ?_
  refine va_get (D := g) (ci := 6) (v := .ref a_names) (C := R_Signs) (T := F_Signs) (N := 8) hx hb hg ul_Signs hown hK hP 0 rfl rfl 1 (by decide) (hg _ wd_448) (fun _ h9 => h9) rfl d_Signs_takeName_1 ?_
  obtain ⟨a_textsSize_1, hc1, hok⟩ := bd_some hok
  obtain ⟨hPc, hDc, hFc⟩ := cut0 (wc := [(a_names, .inr (2, [.ref a_names_texts, .int a_names_textsSize, .ref a_names_ends, .ref a_names_older, .ref a_names_newest, .int a_names_sizeBefore])), (a_names_ends, .inr (1, [.ref a_names_ends_items, .int a_names_ends_size])), (a_names_ends_items, .inl (cs 0, a_names_ends_items_n, .inl a_names_ends_items_f))]) hP hD hS hA [3, 5, 6] (by decide) rfl
  refine va_callv (va_runV (As := []) (rest := []) ⟨hx, hb, hml, hown, hg⟩ (c_Names_startText l g cs ka a_names_texts a_names_older a_names_newest a_names a_names_ends a_names_ends_items H.size a_names_textsSize a_names_sizeBefore a_names_ends_size a_names_ends_items_n a_names_ends_items_f a_textsSize_1 hc1) (cwV (C := R_Names) 0 hg (gw_V wd_464 wd_418 wd_419 wd_287 wd_416) rfl rfl rfl (by decide +kernel) ⟨Nat.le_of_ble_eq_true rfl, Nat.le_of_ble_eq_true rfl⟩) ⟨gP_blind, va_recv (q0 := 3) (ci := 2) (q := (R_Names, F_Names, 6)) hK hP rfl rfl, gP_pre hPc hDc hK hgl hkn hkr hS hFc⟩ rfl rfl hl.1 rfl (lv_room (Nat.le_of_ble_eq_true rfl)) d_Signs_takeName_4 ⟨show 0 + 0 ≤ mc from by omega, show 0 + 0 ≤ ms from by omega⟩) hS (fun q _ h => hFc q h) hFc (fun u t H locs ht hvm hr1 hB hz1 hk1 hS => ?_)
  rw [ht] at hB
  obtain ⟨hP1, hD1⟩ := hB
  obtain ⟨hP, hD⟩ := jn_A hP hD [3, 5, 6] [0, 1, 2, 4, 7, 8, 9] rfl rfl (by decide) (by decide) hk1 hFc hP1 hD1
  obtain ⟨hP, hD⟩ : PD g A H [(a, .inr (6, [.ref a_tape, .ref a_names, .int a_kind, .int a_place, .int a_behind, .int a_passed, .int a_name, .long a_number])), (a_tape, .inr (0, [.ref a_tape_items, .int a_tape_size])), (a_tape_items, .inl (cs 1, a_tape_items_n, .inl a_tape_items_f)), (a_names_texts, .inl (cs 1, a_names_texts_n, .inl a_names_texts_f)), (a_names_older, .inr (1, [.ref a_names_older_items, .int a_names_older_size])), (a_names_older_items, .inl (cs 0, a_names_older_items_n, .inl a_names_older_items_f)), (a_names_newest, .inl (cs 0, a_names_newest_n, .inl a_names_newest_f)), (a_names, .inr (2, [.ref a_names_texts, .int a_textsSize_1, .ref a_names_ends, .ref a_names_older, .ref a_names_newest, .int a_names_sizeBefore])), (a_names_ends, .inr (1, [.ref a_names_ends_items, .int a_names_ends_size])), (a_names_ends_items, .inl (cs 0, a_names_ends_items_n, .inl a_names_ends_items_f))] := ⟨hP, hD⟩
  refine lv_aload_n hx hb d_Signs_takeName_7 rfl (lv_at hl 0 rfl) ?_
  refine va_get (D := g) (ci := 6) (v := .int a_place) (C := R_Signs) (T := F_Signs) (N := 8) hx hb hg ul_Signs hown hK hP 0 rfl rfl 3 (by decide) (hg _ wd_442) (fun _ h9 => h9) rfl d_Signs_takeName_8 ?_
  refine lv_istore_n hx hb d_Signs_takeName_11 rfl hl (by decide) rfl (fun ls hl => ?_)
  have hl : lv_has ls 3 [(2, .int a_place), (0, .ref a), (1, .int end_)] := hl
  have J2 : ∀ (kf2 : Nat) (H : Heap) (locs : List Loc) (ls : Array Slot) (cells2 slots2 mr2 sr2 : Nat) (a_names_texts_2 : Nat) (x2_2 : Int32) (a_names_textsSize_2 : Int32) (a_names_texts_2n : Nat) (a_names_texts_2f : Nat → Int32), lv_has ls 3 [(2, .int x2_2), (0, .ref a), (1, .int end_)] → PD g A H [(a, .inr (6, [.ref a_tape, .ref a_names, .int a_kind, .int a_place, .int a_behind, .int a_passed, .int a_name, .long a_number])), (a_tape, .inr (0, [.ref a_tape_items, .int a_tape_size])), (a_tape_items, .inl (cs 1, a_tape_items_n, .inl a_tape_items_f)), (a_names_texts_2, .inl (cs 1, a_names_texts_2n, .inl a_names_texts_2f)), (a_names_older, .inr (1, [.ref a_names_older_items, .int a_names_older_size])), (a_names_older_items, .inl (cs 0, a_names_older_items_n, .inl a_names_older_items_f)), (a_names_newest, .inl (cs 0, a_names_newest_n, .inl a_names_newest_f)), (a_names, .inr (2, [.ref a_names_texts_2, .int a_names_textsSize_2, .ref a_names_ends, .ref a_names_older, .ref a_names_newest, .int a_names_sizeBefore])), (a_names_ends, .inr (1, [.ref a_names_ends_items, .int a_names_ends_size])), (a_names_ends_items, .inl (cs 0, a_names_ends_items_n, .inl a_names_ends_items_f))] → va_S A s.heap H locs → cells2 + mr2 = mc → slots2 + sr2 = ms → p_Signs_takeName_12 n end_ a_kind a_place a_behind a_passed a_number a_tape_size a_tape_items_n a_tape_items_f a_names_sizeBefore a_names_ends_size a_names_ends_items_n a_names_ends_items_f a_names_older_size a_names_older_items_n a_names_older_items_f a_names_newest_n a_names_newest_f kf2 x2_2 a_names_textsSize_2 a_names_texts_2n a_names_texts_2f = some ((o_a_kind, o_a_behind, o_a_name, o_a_names_textsSize, o_a_names_texts_n, o_a_names_texts_f, o_a_names_ends_size, o_a_names_ends_items_n, o_a_names_ends_items_f, o_a_names_older_size, o_a_names_older_items_n, o_a_names_older_items_f, o_a_names_newest_f), mr2, sr2) → W p l e (headSpec (.code y_Signs_takeName b_Signs_takeName 3 none :: GW) { frames := 4, cells := mc, slots := ms, locals := 167 }).room s m ([.ref a, .int end_] : List Value).toArray below meth c H locs cells2 slots2 Q (F0 m 12 ls []) := by
    intro kf2
    induction kf2 with
    | zero => intro H locs ls cells2 slots2 mr2 sr2 a_names_texts_2 x2_2 a_names_textsSize_2 a_names_texts_2n a_names_texts_2f hl ⟨hP, hD⟩ hS hmr2 hsr2 hok; rw [p_Signs_takeName_12] at hok; cases hok
    | succ kf2 ih2 =>
      intro H locs ls cells2 slots2 mr2 sr2 a_names_texts_2 x2_2 a_names_textsSize_2 a_names_texts_2n a_names_texts_2f hl ⟨hP, hD⟩ hS hmr2 hsr2 hok
      rw [p_Signs_takeName_12] at hok
      refine lv_iload_n hx hb d_Signs_takeName_12 rfl (lv_at hl 0 rfl) ?_
      refine lv_iload_n hx hb d_Signs_takeName_13 rfl (lv_at hl 2 rfl) ?_
      refine lv_icmp_ge hx hb d_Signs_takeName_14 rfl (fun h3 => ?_) (fun h3 => ?_)
      · rw [if_pos h3] at hok
        refine lv_aload_n hx hb d_Signs_takeName_38 rfl (lv_at hl 1 rfl) ?_
        refine lv_aload_n hx hb d_Signs_takeName_39 rfl (lv_at hl 1 rfl) ?_
        refine va_get (D := g) (ci := 6) (v := .ref a_names) (C := R_Signs) (T := F_Signs) (N := 8) hx hb hg ul_Signs hown hK hP 0 rfl rfl 1 (by decide) (hg _ wd_448) (fun _ h9 => h9) rfl d_Signs_takeName_40 ?_
        obtain ⟨⟨⟨r4, a_ends_size_4, a_ends_items_n_4, a_ends_items_f_4, a_older_size_4, a_older_items_n_4, a_older_items_f_4, a_newest_f_4⟩, mk4, sk4⟩, hc4, hok⟩ := bd_some hok
        dsimp only at hok
        obtain ⟨m4, s4, hok, hmc4, hms4⟩ := al_some hok
        obtain ⟨hPc, hDc, hFc⟩ := cut0 (wc := [(a_names, .inr (2, [.ref a_names_texts_2, .int a_names_textsSize_2, .ref a_names_ends, .ref a_names_older, .ref a_names_newest, .int a_names_sizeBefore])), (a_names_texts_2, .inl (cs 1, a_names_texts_2n, .inl a_names_texts_2f)), (a_names_ends, .inr (1, [.ref a_names_ends_items, .int a_names_ends_size])), (a_names_ends_items, .inl (cs 0, a_names_ends_items_n, .inl a_names_ends_items_f)), (a_names_older, .inr (1, [.ref a_names_older_items, .int a_names_older_size])), (a_names_older_items, .inl (cs 0, a_names_older_items_n, .inl a_names_older_items_f)), (a_names_newest, .inl (cs 0, a_names_newest_n, .inl a_names_newest_f))]) hP hD hS hA [7, 3, 8, 9, 4, 5, 6] (by decide) rfl
        refine va_calli (va_runV (As := []) (rest := [.ref a]) ⟨hx, hb, hml, hown, hg⟩ (c_Names_numberOfText l g cs ka a_names a_names_texts_2 a_names_ends a_names_ends_items a_names_older a_names_older_items a_names_newest H.size n a_names_textsSize_2 a_names_sizeBefore a_names_texts_2n a_names_texts_2f a_names_ends_size a_names_ends_items_n a_names_ends_items_f a_names_older_size a_names_older_items_n a_names_older_items_f a_names_newest_n a_names_newest_f r4 a_ends_size_4 a_ends_items_n_4 a_ends_items_f_4 a_older_size_4 a_older_items_n_4 a_older_items_f_4 a_newest_f_4 mk4 sk4 hc4) (cwV (C := R_Names) 0 hg (gw_V wd_465 wd_423 wd_424 wd_287 wd_421) rfl rfl rfl (by decide +kernel) ⟨Nat.le_of_ble_eq_true rfl, Nat.le_of_ble_eq_true rfl⟩) ⟨gP_blind, va_recv (q0 := 7) (ci := 2) (q := (R_Names, F_Names, 6)) hK hP rfl rfl, gP_pre hPc hDc hK hgl hkn hkr hS hFc⟩ rfl rfl hl.1 rfl (lv_room (Nat.le_of_ble_eq_true rfl)) d_Signs_takeName_43 ⟨show cells2 + mk4 ≤ mc from by omega, show slots2 + sk4 ≤ ms from by omega⟩) hS (fun q _ h => hFc q h) hFc (fun r4' u t H locs ht hvm hr4 hB hz1 hk1 hS => ?_)
        subst hr4
        rw [ht] at hB
        obtain ⟨a_ends_items_4, a_older_items_4, hP1, hD1⟩ := hB
        obtain ⟨hP, hD⟩ := jn_A hP hD [7, 3, 8, 9, 4, 5, 6] [0, 1, 2] rfl rfl (by decide) (by decide) hk1 hFc hP1 hD1
        obtain ⟨hP, hD⟩ : PD g A H [(a, .inr (6, [.ref a_tape, .ref a_names, .int a_kind, .int a_place, .int a_behind, .int a_passed, .int a_name, .long a_number])), (a_tape, .inr (0, [.ref a_tape_items, .int a_tape_size])), (a_tape_items, .inl (cs 1, a_tape_items_n, .inl a_tape_items_f)), (a_names, .inr (2, [.ref a_names_texts_2, .int a_names_textsSize_2, .ref a_names_ends, .ref a_names_older, .ref a_names_newest, .int a_names_sizeBefore])), (a_names_texts_2, .inl (cs 1, a_names_texts_2n, .inl a_names_texts_2f)), (a_names_ends, .inr (1, [.ref a_ends_items_4, .int a_ends_size_4])), (a_ends_items_4, .inl (cs 0, a_ends_items_n_4, .inl a_ends_items_f_4)), (a_names_older, .inr (1, [.ref a_older_items_4, .int a_older_size_4])), (a_older_items_4, .inl (cs 0, a_older_items_n_4, .inl a_older_items_f_4)), (a_names_newest, .inl (cs 0, a_names_newest_n, .inl a_newest_f_4))] := ⟨hP, hD⟩
        refine va_put (D := g) (ci := 6) (v := .int r4) (ty := .int) (C := R_Signs) (T := F_Signs) (N := 8) hx hb hg ul_Signs t_Signs tk_Signs n_Signs hown hK hP hD hS 0 rfl rfl 6 (by decide) (hg _ wd_445) (fun _ h9 => h9) rfl (by decide +kernel) rfl rfl (Nat.le_of_ble_eq_true rfl) d_Signs_takeName_46 (fun H locs hP hD hS => ?_)
        obtain ⟨hP, hD⟩ : PD g A H [(a, .inr (6, [.ref a_tape, .ref a_names, .int a_kind, .int a_place, .int a_behind, .int a_passed, .int r4, .long a_number])), (a_tape, .inr (0, [.ref a_tape_items, .int a_tape_size])), (a_tape_items, .inl (cs 1, a_tape_items_n, .inl a_tape_items_f)), (a_names, .inr (2, [.ref a_names_texts_2, .int a_names_textsSize_2, .ref a_names_ends, .ref a_names_older, .ref a_names_newest, .int a_names_sizeBefore])), (a_names_texts_2, .inl (cs 1, a_names_texts_2n, .inl a_names_texts_2f)), (a_names_ends, .inr (1, [.ref a_ends_items_4, .int a_ends_size_4])), (a_ends_items_4, .inl (cs 0, a_ends_items_n_4, .inl a_ends_items_f_4)), (a_names_older, .inr (1, [.ref a_older_items_4, .int a_older_size_4])), (a_older_items_4, .inl (cs 0, a_older_items_n_4, .inl a_older_items_f_4)), (a_names_newest, .inl (cs 0, a_names_newest_n, .inl a_newest_f_4))] := ⟨hP, hD⟩
        refine lv_aload_n hx hb d_Signs_takeName_49 rfl (lv_at hl 1 rfl) ?_
        refine lv_iconst (v := 3) hx hb d_Signs_takeName_50 (by decide) ?_
        refine lv_iload_n hx hb d_Signs_takeName_51 rfl (lv_at hl 2 rfl) ?_
        obtain ⟨⟨a_kind_5, a_behind_5⟩, hc5, hok⟩ := bd_some hok
        dsimp only at hok
        obtain ⟨hPc, hDc, hFc⟩ := cut0 (wc := [(a, .inr (6, [.ref a_tape, .ref a_names, .int a_kind, .int a_place, .int a_behind, .int a_passed, .int r4, .long a_number]))]) hP hD hS hA [0] (by decide) rfl
        refine va_callv (va_runV (As := [.int 3, .int end_]) (rest := []) ⟨hx, hb, hml, hown, hg⟩ (c_Signs_takeTo l g cs ka a_tape a_names a H.size (3 : Int32) end_ a_kind a_place a_behind a_passed r4 a_number a_kind_5 a_behind_5 hc5) (cwV (C := R_Signs) 2 hg (gw_V wd_468 wd_469 wd_470 wd_467 wd_466) rfl rfl rfl (by decide +kernel) ⟨Nat.le_of_ble_eq_true rfl, Nat.le_of_ble_eq_true rfl⟩) ⟨gP_blind, va_recv (q0 := 0) (ci := 6) (q := (R_Signs, F_Signs, 8)) hK hP rfl rfl, gP_pre hPc hDc hK hgl hkn hkr hS hFc⟩ rfl rfl hl.1 rfl (lv_room (Nat.le_of_ble_eq_true rfl)) d_Signs_takeName_52 ⟨show cells2 + mk4 + 0 ≤ mc from by omega, show slots2 + sk4 + 0 ≤ ms from by omega⟩) hS (fun q _ h => hFc q h) hFc (fun u t H locs ht hvm hr5 hB hz1 hk1 hS => ?_)
        rw [ht] at hB
        obtain ⟨hP1, hD1⟩ := hB
        obtain ⟨hP, hD⟩ := jn_A hP hD [0] [1, 2, 3, 4, 5, 6, 7, 8, 9] rfl rfl (by decide) (by decide) hk1 hFc hP1 hD1
        obtain ⟨hP, hD⟩ : PD g A H [(a_tape, .inr (0, [.ref a_tape_items, .int a_tape_size])), (a_tape_items, .inl (cs 1, a_tape_items_n, .inl a_tape_items_f)), (a_names, .inr (2, [.ref a_names_texts_2, .int a_names_textsSize_2, .ref a_names_ends, .ref a_names_older, .ref a_names_newest, .int a_names_sizeBefore])), (a_names_texts_2, .inl (cs 1, a_names_texts_2n, .inl a_names_texts_2f)), (a_names_ends, .inr (1, [.ref a_ends_items_4, .int a_ends_size_4])), (a_ends_items_4, .inl (cs 0, a_ends_items_n_4, .inl a_ends_items_f_4)), (a_names_older, .inr (1, [.ref a_older_items_4, .int a_older_size_4])), (a_older_items_4, .inl (cs 0, a_older_items_n_4, .inl a_older_items_f_4)), (a_names_newest, .inl (cs 0, a_names_newest_n, .inl a_newest_f_4)), (a, .inr (6, [.ref a_tape, .ref a_names, .int a_kind_5, .int a_place, .int a_behind_5, .int a_passed, .int r4, .long a_number]))] := ⟨hP, hD⟩
        obtain ⟨hq, hw⟩ := Prod.mk.inj (Option.some.inj hok)
        obtain ⟨hmc0, hms0⟩ := Prod.mk.inj hw
        obtain ⟨hq0, hq⟩ := Prod.mk.inj hq
        obtain ⟨hq1, hq⟩ := Prod.mk.inj hq
        obtain ⟨hq2, hq⟩ := Prod.mk.inj hq
        obtain ⟨hq3, hq⟩ := Prod.mk.inj hq
        obtain ⟨hq4, hq⟩ := Prod.mk.inj hq
        obtain ⟨hq5, hq⟩ := Prod.mk.inj hq
        obtain ⟨hq6, hq⟩ := Prod.mk.inj hq
        obtain ⟨hq7, hq⟩ := Prod.mk.inj hq
        obtain ⟨hq8, hq⟩ := Prod.mk.inj hq
        obtain ⟨hq9, hq⟩ := Prod.mk.inj hq
        obtain ⟨hq10, hq⟩ := Prod.mk.inj hq
        obtain ⟨hq11, hq⟩ := Prod.mk.inj hq
        have hq12 := hq
        subst hq0
        subst hq1
        subst hq2
        subst hq3
        subst hq4
        subst hq5
        subst hq6
        subst hq7
        subst hq8
        subst hq9
        subst hq10
        subst hq11
        subst hq12
        obtain ⟨hP9, hD9⟩ := sub2 (ws' := [(a, .inr (6, [.ref a_tape, .ref a_names, .int a_kind_5, .int a_place, .int a_behind_5, .int a_passed, .int r4, .long a_number])), (a_tape, .inr (0, [.ref a_tape_items, .int a_tape_size])), (a_tape_items, .inl (cs 1, a_tape_items_n, .inl a_tape_items_f)), (a_names, .inr (2, [.ref a_names_texts_2, .int a_names_textsSize_2, .ref a_names_ends, .ref a_names_older, .ref a_names_newest, .int a_names_sizeBefore])), (a_names_texts_2, .inl (cs 1, a_names_texts_2n, .inl a_names_texts_2f)), (a_names_ends, .inr (1, [.ref a_ends_items_4, .int a_ends_size_4])), (a_ends_items_4, .inl (cs 0, a_ends_items_n_4, .inl a_ends_items_f_4)), (a_names_older, .inr (1, [.ref a_older_items_4, .int a_older_size_4])), (a_older_items_4, .inl (cs 0, a_older_items_n_4, .inl a_older_items_f_4)), (a_names_newest, .inl (cs 0, a_names_newest_n, .inl a_newest_f_4))]) hP hD [9, 0, 1, 2, 3, 4, 5, 6, 7, 8] rfl (by decide) rfl
        refine W.widen (k := mc) (n := ms) (by omega) (by omega) ?_
        rw [hQ]
        exact W.vret hx hb hr (fun t ht hW => ⟨⟨(), rfl, trivial, a_names_texts_2, a_ends_items_4, a_older_items_4, by rw [ht]; exact hP9, hD9⟩, hS.F ht⟩) hS.2.2 d_Signs_takeName_55
      · rw [if_neg h3] at hok
        refine lv_aload_n hx hb d_Signs_takeName_17 rfl (lv_at hl 1 rfl) ?_
        refine va_get (D := g) (ci := 6) (v := .ref a_names) (C := R_Signs) (T := F_Signs) (N := 8) hx hb hg ul_Signs hown hK hP 0 rfl rfl 1 (by decide) (hg _ wd_448) (fun _ h9 => h9) rfl d_Signs_takeName_18 ?_
        refine lv_aload_n hx hb d_Signs_takeName_21 rfl (lv_at hl 1 rfl) ?_
        refine va_get (D := g) (ci := 6) (v := .ref a_tape) (C := R_Signs) (T := F_Signs) (N := 8) hx hb hg ul_Signs hown hK hP 0 rfl rfl 0 (by decide) (hg _ wd_447) (fun _ h9 => h9) rfl d_Signs_takeName_22 ?_
        refine lv_iload_n hx hb d_Signs_takeName_25 rfl (lv_at hl 0 rfl) ?_
        obtain ⟨r6, hc6, hok⟩ := bd_some hok
        obtain ⟨hPc, hDc, hFc⟩ := cut0 (wc := [(a_tape, .inr (0, [.ref a_tape_items, .int a_tape_size])), (a_tape_items, .inl (cs 1, a_tape_items_n, .inl a_tape_items_f))]) hP hD hS hA [1, 2] (by decide) rfl
        refine va_calli (va_runV (As := [.int x2_2]) (rest := [.ref a_names]) ⟨hx, hb, hml, hown, hg⟩ (c_Bytes_at l g cs ka a_tape a_tape_items H.size x2_2 a_tape_size a_tape_items_n a_tape_items_f r6 hc6) (cwV (C := R_Bytes) 1 hg (gw_V wd_455 wd_456 wd_457 wd_450 wd_454) rfl rfl rfl (by decide +kernel) ⟨Nat.le_of_ble_eq_true rfl, Nat.le_of_ble_eq_true rfl⟩) ⟨gP_blind, va_recv (q0 := 1) (ci := 0) (q := (R_Bytes, F_Bytes, 2)) hK hP rfl rfl, gP_pre hPc hDc hK hgl hkn hkr hS hFc⟩ rfl rfl hl.1 rfl (lv_room (Nat.le_of_ble_eq_true rfl)) d_Signs_takeName_26 ⟨show cells2 + 0 ≤ mc from by omega, show slots2 + 0 ≤ ms from by omega⟩) hS (fun q _ h => hFc q h) hFc (fun r6' u t H locs ht hvm hr6 hB hz1 hk1 hS => ?_)
        subst hr6
        rw [ht] at hB
        obtain ⟨hP1, hD1⟩ := hB
        obtain ⟨hP, hD⟩ := jn_A hP hD [1, 2] [0, 3, 4, 5, 6, 7, 8, 9] rfl rfl (by decide) (by decide) hk1 hFc hP1 hD1
        obtain ⟨hP, hD⟩ : PD g A H [(a, .inr (6, [.ref a_tape, .ref a_names, .int a_kind, .int a_place, .int a_behind, .int a_passed, .int a_name, .long a_number])), (a_names_texts_2, .inl (cs 1, a_names_texts_2n, .inl a_names_texts_2f)), (a_names_older, .inr (1, [.ref a_names_older_items, .int a_names_older_size])), (a_names_older_items, .inl (cs 0, a_names_older_items_n, .inl a_names_older_items_f)), (a_names_newest, .inl (cs 0, a_names_newest_n, .inl a_names_newest_f)), (a_names, .inr (2, [.ref a_names_texts_2, .int a_names_textsSize_2, .ref a_names_ends, .ref a_names_older, .ref a_names_newest, .int a_names_sizeBefore])), (a_names_ends, .inr (1, [.ref a_names_ends_items, .int a_names_ends_size])), (a_names_ends_items, .inl (cs 0, a_names_ends_items_n, .inl a_names_ends_items_f)), (a_tape, .inr (0, [.ref a_tape_items, .int a_tape_size])), (a_tape_items, .inl (cs 1, a_tape_items_n, .inl a_tape_items_f))] := ⟨hP, hD⟩
        obtain ⟨⟨⟨a_textsSize_7, a_texts_n_7, a_texts_f_7⟩, mk7, sk7⟩, hc7, hok⟩ := bd_some hok
        dsimp only at hok
        obtain ⟨m7, s7, hok, hmc7, hms7⟩ := al_some hok
        obtain ⟨hPc, hDc, hFc⟩ := cut0 (wc := [(a_names, .inr (2, [.ref a_names_texts_2, .int a_names_textsSize_2, .ref a_names_ends, .ref a_names_older, .ref a_names_newest, .int a_names_sizeBefore])), (a_names_texts_2, .inl (cs 1, a_names_texts_2n, .inl a_names_texts_2f))]) hP hD hS hA [5, 1] (by decide) rfl
        refine va_callv (va_runV (As := [.int r6]) (rest := []) ⟨hx, hb, hml, hown, hg⟩ (c_Names_addToText l g cs ka a_names_ends a_names_older a_names_newest a_names a_names_texts_2 H.size r6 a_names_textsSize_2 a_names_sizeBefore a_names_texts_2n a_names_texts_2f a_textsSize_7 a_texts_n_7 a_texts_f_7 mk7 sk7 hc7) (cwV (C := R_Names) 1 hg (gw_V wd_471 wd_431 wd_432 wd_287 wd_429) rfl rfl rfl (by decide +kernel) ⟨Nat.le_of_ble_eq_true rfl, Nat.le_of_ble_eq_true rfl⟩) ⟨gP_blind, va_recv (q0 := 5) (ci := 2) (q := (R_Names, F_Names, 6)) hK hP rfl rfl, gP_pre hPc hDc hK hgl hkn hkr hS hFc⟩ rfl rfl hl.1 rfl (lv_room (Nat.le_of_ble_eq_true rfl)) d_Signs_takeName_29 ⟨show cells2 + 0 + mk7 ≤ mc from by omega, show slots2 + 0 + sk7 ≤ ms from by omega⟩) hS (fun q _ h => hFc q h) hFc (fun u t H locs ht hvm hr7 hB hz1 hk1 hS => ?_)
        rw [ht] at hB
        obtain ⟨a_texts_7, hP1, hD1⟩ := hB
        obtain ⟨hP, hD⟩ := jn_A hP hD [5, 1] [0, 2, 3, 4, 6, 7, 8, 9] rfl rfl (by decide) (by decide) hk1 hFc hP1 hD1
        obtain ⟨hP, hD⟩ : PD g A H [(a, .inr (6, [.ref a_tape, .ref a_names, .int a_kind, .int a_place, .int a_behind, .int a_passed, .int a_name, .long a_number])), (a_names_older, .inr (1, [.ref a_names_older_items, .int a_names_older_size])), (a_names_older_items, .inl (cs 0, a_names_older_items_n, .inl a_names_older_items_f)), (a_names_newest, .inl (cs 0, a_names_newest_n, .inl a_names_newest_f)), (a_names_ends, .inr (1, [.ref a_names_ends_items, .int a_names_ends_size])), (a_names_ends_items, .inl (cs 0, a_names_ends_items_n, .inl a_names_ends_items_f)), (a_tape, .inr (0, [.ref a_tape_items, .int a_tape_size])), (a_tape_items, .inl (cs 1, a_tape_items_n, .inl a_tape_items_f)), (a_names, .inr (2, [.ref a_texts_7, .int a_textsSize_7, .ref a_names_ends, .ref a_names_older, .ref a_names_newest, .int a_names_sizeBefore])), (a_texts_7, .inl (cs 1, a_texts_n_7, .inl a_texts_f_7))] := ⟨hP, hD⟩
        refine lv_iinc (k := 0) (v := x2_2 + 1) hx hb d_Signs_takeName_32 hl rfl rfl (by decide) rfl (fun ls hl => ?_)
        have hl : lv_has ls 3 [(2, .int (x2_2 + 1)), (0, .ref a), (1, .int end_)] := hl
        refine lv_goto hx hb d_Signs_takeName_35 rfl ?_
        exact ih2 _ _ _ _ _ _ _ a_texts_7 (x2_2 + 1) a_textsSize_7 a_texts_n_7 a_texts_f_7 (lv_sub hl [0, 1, 2] rfl) (sub3 hP hD [0, 6, 7, 9, 1, 2, 3, 8, 4, 5] (by decide)) hS (by omega) (by omega) hok
  exact J2 n H locs ls _ _ _ _ a_names_texts a_place a_textsSize_1 a_names_texts_n a_names_texts_f hl ⟨hP, hD⟩ hS (by omega) (by omega) hok

theorem d_Signs_takeVariable_0 : decode b_Signs_takeVariable 0 = .ok (.aload_n 0, 1) := by decide +kernel
theorem d_Signs_takeVariable_1 : decode b_Signs_takeVariable 1 = .ok (.getfield 30, 3) := by decide +kernel
theorem d_Signs_takeVariable_4 : decode b_Signs_takeVariable 4 = .ok (.aload_n 0, 1) := by decide +kernel
theorem d_Signs_takeVariable_5 : decode b_Signs_takeVariable 5 = .ok (.getfield 13, 3) := by decide +kernel
theorem d_Signs_takeVariable_8 : decode b_Signs_takeVariable 8 = .ok (.invokevirtual 42, 3) := by decide +kernel
theorem d_Signs_takeVariable_11 : decode b_Signs_takeVariable 11 = .ok (.bipush 95, 2) := by decide +kernel
theorem d_Signs_takeVariable_13 : decode b_Signs_takeVariable 13 = .ok (.if_icmp .ne 26, 3) := by decide +kernel
theorem d_Signs_takeVariable_16 : decode b_Signs_takeVariable 16 = .ok (.aload_n 0, 1) := by decide +kernel
theorem d_Signs_takeVariable_17 : decode b_Signs_takeVariable 17 = .ok (.getfield 30, 3) := by decide +kernel
theorem d_Signs_takeVariable_20 : decode b_Signs_takeVariable 20 = .ok (.aload_n 0, 1) := by decide +kernel
theorem d_Signs_takeVariable_21 : decode b_Signs_takeVariable 21 = .ok (.getfield 13, 3) := by decide +kernel
theorem d_Signs_takeVariable_24 : decode b_Signs_takeVariable 24 = .ok (.iconst 1, 1) := by decide +kernel
theorem d_Signs_takeVariable_25 : decode b_Signs_takeVariable 25 = .ok (.iadd, 1) := by decide +kernel
theorem d_Signs_takeVariable_26 : decode b_Signs_takeVariable 26 = .ok (.invokevirtual 42, 3) := by decide +kernel
theorem d_Signs_takeVariable_29 : decode b_Signs_takeVariable 29 = .ok (.invokestatic 95, 3) := by decide +kernel
theorem d_Signs_takeVariable_32 : decode b_Signs_takeVariable 32 = .ok (.ifCond .ne 7, 3) := by decide +kernel
theorem d_Signs_takeVariable_35 : decode b_Signs_takeVariable 35 = .ok (.iconst 1, 1) := by decide +kernel
theorem d_Signs_takeVariable_36 : decode b_Signs_takeVariable 36 = .ok (.goto 4, 3) := by decide +kernel
theorem d_Signs_takeVariable_39 : decode b_Signs_takeVariable 39 = .ok (.iconst 0, 1) := by decide +kernel
theorem d_Signs_takeVariable_40 : decode b_Signs_takeVariable 40 = .ok (.istore_n 1, 1) := by decide +kernel
theorem d_Signs_takeVariable_41 : decode b_Signs_takeVariable 41 = .ok (.aload_n 0, 1) := by decide +kernel
theorem d_Signs_takeVariable_42 : decode b_Signs_takeVariable 42 = .ok (.aload_n 0, 1) := by decide +kernel
theorem d_Signs_takeVariable_43 : decode b_Signs_takeVariable 43 = .ok (.invokevirtual 67, 3) := by decide +kernel
theorem d_Signs_takeVariable_46 : decode b_Signs_takeVariable 46 = .ok (.invokevirtual 70, 3) := by decide +kernel
theorem d_Signs_takeVariable_49 : decode b_Signs_takeVariable 49 = .ok (.aload_n 0, 1) := by decide +kernel
theorem d_Signs_takeVariable_50 : decode b_Signs_takeVariable 50 = .ok (.iconst 1, 1) := by decide +kernel
theorem d_Signs_takeVariable_51 : decode b_Signs_takeVariable 51 = .ok (.putfield 9, 3) := by decide +kernel
theorem d_Signs_takeVariable_54 : decode b_Signs_takeVariable 54 = .ok (.iload_n 1, 1) := by decide +kernel
theorem d_Signs_takeVariable_55 : decode b_Signs_takeVariable 55 = .ok (.ifCond .eq 8, 3) := by decide +kernel
theorem d_Signs_takeVariable_58 : decode b_Signs_takeVariable 58 = .ok (.aload_n 0, 1) := by decide +kernel
theorem d_Signs_takeVariable_59 : decode b_Signs_takeVariable 59 = .ok (.iconst (-1), 1) := by decide +kernel
theorem d_Signs_takeVariable_60 : decode b_Signs_takeVariable 60 = .ok (.putfield 23, 3) := by decide +kernel
theorem d_Signs_takeVariable_63 : decode b_Signs_takeVariable 63 = .ok (.return_, 1) := by decide +kernel
def p_Signs_takeVariable (n : Nat) (a_kind : Int32) (a_place : Int32) (a_behind : Int32) (a_passed : Int32) (a_name : Int32) (a_number : Int64) (a_tape_size : Int32) (a_tape_items_n : Nat) (a_tape_items_f : Nat → Int32) (a_names_textsSize : Int32) (a_names_sizeBefore : Int32) (a_names_texts_n : Nat) (a_names_texts_f : Nat → Int32) (a_names_ends_size : Int32) (a_names_ends_items_n : Nat) (a_names_ends_items_f : Nat → Int32) (a_names_older_size : Int32) (a_names_older_items_n : Nat) (a_names_older_items_f : Nat → Int32) (a_names_newest_n : Nat) (a_names_newest_f : Nat → Int32) : Option ((Int32 × Int32 × Int32 × Int32 × Nat × (Nat → Int32) × Int32 × Nat × (Nat → Int32) × Int32 × Nat × (Nat → Int32) × (Nat → Int32)) × Nat × Nat) := (p_Bytes_at a_place a_tape_size a_tape_items_n a_tape_items_f).bind (fun r1 => if r1 = 95 then ((p_Bytes_at (a_place + 1) a_tape_size a_tape_items_n a_tape_items_f).bind (fun r6 => (p_Letters_isOfWord r6).bind (fun r7 => if r7 = 0 then ((p_Signs_wordEnd n a_kind a_place a_behind a_passed a_name a_number a_tape_size a_tape_items_n a_tape_items_f).bind (fun r12 => (p_Signs_takeName n r12 a_kind a_place a_behind a_passed a_name a_number a_tape_size a_tape_items_n a_tape_items_f a_names_textsSize a_names_sizeBefore a_names_texts_n a_names_texts_f a_names_ends_size a_names_ends_items_n a_names_ends_items_f a_names_older_size a_names_older_items_n a_names_older_items_f a_names_newest_n a_names_newest_f).bind (fun ((a_kind_13, a_behind_13, a_name_13, a_names_textsSize_13, a_names_texts_n_13, a_names_texts_f_13, a_names_ends_size_13, a_names_ends_items_n_13, a_names_ends_items_f_13, a_names_older_size_13, a_names_older_items_n_13, a_names_older_items_f_13, a_names_newest_f_13), mk13, sk13) => al mk13 sk13 (some (((1 : Int32), a_behind_13, ((-1) : Int32), a_names_textsSize_13, a_names_texts_n_13, a_names_texts_f_13, a_names_ends_size_13, a_names_ends_items_n_13, a_names_ends_items_f_13, a_names_older_size_13, a_names_older_items_n_13, a_names_older_items_f_13, a_names_newest_f_13), 0, 0))))) else ((p_Signs_wordEnd n a_kind a_place a_behind a_passed a_name a_number a_tape_size a_tape_items_n a_tape_items_f).bind (fun r9 => (p_Signs_takeName n r9 a_kind a_place a_behind a_passed a_name a_number a_tape_size a_tape_items_n a_tape_items_f a_names_textsSize a_names_sizeBefore a_names_texts_n a_names_texts_f a_names_ends_size a_names_ends_items_n a_names_ends_items_f a_names_older_size a_names_older_items_n a_names_older_items_f a_names_newest_n a_names_newest_f).bind (fun ((a_kind_10, a_behind_10, a_name_10, a_names_textsSize_10, a_names_texts_n_10, a_names_texts_f_10, a_names_ends_size_10, a_names_ends_items_n_10, a_names_ends_items_f_10, a_names_older_size_10, a_names_older_items_n_10, a_names_older_items_f_10, a_names_newest_f_10), mk10, sk10) => al mk10 sk10 (some (((1 : Int32), a_behind_10, a_name_10, a_names_textsSize_10, a_names_texts_n_10, a_names_texts_f_10, a_names_ends_size_10, a_names_ends_items_n_10, a_names_ends_items_f_10, a_names_older_size_10, a_names_older_items_n_10, a_names_older_items_f_10, a_names_newest_f_10), 0, 0)))))))) else ((p_Signs_wordEnd n a_kind a_place a_behind a_passed a_name a_number a_tape_size a_tape_items_n a_tape_items_f).bind (fun r3 => (p_Signs_takeName n r3 a_kind a_place a_behind a_passed a_name a_number a_tape_size a_tape_items_n a_tape_items_f a_names_textsSize a_names_sizeBefore a_names_texts_n a_names_texts_f a_names_ends_size a_names_ends_items_n a_names_ends_items_f a_names_older_size a_names_older_items_n a_names_older_items_f a_names_newest_n a_names_newest_f).bind (fun ((a_kind_4, a_behind_4, a_name_4, a_names_textsSize_4, a_names_texts_n_4, a_names_texts_f_4, a_names_ends_size_4, a_names_ends_items_n_4, a_names_ends_items_f_4, a_names_older_size_4, a_names_older_items_n_4, a_names_older_items_f_4, a_names_newest_f_4), mk4, sk4) => al mk4 sk4 (some (((1 : Int32), a_behind_4, a_name_4, a_names_textsSize_4, a_names_texts_n_4, a_names_texts_f_4, a_names_ends_size_4, a_names_ends_items_n_4, a_names_ends_items_f_4, a_names_older_size_4, a_names_older_items_n_4, a_names_older_items_f_4, a_names_newest_f_4), 0, 0))))))
set_option maxHeartbeats 4000000 in
set_option maxRecDepth 100000 in
theorem c_Signs_takeVariable (l : Launch) (g : va_G) (cs : Nat → ClassId) (ka : Nat → Nat) (a a_tape a_tape_items a_names a_names_texts a_names_ends a_names_ends_items a_names_older a_names_older_items a_names_newest : Nat) (sz : Nat) (n : Nat) (a_kind : Int32) (a_place : Int32) (a_behind : Int32) (a_passed : Int32) (a_name : Int32) (a_number : Int64) (a_tape_size : Int32) (a_tape_items_n : Nat) (a_tape_items_f : Nat → Int32) (a_names_textsSize : Int32) (a_names_sizeBefore : Int32) (a_names_texts_n : Nat) (a_names_texts_f : Nat → Int32) (a_names_ends_size : Int32) (a_names_ends_items_n : Nat) (a_names_ends_items_f : Nat → Int32) (a_names_older_size : Int32) (a_names_older_items_n : Nat) (a_names_older_items_f : Nat → Int32) (a_names_newest_n : Nat) (a_names_newest_f : Nat → Int32) (o_a_kind : Int32) (o_a_behind : Int32) (o_a_name : Int32) (o_a_names_textsSize : Int32) (o_a_names_texts_n : Nat) (o_a_names_texts_f : Nat → Int32) (o_a_names_ends_size : Int32) (o_a_names_ends_items_n : Nat) (o_a_names_ends_items_f : Nat → Int32) (o_a_names_older_size : Int32) (o_a_names_older_items_n : Nat) (o_a_names_older_items_f : Nat → Int32) (o_a_names_newest_f : Nat → Int32) (mc ms : Nat) (hok : p_Signs_takeVariable n a_kind a_place a_behind a_passed a_name a_number a_tape_size a_tape_items_n a_tape_items_f a_names_textsSize a_names_sizeBefore a_names_texts_n a_names_texts_f a_names_ends_size a_names_ends_items_n a_names_ends_items_f a_names_older_size a_names_older_items_n a_names_older_items_f a_names_newest_n a_names_newest_f = some ((o_a_kind, o_a_behind, o_a_name, o_a_names_textsSize, o_a_names_texts_n, o_a_names_texts_f, o_a_names_ends_size, o_a_names_ends_items_n, o_a_names_ends_items_f, o_a_names_older_size, o_a_names_older_items_n, o_a_names_older_items_f, o_a_names_newest_f), mc, ms)) : Met l y_Signs_takeVariable (.code y_Signs_takeVariable b_Signs_takeVariable 2 none :: GW) { frames := 5, cells := mc, slots := ms, locals := 189 } (va_Pc [.ref a] (gP g cs ka [(a, .inr (6, [.ref a_tape, .ref a_names, .int a_kind, .int a_place, .int a_behind, .int a_passed, .int a_name, .long a_number])), (a_tape, .inr (0, [.ref a_tape_items, .int a_tape_size])), (a_tape_items, .inl (cs 1, a_tape_items_n, .inl a_tape_items_f)), (a_names, .inr (2, [.ref a_names_texts, .int a_names_textsSize, .ref a_names_ends, .ref a_names_older, .ref a_names_newest, .int a_names_sizeBefore])), (a_names_texts, .inl (cs 1, a_names_texts_n, .inl a_names_texts_f)), (a_names_ends, .inr (1, [.ref a_names_ends_items, .int a_names_ends_size])), (a_names_ends_items, .inl (cs 0, a_names_ends_items_n, .inl a_names_ends_items_f)), (a_names_older, .inr (1, [.ref a_names_older_items, .int a_names_older_size])), (a_names_older_items, .inl (cs 0, a_names_older_items_n, .inl a_names_older_items_f)), (a_names_newest, .inl (cs 0, a_names_newest_n, .inl a_names_newest_f))] sz)) (va_Qv (fun _ : Unit => True) (fun _ t => ∃ b_a_names_texts b_a_names_ends_items b_a_names_older_items : Nat, va_P g classes [(a, .inr (6, [.ref a_tape, .ref a_names, .int o_a_kind, .int a_place, .int o_a_behind, .int a_passed, .int o_a_name, .long a_number])), (a_tape, .inr (0, [.ref a_tape_items, .int a_tape_size])), (a_tape_items, .inl (cs 1, a_tape_items_n, .inl a_tape_items_f)), (a_names, .inr (2, [.ref b_a_names_texts, .int o_a_names_textsSize, .ref a_names_ends, .ref a_names_older, .ref a_names_newest, .int a_names_sizeBefore])), (b_a_names_texts, .inl (cs 1, o_a_names_texts_n, .inl o_a_names_texts_f)), (a_names_ends, .inr (1, [.ref b_a_names_ends_items, .int o_a_names_ends_size])), (b_a_names_ends_items, .inl (cs 0, o_a_names_ends_items_n, .inl o_a_names_ends_items_f)), (a_names_older, .inr (1, [.ref b_a_names_older_items, .int o_a_names_older_size])), (b_a_names_older_items, .inl (cs 0, o_a_names_older_items_n, .inl o_a_names_older_items_f)), (a_names_newest, .inl (cs 0, a_names_newest_n, .inl o_a_names_newest_f))] t.heap ∧ va_D (va_A [(a, .inr (6, [.ref a_tape, .ref a_names, .int a_kind, .int a_place, .int a_behind, .int a_passed, .int a_name, .long a_number])), (a_tape, .inr (0, [.ref a_tape_items, .int a_tape_size])), (a_tape_items, .inl (cs 1, a_tape_items_n, .inl a_tape_items_f)), (a_names, .inr (2, [.ref a_names_texts, .int a_names_textsSize, .ref a_names_ends, .ref a_names_older, .ref a_names_newest, .int a_names_sizeBefore])), (a_names_texts, .inl (cs 1, a_names_texts_n, .inl a_names_texts_f)), (a_names_ends, .inr (1, [.ref a_names_ends_items, .int a_names_ends_size])), (a_names_ends_items, .inl (cs 0, a_names_ends_items_n, .inl a_names_ends_items_f)), (a_names_older, .inr (1, [.ref a_names_older_items, .int a_names_older_size])), (a_names_older_items, .inl (cs 0, a_names_older_items_n, .inl a_names_older_items_f)), (a_names_newest, .inl (cs 0, a_names_newest_n, .inl a_names_newest_f))] sz) [(a, .inr (6, [.ref a_tape, .ref a_names, .int o_a_kind, .int a_place, .int o_a_behind, .int a_passed, .int o_a_name, .long a_number])), (a_tape, .inr (0, [.ref a_tape_items, .int a_tape_size])), (a_tape_items, .inl (cs 1, a_tape_items_n, .inl a_tape_items_f)), (a_names, .inr (2, [.ref b_a_names_texts, .int o_a_names_textsSize, .ref a_names_ends, .ref a_names_older, .ref a_names_newest, .int a_names_sizeBefore])), (b_a_names_texts, .inl (cs 1, o_a_names_texts_n, .inl o_a_names_texts_f)), (a_names_ends, .inr (1, [.ref b_a_names_ends_items, .int o_a_names_ends_size])), (b_a_names_ends_items, .inl (cs 0, o_a_names_ends_items_n, .inl o_a_names_ends_items_f)), (a_names_older, .inr (1, [.ref b_a_names_older_items, .int o_a_names_older_size])), (b_a_names_older_items, .inl (cs 0, o_a_names_older_items_n, .inl o_a_names_older_items_f)), (a_names_newest, .inl (cs 0, a_names_newest_n, .inl o_a_names_newest_f))]) (va_A [(a, .inr (6, [.ref a_tape, .ref a_names, .int a_kind, .int a_place, .int a_behind, .int a_passed, .int a_name, .long a_number])), (a_tape, .inr (0, [.ref a_tape_items, .int a_tape_size])), (a_tape_items, .inl (cs 1, a_tape_items_n, .inl a_tape_items_f)), (a_names, .inr (2, [.ref a_names_texts, .int a_names_textsSize, .ref a_names_ends, .ref a_names_older, .ref a_names_newest, .int a_names_sizeBefore])), (a_names_texts, .inl (cs 1, a_names_texts_n, .inl a_names_texts_f)), (a_names_ends, .inr (1, [.ref a_names_ends_items, .int a_names_ends_size])), (a_names_ends_items, .inl (cs 0, a_names_ends_items_n, .inl a_names_ends_items_f)), (a_names_older, .inr (1, [.ref a_names_older_items, .int a_names_older_size])), (a_names_older_items, .inl (cs 0, a_names_older_items_n, .inl a_names_older_items_f)), (a_names_newest, .inl (cs 0, a_names_newest_n, .inl a_names_newest_f))] sz)) mc ms (va_A [(a, .inr (6, [.ref a_tape, .ref a_names, .int a_kind, .int a_place, .int a_behind, .int a_passed, .int a_name, .long a_number])), (a_tape, .inr (0, [.ref a_tape_items, .int a_tape_size])), (a_tape_items, .inl (cs 1, a_tape_items_n, .inl a_tape_items_f)), (a_names, .inr (2, [.ref a_names_texts, .int a_names_textsSize, .ref a_names_ends, .ref a_names_older, .ref a_names_newest, .int a_names_sizeBefore])), (a_names_texts, .inl (cs 1, a_names_texts_n, .inl a_names_texts_f)), (a_names_ends, .inr (1, [.ref a_names_ends_items, .int a_names_ends_size])), (a_names_ends_items, .inl (cs 0, a_names_ends_items_n, .inl a_names_ends_items_f)), (a_names_older, .inr (1, [.ref a_names_older_items, .int a_names_older_size])), (a_names_older_items, .inl (cs 0, a_names_older_items_n, .inl a_names_older_items_f)), (a_names_newest, .inl (cs 0, a_names_newest_n, .inl a_names_newest_f))] sz) := by
  refine Met.ofW (cc := b_Signs_takeVariable) (maxL := 2) (ret := none) (by decide) rfl ?_
  intro p e s m args below meth c s₁ B hml hv
  obtain ⟨rfl, hsz, hP, hK, hD0, hgl, hkn, hkr⟩ := hv
  have hx := B.exec
  have hb := B.bytes
  have hr := B.returns
  have hg : ∀ w ∈ GW, w.before ([.ref a] : List Value).toArray s = true := fun w hw => atoms_spec (ws := .code y_Signs_takeVariable b_Signs_takeVariable 2 none :: GW) B.pre w (List.mem_cons_of_mem _ hw)
  have hown : s.vm.findClass R_Signs = some m.cls := findClass_of_methodNamed B.named
  have hlocks := B.notSynchronized
  subst hsz
  have hD := hD0.self (sz := s.heap.size)
  generalize hAe : va_A [(a, .inr (6, [.ref a_tape, .ref a_names, .int a_kind, .int a_place, .int a_behind, .int a_passed, .int a_name, .long a_number])), (a_tape, .inr (0, [.ref a_tape_items, .int a_tape_size])), (a_tape_items, .inl (cs 1, a_tape_items_n, .inl a_tape_items_f)), (a_names, .inr (2, [.ref a_names_texts, .int a_names_textsSize, .ref a_names_ends, .ref a_names_older, .ref a_names_newest, .int a_names_sizeBefore])), (a_names_texts, .inl (cs 1, a_names_texts_n, .inl a_names_texts_f)), (a_names_ends, .inr (1, [.ref a_names_ends_items, .int a_names_ends_size])), (a_names_ends_items, .inl (cs 0, a_names_ends_items_n, .inl a_names_ends_items_f)), (a_names_older, .inr (1, [.ref a_names_older_items, .int a_names_older_size])), (a_names_older_items, .inl (cs 0, a_names_older_items_n, .inl a_names_older_items_f)), (a_names_newest, .inl (cs 0, a_names_newest_n, .inl a_names_newest_f))] s.heap.size = A at hD hkn ⊢
  have hA : ∀ q : Nat, s.heap.size ≤ q → A q := fun q h => by rw [← hAe]; exact Or.inr h
  have hS : va_S A s.heap s.heap [] := va_S.rf
  have hP : va_P g classes [(a, .inr (6, [.ref a_tape, .ref a_names, .int a_kind, .int a_place, .int a_behind, .int a_passed, .int a_name, .long a_number])), (a_tape, .inr (0, [.ref a_tape_items, .int a_tape_size])), (a_tape_items, .inl (cs 1, a_tape_items_n, .inl a_tape_items_f)), (a_names, .inr (2, [.ref a_names_texts, .int a_names_textsSize, .ref a_names_ends, .ref a_names_older, .ref a_names_newest, .int a_names_sizeBefore])), (a_names_texts, .inl (cs 1, a_names_texts_n, .inl a_names_texts_f)), (a_names_ends, .inr (1, [.ref a_names_ends_items, .int a_names_ends_size])), (a_names_ends_items, .inl (cs 0, a_names_ends_items_n, .inl a_names_ends_items_f)), (a_names_older, .inr (1, [.ref a_names_older_items, .int a_names_older_size])), (a_names_older_items, .inl (cs 0, a_names_older_items_n, .inl a_names_older_items_f)), (a_names_newest, .inl (cs 0, a_names_newest_n, .inl a_names_newest_f))] s.heap := hP
  have hl := lv_entry ([.ref a]) (n := 2) (Nat.le_of_ble_eq_true rfl)
  rw [lg_entry_eq]
  generalize (lg_sl ([.ref a]) ++ List.replicate (2 - (lg_sl ([.ref a])).length) Slot.unset).toArray = ls at hl ⊢
  have hl : lv_has ls 2 [(0, .ref a)] := hl
  refine gq (fun Q hQ => ?_)
  obtain ⟨H, hH⟩ : ∃ H : Heap, H = s.heap := ⟨_, rfl⟩
  rw [← hH] at hP
  have hS : va_S A s.heap H [] := by rw [hH]; exact hS
  refine W.eqH hH ?_
  obtain ⟨locs, hlc⟩ : ∃ L : List Loc, L = [] := ⟨_, rfl⟩
  rw [← hlc] at hS ⊢
  unfold p_Signs_takeVariable at hok
  refine lv_aload_n hx hb d_Signs_takeVariable_0 rfl (lv_at hl 0 rfl) ?_
  refine va_get (D := g) (ci := 6) (v := .ref a_tape) (C := R_Signs) (T := F_Signs) (N := 8) hx hb hg ul_Signs hown hK hP 0 rfl rfl 0 (by decide) (hg _ wd_447) (fun _ h9 => h9) rfl d_Signs_takeVariable_1 ?_
  refine lv_aload_n hx hb d_Signs_takeVariable_4 rfl (lv_at hl 0 rfl) ?_
  refine va_get (D := g) (ci := 6) (v := .int a_place) (C := R_Signs) (T := F_Signs) (N := 8) hx hb hg ul_Signs hown hK hP 0 rfl rfl 3 (by decide) (hg _ wd_442) (fun _ h9 => h9) rfl d_Signs_takeVariable_5 ?_
  obtain ⟨r1, hc1, hok⟩ := bd_some hok
  obtain ⟨hPc, hDc, hFc⟩ := cut0 (wc := [(a_tape, .inr (0, [.ref a_tape_items, .int a_tape_size])), (a_tape_items, .inl (cs 1, a_tape_items_n, .inl a_tape_items_f))]) hP hD hS hA [1, 2] (by decide) rfl
  refine va_calli (va_runV (As := [.int a_place]) (rest := []) ⟨hx, hb, hml, hown, hg⟩ (c_Bytes_at l g cs ka a_tape a_tape_items H.size a_place a_tape_size a_tape_items_n a_tape_items_f r1 hc1) (cwV (C := R_Bytes) 1 hg (gw_V wd_455 wd_456 wd_457 wd_450 wd_454) rfl rfl rfl (by decide +kernel) ⟨Nat.le_of_ble_eq_true rfl, Nat.le_of_ble_eq_true rfl⟩) ⟨gP_blind, va_recv (q0 := 1) (ci := 0) (q := (R_Bytes, F_Bytes, 2)) hK hP rfl rfl, gP_pre hPc hDc hK hgl hkn hkr hS hFc⟩ rfl rfl hl.1 rfl (lv_room (Nat.le_of_ble_eq_true rfl)) d_Signs_takeVariable_8 ⟨show 0 + 0 ≤ mc from by omega, show 0 + 0 ≤ ms from by omega⟩) hS (fun q _ h => hFc q h) hFc (fun r1' u t H locs ht hvm hr1 hB hz1 hk1 hS => ?_)
  subst hr1
  rw [ht] at hB
  obtain ⟨hP1, hD1⟩ := hB
  obtain ⟨hP, hD⟩ := jn_A hP hD [1, 2] [0, 3, 4, 5, 6, 7, 8, 9] rfl rfl (by decide) (by decide) hk1 hFc hP1 hD1
  obtain ⟨hP, hD⟩ : PD g A H [(a, .inr (6, [.ref a_tape, .ref a_names, .int a_kind, .int a_place, .int a_behind, .int a_passed, .int a_name, .long a_number])), (a_names, .inr (2, [.ref a_names_texts, .int a_names_textsSize, .ref a_names_ends, .ref a_names_older, .ref a_names_newest, .int a_names_sizeBefore])), (a_names_texts, .inl (cs 1, a_names_texts_n, .inl a_names_texts_f)), (a_names_ends, .inr (1, [.ref a_names_ends_items, .int a_names_ends_size])), (a_names_ends_items, .inl (cs 0, a_names_ends_items_n, .inl a_names_ends_items_f)), (a_names_older, .inr (1, [.ref a_names_older_items, .int a_names_older_size])), (a_names_older_items, .inl (cs 0, a_names_older_items_n, .inl a_names_older_items_f)), (a_names_newest, .inl (cs 0, a_names_newest_n, .inl a_names_newest_f)), (a_tape, .inr (0, [.ref a_tape_items, .int a_tape_size])), (a_tape_items, .inl (cs 1, a_tape_items_n, .inl a_tape_items_f))] := ⟨hP, hD⟩
  refine lv_bipush (v := 95) hx hb d_Signs_takeVariable_11 (by decide) ?_
  refine lv_icmp_ne hx hb d_Signs_takeVariable_13 rfl (fun h2 => ?_) (fun h2 => ?_)
  · rw [if_neg h2] at hok
    refine lv_iconst (v := 0) hx hb d_Signs_takeVariable_39 (by decide) ?_
    refine lv_istore_n hx hb d_Signs_takeVariable_40 rfl hl (by decide) rfl (fun ls hl => ?_)
    have hl : lv_has ls 2 [(1, .int 0), (0, .ref a)] := hl
    refine lv_aload_n hx hb d_Signs_takeVariable_41 rfl (lv_at hl 1 rfl) ?_
    refine lv_aload_n hx hb d_Signs_takeVariable_42 rfl (lv_at hl 1 rfl) ?_
    obtain ⟨r3, hc3, hok⟩ := bd_some hok
    obtain ⟨hPc, hDc, hFc⟩ := cut0 (wc := [(a, .inr (6, [.ref a_tape, .ref a_names, .int a_kind, .int a_place, .int a_behind, .int a_passed, .int a_name, .long a_number])), (a_tape, .inr (0, [.ref a_tape_items, .int a_tape_size])), (a_tape_items, .inl (cs 1, a_tape_items_n, .inl a_tape_items_f))]) hP hD hS hA [0, 8, 9] (by decide) rfl
    refine va_calli (va_runV (As := []) (rest := [.ref a]) ⟨hx, hb, hml, hown, hg⟩ (c_Signs_wordEnd l g cs ka a_names a a_tape a_tape_items H.size n a_kind a_place a_behind a_passed a_name a_number a_tape_size a_tape_items_n a_tape_items_f r3 hc3) (cwV (C := R_Signs) 0 hg (gw_V wd_473 wd_474 wd_475 wd_467 wd_472) rfl rfl rfl (by decide +kernel) ⟨Nat.le_of_ble_eq_true rfl, Nat.le_of_ble_eq_true rfl⟩) ⟨gP_blind, va_recv (q0 := 0) (ci := 6) (q := (R_Signs, F_Signs, 8)) hK hP rfl rfl, gP_pre hPc hDc hK hgl hkn hkr hS hFc⟩ rfl rfl hl.1 rfl (lv_room (Nat.le_of_ble_eq_true rfl)) d_Signs_takeVariable_43 ⟨show 0 + 0 + 0 ≤ mc from by omega, show 0 + 0 + 0 ≤ ms from by omega⟩) hS (fun q _ h => hFc q h) hFc (fun r3' u t H locs ht hvm hr3 hB hz1 hk1 hS => ?_)
    subst hr3
    rw [ht] at hB
    obtain ⟨hP1, hD1⟩ := hB
    obtain ⟨hP, hD⟩ := jn_A hP hD [0, 8, 9] [1, 2, 3, 4, 5, 6, 7] rfl rfl (by decide) (by decide) hk1 hFc hP1 hD1
    obtain ⟨hP, hD⟩ : PD g A H [(a_names, .inr (2, [.ref a_names_texts, .int a_names_textsSize, .ref a_names_ends, .ref a_names_older, .ref a_names_newest, .int a_names_sizeBefore])), (a_names_texts, .inl (cs 1, a_names_texts_n, .inl a_names_texts_f)), (a_names_ends, .inr (1, [.ref a_names_ends_items, .int a_names_ends_size])), (a_names_ends_items, .inl (cs 0, a_names_ends_items_n, .inl a_names_ends_items_f)), (a_names_older, .inr (1, [.ref a_names_older_items, .int a_names_older_size])), (a_names_older_items, .inl (cs 0, a_names_older_items_n, .inl a_names_older_items_f)), (a_names_newest, .inl (cs 0, a_names_newest_n, .inl a_names_newest_f)), (a, .inr (6, [.ref a_tape, .ref a_names, .int a_kind, .int a_place, .int a_behind, .int a_passed, .int a_name, .long a_number])), (a_tape, .inr (0, [.ref a_tape_items, .int a_tape_size])), (a_tape_items, .inl (cs 1, a_tape_items_n, .inl a_tape_items_f))] := ⟨hP, hD⟩
    obtain ⟨⟨⟨a_kind_4, a_behind_4, a_name_4, a_names_textsSize_4, a_names_texts_n_4, a_names_texts_f_4, a_names_ends_size_4, a_names_ends_items_n_4, a_names_ends_items_f_4, a_names_older_size_4, a_names_older_items_n_4, a_names_older_items_f_4, a_names_newest_f_4⟩, mk4, sk4⟩, hc4, hok⟩ := bd_some hok
    dsimp only at hok
    obtain ⟨m4, s4, hok, hmc4, hms4⟩ := al_some hok
    obtain ⟨hPc, hDc, hFc⟩ := cut0 (wc := [(a, .inr (6, [.ref a_tape, .ref a_names, .int a_kind, .int a_place, .int a_behind, .int a_passed, .int a_name, .long a_number])), (a_tape, .inr (0, [.ref a_tape_items, .int a_tape_size])), (a_tape_items, .inl (cs 1, a_tape_items_n, .inl a_tape_items_f)), (a_names, .inr (2, [.ref a_names_texts, .int a_names_textsSize, .ref a_names_ends, .ref a_names_older, .ref a_names_newest, .int a_names_sizeBefore])), (a_names_texts, .inl (cs 1, a_names_texts_n, .inl a_names_texts_f)), (a_names_ends, .inr (1, [.ref a_names_ends_items, .int a_names_ends_size])), (a_names_ends_items, .inl (cs 0, a_names_ends_items_n, .inl a_names_ends_items_f)), (a_names_older, .inr (1, [.ref a_names_older_items, .int a_names_older_size])), (a_names_older_items, .inl (cs 0, a_names_older_items_n, .inl a_names_older_items_f)), (a_names_newest, .inl (cs 0, a_names_newest_n, .inl a_names_newest_f))]) hP hD hS hA [7, 8, 9, 0, 1, 2, 3, 4, 5, 6] (by decide) rfl
    refine va_callv (va_runV (As := [.int r3]) (rest := []) ⟨hx, hb, hml, hown, hg⟩ (c_Signs_takeName l g cs ka a a_tape a_tape_items a_names a_names_texts a_names_ends a_names_ends_items a_names_older a_names_older_items a_names_newest H.size n r3 a_kind a_place a_behind a_passed a_name a_number a_tape_size a_tape_items_n a_tape_items_f a_names_textsSize a_names_sizeBefore a_names_texts_n a_names_texts_f a_names_ends_size a_names_ends_items_n a_names_ends_items_f a_names_older_size a_names_older_items_n a_names_older_items_f a_names_newest_n a_names_newest_f a_kind_4 a_behind_4 a_name_4 a_names_textsSize_4 a_names_texts_n_4 a_names_texts_f_4 a_names_ends_size_4 a_names_ends_items_n_4 a_names_ends_items_f_4 a_names_older_size_4 a_names_older_items_n_4 a_names_older_items_f_4 a_names_newest_f_4 mk4 sk4 hc4) (cwV (C := R_Signs) 1 hg (gw_V wd_477 wd_478 wd_479 wd_467 wd_476) rfl rfl rfl (by decide +kernel) ⟨Nat.le_of_ble_eq_true rfl, Nat.le_of_ble_eq_true rfl⟩) ⟨gP_blind, va_recv (q0 := 7) (ci := 6) (q := (R_Signs, F_Signs, 8)) hK hP rfl rfl, gP_pre hPc hDc hK hgl hkn hkr hS hFc⟩ rfl rfl hl.1 rfl (lv_room (Nat.le_of_ble_eq_true rfl)) d_Signs_takeVariable_46 ⟨show 0 + 0 + 0 + mk4 ≤ mc from by omega, show 0 + 0 + 0 + sk4 ≤ ms from by omega⟩) hS (fun q _ h => hFc q h) hFc (fun u t H locs ht hvm hr4 hB hz1 hk1 hS => ?_)
    rw [ht] at hB
    obtain ⟨a_names_texts_4, a_names_ends_items_4, a_names_older_items_4, hP1, hD1⟩ := hB
    obtain ⟨hP, hD⟩ := jn_A hP hD [7, 8, 9, 0, 1, 2, 3, 4, 5, 6] [] rfl rfl (by decide) (by decide) hk1 hFc hP1 hD1
    obtain ⟨hP, hD⟩ : PD g A H [(a, .inr (6, [.ref a_tape, .ref a_names, .int a_kind_4, .int a_place, .int a_behind_4, .int a_passed, .int a_name_4, .long a_number])), (a_tape, .inr (0, [.ref a_tape_items, .int a_tape_size])), (a_tape_items, .inl (cs 1, a_tape_items_n, .inl a_tape_items_f)), (a_names, .inr (2, [.ref a_names_texts_4, .int a_names_textsSize_4, .ref a_names_ends, .ref a_names_older, .ref a_names_newest, .int a_names_sizeBefore])), (a_names_texts_4, .inl (cs 1, a_names_texts_n_4, .inl a_names_texts_f_4)), (a_names_ends, .inr (1, [.ref a_names_ends_items_4, .int a_names_ends_size_4])), (a_names_ends_items_4, .inl (cs 0, a_names_ends_items_n_4, .inl a_names_ends_items_f_4)), (a_names_older, .inr (1, [.ref a_names_older_items_4, .int a_names_older_size_4])), (a_names_older_items_4, .inl (cs 0, a_names_older_items_n_4, .inl a_names_older_items_f_4)), (a_names_newest, .inl (cs 0, a_names_newest_n, .inl a_names_newest_f_4))] := ⟨hP, hD⟩
    refine lv_aload_n hx hb d_Signs_takeVariable_49 rfl (lv_at hl 1 rfl) ?_
    refine lv_iconst (v := 1) hx hb d_Signs_takeVariable_50 (by decide) ?_
    refine va_put (D := g) (ci := 6) (v := .int 1) (ty := .int) (C := R_Signs) (T := F_Signs) (N := 8) hx hb hg ul_Signs t_Signs tk_Signs n_Signs hown hK hP hD hS 0 rfl rfl 2 (by decide) (hg _ wd_441) (fun _ h9 => h9) rfl (by decide +kernel) rfl rfl (Nat.le_of_ble_eq_true rfl) d_Signs_takeVariable_51 (fun H locs hP hD hS => ?_)
    obtain ⟨hP, hD⟩ : PD g A H [(a, .inr (6, [.ref a_tape, .ref a_names, .int 1, .int a_place, .int a_behind_4, .int a_passed, .int a_name_4, .long a_number])), (a_tape, .inr (0, [.ref a_tape_items, .int a_tape_size])), (a_tape_items, .inl (cs 1, a_tape_items_n, .inl a_tape_items_f)), (a_names, .inr (2, [.ref a_names_texts_4, .int a_names_textsSize_4, .ref a_names_ends, .ref a_names_older, .ref a_names_newest, .int a_names_sizeBefore])), (a_names_texts_4, .inl (cs 1, a_names_texts_n_4, .inl a_names_texts_f_4)), (a_names_ends, .inr (1, [.ref a_names_ends_items_4, .int a_names_ends_size_4])), (a_names_ends_items_4, .inl (cs 0, a_names_ends_items_n_4, .inl a_names_ends_items_f_4)), (a_names_older, .inr (1, [.ref a_names_older_items_4, .int a_names_older_size_4])), (a_names_older_items_4, .inl (cs 0, a_names_older_items_n_4, .inl a_names_older_items_f_4)), (a_names_newest, .inl (cs 0, a_names_newest_n, .inl a_names_newest_f_4))] := ⟨hP, hD⟩
    refine lv_iload_n hx hb d_Signs_takeVariable_54 rfl (lv_at hl 0 rfl) ?_
    refine lv_if_eq hx hb d_Signs_takeVariable_55 rfl (fun h5 => ?_) (fun h5 => ?_)
    · obtain ⟨hq, hw⟩ := Prod.mk.inj (Option.some.inj hok)
      obtain ⟨hmc0, hms0⟩ := Prod.mk.inj hw
      obtain ⟨hq0, hq⟩ := Prod.mk.inj hq
      obtain ⟨hq1, hq⟩ := Prod.mk.inj hq
      obtain ⟨hq2, hq⟩ := Prod.mk.inj hq
      obtain ⟨hq3, hq⟩ := Prod.mk.inj hq
      obtain ⟨hq4, hq⟩ := Prod.mk.inj hq
      obtain ⟨hq5, hq⟩ := Prod.mk.inj hq
      obtain ⟨hq6, hq⟩ := Prod.mk.inj hq
      obtain ⟨hq7, hq⟩ := Prod.mk.inj hq
      obtain ⟨hq8, hq⟩ := Prod.mk.inj hq
      obtain ⟨hq9, hq⟩ := Prod.mk.inj hq
      obtain ⟨hq10, hq⟩ := Prod.mk.inj hq
      obtain ⟨hq11, hq⟩ := Prod.mk.inj hq
      have hq12 := hq
      subst hq0
      subst hq1
      subst hq2
      subst hq3
      subst hq4
      subst hq5
      subst hq6
      subst hq7
      subst hq8
      subst hq9
      subst hq10
      subst hq11
      subst hq12
      obtain ⟨hP9, hD9⟩ := sub2 (ws' := [(a, .inr (6, [.ref a_tape, .ref a_names, .int 1, .int a_place, .int a_behind_4, .int a_passed, .int a_name_4, .long a_number])), (a_tape, .inr (0, [.ref a_tape_items, .int a_tape_size])), (a_tape_items, .inl (cs 1, a_tape_items_n, .inl a_tape_items_f)), (a_names, .inr (2, [.ref a_names_texts_4, .int a_names_textsSize_4, .ref a_names_ends, .ref a_names_older, .ref a_names_newest, .int a_names_sizeBefore])), (a_names_texts_4, .inl (cs 1, a_names_texts_n_4, .inl a_names_texts_f_4)), (a_names_ends, .inr (1, [.ref a_names_ends_items_4, .int a_names_ends_size_4])), (a_names_ends_items_4, .inl (cs 0, a_names_ends_items_n_4, .inl a_names_ends_items_f_4)), (a_names_older, .inr (1, [.ref a_names_older_items_4, .int a_names_older_size_4])), (a_names_older_items_4, .inl (cs 0, a_names_older_items_n_4, .inl a_names_older_items_f_4)), (a_names_newest, .inl (cs 0, a_names_newest_n, .inl a_names_newest_f_4))]) hP hD [0, 1, 2, 3, 4, 5, 6, 7, 8, 9] rfl (by decide) rfl
      refine W.widen (k := mc) (n := ms) (by omega) (by omega) ?_
      rw [hQ]
      exact W.vret hx hb hr (fun t ht hW => ⟨⟨(), rfl, trivial, a_names_texts_4, a_names_ends_items_4, a_names_older_items_4, by rw [ht]; exact hP9, hD9⟩, hS.F ht⟩) hS.2.2 d_Signs_takeVariable_63
    · exact absurd h5 (by decide)
  · rw [if_pos h2] at hok
    refine lv_aload_n hx hb d_Signs_takeVariable_16 rfl (lv_at hl 0 rfl) ?_
    refine va_get (D := g) (ci := 6) (v := .ref a_tape) (C := R_Signs) (T := F_Signs) (N := 8) hx hb hg ul_Signs hown hK hP 0 rfl rfl 0 (by decide) (hg _ wd_447) (fun _ h9 => h9) rfl d_Signs_takeVariable_17 ?_
    refine lv_aload_n hx hb d_Signs_takeVariable_20 rfl (lv_at hl 0 rfl) ?_
    refine va_get (D := g) (ci := 6) (v := .int a_place) (C := R_Signs) (T := F_Signs) (N := 8) hx hb hg ul_Signs hown hK hP 0 rfl rfl 3 (by decide) (hg _ wd_442) (fun _ h9 => h9) rfl d_Signs_takeVariable_21 ?_
    refine lv_iconst (v := 1) hx hb d_Signs_takeVariable_24 (by decide) ?_
    refine lv_iadd hx hb d_Signs_takeVariable_25 ?_
    obtain ⟨r6, hc6, hok⟩ := bd_some hok
    obtain ⟨hPc, hDc, hFc⟩ := cut0 (wc := [(a_tape, .inr (0, [.ref a_tape_items, .int a_tape_size])), (a_tape_items, .inl (cs 1, a_tape_items_n, .inl a_tape_items_f))]) hP hD hS hA [8, 9] (by decide) rfl
    refine va_calli (va_runV (As := [.int (a_place + 1)]) (rest := []) ⟨hx, hb, hml, hown, hg⟩ (c_Bytes_at l g cs ka a_tape a_tape_items H.size (a_place + 1) a_tape_size a_tape_items_n a_tape_items_f r6 hc6) (cwV (C := R_Bytes) 1 hg (gw_V wd_455 wd_456 wd_457 wd_450 wd_454) rfl rfl rfl (by decide +kernel) ⟨Nat.le_of_ble_eq_true rfl, Nat.le_of_ble_eq_true rfl⟩) ⟨gP_blind, va_recv (q0 := 8) (ci := 0) (q := (R_Bytes, F_Bytes, 2)) hK hP rfl rfl, gP_pre hPc hDc hK hgl hkn hkr hS hFc⟩ rfl rfl hl.1 rfl (lv_room (Nat.le_of_ble_eq_true rfl)) d_Signs_takeVariable_26 ⟨show 0 + 0 + 0 ≤ mc from by omega, show 0 + 0 + 0 ≤ ms from by omega⟩) hS (fun q _ h => hFc q h) hFc (fun r6' u t H locs ht hvm hr6 hB hz1 hk1 hS => ?_)
    subst hr6
    rw [ht] at hB
    obtain ⟨hP1, hD1⟩ := hB
    obtain ⟨hP, hD⟩ := jn_A hP hD [8, 9] [0, 1, 2, 3, 4, 5, 6, 7] rfl rfl (by decide) (by decide) hk1 hFc hP1 hD1
    obtain ⟨hP, hD⟩ : PD g A H [(a, .inr (6, [.ref a_tape, .ref a_names, .int a_kind, .int a_place, .int a_behind, .int a_passed, .int a_name, .long a_number])), (a_names, .inr (2, [.ref a_names_texts, .int a_names_textsSize, .ref a_names_ends, .ref a_names_older, .ref a_names_newest, .int a_names_sizeBefore])), (a_names_texts, .inl (cs 1, a_names_texts_n, .inl a_names_texts_f)), (a_names_ends, .inr (1, [.ref a_names_ends_items, .int a_names_ends_size])), (a_names_ends_items, .inl (cs 0, a_names_ends_items_n, .inl a_names_ends_items_f)), (a_names_older, .inr (1, [.ref a_names_older_items, .int a_names_older_size])), (a_names_older_items, .inl (cs 0, a_names_older_items_n, .inl a_names_older_items_f)), (a_names_newest, .inl (cs 0, a_names_newest_n, .inl a_names_newest_f)), (a_tape, .inr (0, [.ref a_tape_items, .int a_tape_size])), (a_tape_items, .inl (cs 1, a_tape_items_n, .inl a_tape_items_f))] := ⟨hP, hD⟩
    obtain ⟨r7, hc7, hok⟩ := bd_some hok
    obtain ⟨hPc, hDc, hFc⟩ := cut0 (wc := []) hP hD hS hA [] (by decide) rfl
    refine va_calli (va_runS (As := [.int r6]) (rest := []) ⟨hx, hb, hml, hown, hg⟩ (c_Letters_isOfWord l g cs ka H.size r6 r7 hc7) (va_cwS 1 hg (gw_S wd_462 wd_463 wd_217 wd_461) rfl rfl rfl (by decide +kernel) ⟨Nat.le_of_ble_eq_true rfl, Nat.le_of_ble_eq_true rfl⟩) ⟨gP_blind, gP_pre hPc hDc hK hgl hkn hkr hS hFc⟩ rfl rfl hl.1 rfl (lv_room (Nat.le_of_ble_eq_true rfl)) d_Signs_takeVariable_29 ⟨show 0 + 0 + 0 + 0 ≤ mc from by omega, show 0 + 0 + 0 + 0 ≤ ms from by omega⟩) hS (fun q _ h => hFc q h) hFc (fun r7' u t H locs ht hvm hr7 hB hz1 hk1 hS => ?_)
    subst hr7
    rw [ht] at hB
    obtain ⟨hP1, hD1⟩ := hB
    obtain ⟨hP, hD⟩ := jn_A hP hD [] [0, 1, 2, 3, 4, 5, 6, 7, 8, 9] rfl rfl (by decide) (by decide) hk1 hFc hP1 hD1
    obtain ⟨hP, hD⟩ : PD g A H [(a, .inr (6, [.ref a_tape, .ref a_names, .int a_kind, .int a_place, .int a_behind, .int a_passed, .int a_name, .long a_number])), (a_names, .inr (2, [.ref a_names_texts, .int a_names_textsSize, .ref a_names_ends, .ref a_names_older, .ref a_names_newest, .int a_names_sizeBefore])), (a_names_texts, .inl (cs 1, a_names_texts_n, .inl a_names_texts_f)), (a_names_ends, .inr (1, [.ref a_names_ends_items, .int a_names_ends_size])), (a_names_ends_items, .inl (cs 0, a_names_ends_items_n, .inl a_names_ends_items_f)), (a_names_older, .inr (1, [.ref a_names_older_items, .int a_names_older_size])), (a_names_older_items, .inl (cs 0, a_names_older_items_n, .inl a_names_older_items_f)), (a_names_newest, .inl (cs 0, a_names_newest_n, .inl a_names_newest_f)), (a_tape, .inr (0, [.ref a_tape_items, .int a_tape_size])), (a_tape_items, .inl (cs 1, a_tape_items_n, .inl a_tape_items_f))] := ⟨hP, hD⟩
    refine lv_if_ne hx hb d_Signs_takeVariable_32 rfl (fun h8 => ?_) (fun h8 => ?_)
    · rw [if_neg h8] at hok
      refine lv_iconst (v := 0) hx hb d_Signs_takeVariable_39 (by decide) ?_
      refine lv_istore_n hx hb d_Signs_takeVariable_40 rfl hl (by decide) rfl (fun ls hl => ?_)
      have hl : lv_has ls 2 [(1, .int 0), (0, .ref a)] := hl
      refine lv_aload_n hx hb d_Signs_takeVariable_41 rfl (lv_at hl 1 rfl) ?_
      refine lv_aload_n hx hb d_Signs_takeVariable_42 rfl (lv_at hl 1 rfl) ?_
      obtain ⟨r9, hc9, hok⟩ := bd_some hok
      obtain ⟨hPc, hDc, hFc⟩ := cut0 (wc := [(a, .inr (6, [.ref a_tape, .ref a_names, .int a_kind, .int a_place, .int a_behind, .int a_passed, .int a_name, .long a_number])), (a_tape, .inr (0, [.ref a_tape_items, .int a_tape_size])), (a_tape_items, .inl (cs 1, a_tape_items_n, .inl a_tape_items_f))]) hP hD hS hA [0, 8, 9] (by decide) rfl
      refine va_calli (va_runV (As := []) (rest := [.ref a]) ⟨hx, hb, hml, hown, hg⟩ (c_Signs_wordEnd l g cs ka a_names a a_tape a_tape_items H.size n a_kind a_place a_behind a_passed a_name a_number a_tape_size a_tape_items_n a_tape_items_f r9 hc9) (cwV (C := R_Signs) 0 hg (gw_V wd_473 wd_474 wd_475 wd_467 wd_472) rfl rfl rfl (by decide +kernel) ⟨Nat.le_of_ble_eq_true rfl, Nat.le_of_ble_eq_true rfl⟩) ⟨gP_blind, va_recv (q0 := 0) (ci := 6) (q := (R_Signs, F_Signs, 8)) hK hP rfl rfl, gP_pre hPc hDc hK hgl hkn hkr hS hFc⟩ rfl rfl hl.1 rfl (lv_room (Nat.le_of_ble_eq_true rfl)) d_Signs_takeVariable_43 ⟨show 0 + 0 + 0 + 0 + 0 ≤ mc from by omega, show 0 + 0 + 0 + 0 + 0 ≤ ms from by omega⟩) hS (fun q _ h => hFc q h) hFc (fun r9' u t H locs ht hvm hr9 hB hz1 hk1 hS => ?_)
      subst hr9
      rw [ht] at hB
      obtain ⟨hP1, hD1⟩ := hB
      obtain ⟨hP, hD⟩ := jn_A hP hD [0, 8, 9] [1, 2, 3, 4, 5, 6, 7] rfl rfl (by decide) (by decide) hk1 hFc hP1 hD1
      obtain ⟨hP, hD⟩ : PD g A H [(a_names, .inr (2, [.ref a_names_texts, .int a_names_textsSize, .ref a_names_ends, .ref a_names_older, .ref a_names_newest, .int a_names_sizeBefore])), (a_names_texts, .inl (cs 1, a_names_texts_n, .inl a_names_texts_f)), (a_names_ends, .inr (1, [.ref a_names_ends_items, .int a_names_ends_size])), (a_names_ends_items, .inl (cs 0, a_names_ends_items_n, .inl a_names_ends_items_f)), (a_names_older, .inr (1, [.ref a_names_older_items, .int a_names_older_size])), (a_names_older_items, .inl (cs 0, a_names_older_items_n, .inl a_names_older_items_f)), (a_names_newest, .inl (cs 0, a_names_newest_n, .inl a_names_newest_f)), (a, .inr (6, [.ref a_tape, .ref a_names, .int a_kind, .int a_place, .int a_behind, .int a_passed, .int a_name, .long a_number])), (a_tape, .inr (0, [.ref a_tape_items, .int a_tape_size])), (a_tape_items, .inl (cs 1, a_tape_items_n, .inl a_tape_items_f))] := ⟨hP, hD⟩
      obtain ⟨⟨⟨a_kind_10, a_behind_10, a_name_10, a_names_textsSize_10, a_names_texts_n_10, a_names_texts_f_10, a_names_ends_size_10, a_names_ends_items_n_10, a_names_ends_items_f_10, a_names_older_size_10, a_names_older_items_n_10, a_names_older_items_f_10, a_names_newest_f_10⟩, mk10, sk10⟩, hc10, hok⟩ := bd_some hok
      dsimp only at hok
      obtain ⟨m10, s10, hok, hmc10, hms10⟩ := al_some hok
      obtain ⟨hPc, hDc, hFc⟩ := cut0 (wc := [(a, .inr (6, [.ref a_tape, .ref a_names, .int a_kind, .int a_place, .int a_behind, .int a_passed, .int a_name, .long a_number])), (a_tape, .inr (0, [.ref a_tape_items, .int a_tape_size])), (a_tape_items, .inl (cs 1, a_tape_items_n, .inl a_tape_items_f)), (a_names, .inr (2, [.ref a_names_texts, .int a_names_textsSize, .ref a_names_ends, .ref a_names_older, .ref a_names_newest, .int a_names_sizeBefore])), (a_names_texts, .inl (cs 1, a_names_texts_n, .inl a_names_texts_f)), (a_names_ends, .inr (1, [.ref a_names_ends_items, .int a_names_ends_size])), (a_names_ends_items, .inl (cs 0, a_names_ends_items_n, .inl a_names_ends_items_f)), (a_names_older, .inr (1, [.ref a_names_older_items, .int a_names_older_size])), (a_names_older_items, .inl (cs 0, a_names_older_items_n, .inl a_names_older_items_f)), (a_names_newest, .inl (cs 0, a_names_newest_n, .inl a_names_newest_f))]) hP hD hS hA [7, 8, 9, 0, 1, 2, 3, 4, 5, 6] (by decide) rfl
      refine va_callv (va_runV (As := [.int r9]) (rest := []) ⟨hx, hb, hml, hown, hg⟩ (c_Signs_takeName l g cs ka a a_tape a_tape_items a_names a_names_texts a_names_ends a_names_ends_items a_names_older a_names_older_items a_names_newest H.size n r9 a_kind a_place a_behind a_passed a_name a_number a_tape_size a_tape_items_n a_tape_items_f a_names_textsSize a_names_sizeBefore a_names_texts_n a_names_texts_f a_names_ends_size a_names_ends_items_n a_names_ends_items_f a_names_older_size a_names_older_items_n a_names_older_items_f a_names_newest_n a_names_newest_f a_kind_10 a_behind_10 a_name_10 a_names_textsSize_10 a_names_texts_n_10 a_names_texts_f_10 a_names_ends_size_10 a_names_ends_items_n_10 a_names_ends_items_f_10 a_names_older_size_10 a_names_older_items_n_10 a_names_older_items_f_10 a_names_newest_f_10 mk10 sk10 hc10) (cwV (C := R_Signs) 1 hg (gw_V wd_477 wd_478 wd_479 wd_467 wd_476) rfl rfl rfl (by decide +kernel) ⟨Nat.le_of_ble_eq_true rfl, Nat.le_of_ble_eq_true rfl⟩) ⟨gP_blind, va_recv (q0 := 7) (ci := 6) (q := (R_Signs, F_Signs, 8)) hK hP rfl rfl, gP_pre hPc hDc hK hgl hkn hkr hS hFc⟩ rfl rfl hl.1 rfl (lv_room (Nat.le_of_ble_eq_true rfl)) d_Signs_takeVariable_46 ⟨show 0 + 0 + 0 + 0 + 0 + mk10 ≤ mc from by omega, show 0 + 0 + 0 + 0 + 0 + sk10 ≤ ms from by omega⟩) hS (fun q _ h => hFc q h) hFc (fun u t H locs ht hvm hr10 hB hz1 hk1 hS => ?_)
      rw [ht] at hB
      obtain ⟨a_names_texts_10, a_names_ends_items_10, a_names_older_items_10, hP1, hD1⟩ := hB
      obtain ⟨hP, hD⟩ := jn_A hP hD [7, 8, 9, 0, 1, 2, 3, 4, 5, 6] [] rfl rfl (by decide) (by decide) hk1 hFc hP1 hD1
      obtain ⟨hP, hD⟩ : PD g A H [(a, .inr (6, [.ref a_tape, .ref a_names, .int a_kind_10, .int a_place, .int a_behind_10, .int a_passed, .int a_name_10, .long a_number])), (a_tape, .inr (0, [.ref a_tape_items, .int a_tape_size])), (a_tape_items, .inl (cs 1, a_tape_items_n, .inl a_tape_items_f)), (a_names, .inr (2, [.ref a_names_texts_10, .int a_names_textsSize_10, .ref a_names_ends, .ref a_names_older, .ref a_names_newest, .int a_names_sizeBefore])), (a_names_texts_10, .inl (cs 1, a_names_texts_n_10, .inl a_names_texts_f_10)), (a_names_ends, .inr (1, [.ref a_names_ends_items_10, .int a_names_ends_size_10])), (a_names_ends_items_10, .inl (cs 0, a_names_ends_items_n_10, .inl a_names_ends_items_f_10)), (a_names_older, .inr (1, [.ref a_names_older_items_10, .int a_names_older_size_10])), (a_names_older_items_10, .inl (cs 0, a_names_older_items_n_10, .inl a_names_older_items_f_10)), (a_names_newest, .inl (cs 0, a_names_newest_n, .inl a_names_newest_f_10))] := ⟨hP, hD⟩
      refine lv_aload_n hx hb d_Signs_takeVariable_49 rfl (lv_at hl 1 rfl) ?_
      refine lv_iconst (v := 1) hx hb d_Signs_takeVariable_50 (by decide) ?_
      refine va_put (D := g) (ci := 6) (v := .int 1) (ty := .int) (C := R_Signs) (T := F_Signs) (N := 8) hx hb hg ul_Signs t_Signs tk_Signs n_Signs hown hK hP hD hS 0 rfl rfl 2 (by decide) (hg _ wd_441) (fun _ h9 => h9) rfl (by decide +kernel) rfl rfl (Nat.le_of_ble_eq_true rfl) d_Signs_takeVariable_51 (fun H locs hP hD hS => ?_)
      obtain ⟨hP, hD⟩ : PD g A H [(a, .inr (6, [.ref a_tape, .ref a_names, .int 1, .int a_place, .int a_behind_10, .int a_passed, .int a_name_10, .long a_number])), (a_tape, .inr (0, [.ref a_tape_items, .int a_tape_size])), (a_tape_items, .inl (cs 1, a_tape_items_n, .inl a_tape_items_f)), (a_names, .inr (2, [.ref a_names_texts_10, .int a_names_textsSize_10, .ref a_names_ends, .ref a_names_older, .ref a_names_newest, .int a_names_sizeBefore])), (a_names_texts_10, .inl (cs 1, a_names_texts_n_10, .inl a_names_texts_f_10)), (a_names_ends, .inr (1, [.ref a_names_ends_items_10, .int a_names_ends_size_10])), (a_names_ends_items_10, .inl (cs 0, a_names_ends_items_n_10, .inl a_names_ends_items_f_10)), (a_names_older, .inr (1, [.ref a_names_older_items_10, .int a_names_older_size_10])), (a_names_older_items_10, .inl (cs 0, a_names_older_items_n_10, .inl a_names_older_items_f_10)), (a_names_newest, .inl (cs 0, a_names_newest_n, .inl a_names_newest_f_10))] := ⟨hP, hD⟩
      refine lv_iload_n hx hb d_Signs_takeVariable_54 rfl (lv_at hl 0 rfl) ?_
      refine lv_if_eq hx hb d_Signs_takeVariable_55 rfl (fun h11 => ?_) (fun h11 => ?_)
      · obtain ⟨hq, hw⟩ := Prod.mk.inj (Option.some.inj hok)
        obtain ⟨hmc0, hms0⟩ := Prod.mk.inj hw
        obtain ⟨hq0, hq⟩ := Prod.mk.inj hq
        obtain ⟨hq1, hq⟩ := Prod.mk.inj hq
        obtain ⟨hq2, hq⟩ := Prod.mk.inj hq
        obtain ⟨hq3, hq⟩ := Prod.mk.inj hq
        obtain ⟨hq4, hq⟩ := Prod.mk.inj hq
        obtain ⟨hq5, hq⟩ := Prod.mk.inj hq
        obtain ⟨hq6, hq⟩ := Prod.mk.inj hq
        obtain ⟨hq7, hq⟩ := Prod.mk.inj hq
        obtain ⟨hq8, hq⟩ := Prod.mk.inj hq
        obtain ⟨hq9, hq⟩ := Prod.mk.inj hq
        obtain ⟨hq10, hq⟩ := Prod.mk.inj hq
        obtain ⟨hq11, hq⟩ := Prod.mk.inj hq
        have hq12 := hq
        subst hq0
        subst hq1
        subst hq2
        subst hq3
        subst hq4
        subst hq5
        subst hq6
        subst hq7
        subst hq8
        subst hq9
        subst hq10
        subst hq11
        subst hq12
        obtain ⟨hP9, hD9⟩ := sub2 (ws' := [(a, .inr (6, [.ref a_tape, .ref a_names, .int 1, .int a_place, .int a_behind_10, .int a_passed, .int a_name_10, .long a_number])), (a_tape, .inr (0, [.ref a_tape_items, .int a_tape_size])), (a_tape_items, .inl (cs 1, a_tape_items_n, .inl a_tape_items_f)), (a_names, .inr (2, [.ref a_names_texts_10, .int a_names_textsSize_10, .ref a_names_ends, .ref a_names_older, .ref a_names_newest, .int a_names_sizeBefore])), (a_names_texts_10, .inl (cs 1, a_names_texts_n_10, .inl a_names_texts_f_10)), (a_names_ends, .inr (1, [.ref a_names_ends_items_10, .int a_names_ends_size_10])), (a_names_ends_items_10, .inl (cs 0, a_names_ends_items_n_10, .inl a_names_ends_items_f_10)), (a_names_older, .inr (1, [.ref a_names_older_items_10, .int a_names_older_size_10])), (a_names_older_items_10, .inl (cs 0, a_names_older_items_n_10, .inl a_names_older_items_f_10)), (a_names_newest, .inl (cs 0, a_names_newest_n, .inl a_names_newest_f_10))]) hP hD [0, 1, 2, 3, 4, 5, 6, 7, 8, 9] rfl (by decide) rfl
        refine W.widen (k := mc) (n := ms) (by omega) (by omega) ?_
        rw [hQ]
        exact W.vret hx hb hr (fun t ht hW => ⟨⟨(), rfl, trivial, a_names_texts_10, a_names_ends_items_10, a_names_older_items_10, by rw [ht]; exact hP9, hD9⟩, hS.F ht⟩) hS.2.2 d_Signs_takeVariable_63
      · exact absurd h11 (by decide)
    · rw [if_pos h8] at hok
      refine lv_iconst (v := 1) hx hb d_Signs_takeVariable_35 (by decide) ?_
      refine lv_goto hx hb d_Signs_takeVariable_36 rfl ?_
      refine lv_istore_n hx hb d_Signs_takeVariable_40 rfl hl (by decide) rfl (fun ls hl => ?_)
      have hl : lv_has ls 2 [(1, .int 1), (0, .ref a)] := hl
      refine lv_aload_n hx hb d_Signs_takeVariable_41 rfl (lv_at hl 1 rfl) ?_
      refine lv_aload_n hx hb d_Signs_takeVariable_42 rfl (lv_at hl 1 rfl) ?_
      obtain ⟨r12, hc12, hok⟩ := bd_some hok
      obtain ⟨hPc, hDc, hFc⟩ := cut0 (wc := [(a, .inr (6, [.ref a_tape, .ref a_names, .int a_kind, .int a_place, .int a_behind, .int a_passed, .int a_name, .long a_number])), (a_tape, .inr (0, [.ref a_tape_items, .int a_tape_size])), (a_tape_items, .inl (cs 1, a_tape_items_n, .inl a_tape_items_f))]) hP hD hS hA [0, 8, 9] (by decide) rfl
      refine va_calli (va_runV (As := []) (rest := [.ref a]) ⟨hx, hb, hml, hown, hg⟩ (c_Signs_wordEnd l g cs ka a_names a a_tape a_tape_items H.size n a_kind a_place a_behind a_passed a_name a_number a_tape_size a_tape_items_n a_tape_items_f r12 hc12) (cwV (C := R_Signs) 0 hg (gw_V wd_473 wd_474 wd_475 wd_467 wd_472) rfl rfl rfl (by decide +kernel) ⟨Nat.le_of_ble_eq_true rfl, Nat.le_of_ble_eq_true rfl⟩) ⟨gP_blind, va_recv (q0 := 0) (ci := 6) (q := (R_Signs, F_Signs, 8)) hK hP rfl rfl, gP_pre hPc hDc hK hgl hkn hkr hS hFc⟩ rfl rfl hl.1 rfl (lv_room (Nat.le_of_ble_eq_true rfl)) d_Signs_takeVariable_43 ⟨show 0 + 0 + 0 + 0 + 0 ≤ mc from by omega, show 0 + 0 + 0 + 0 + 0 ≤ ms from by omega⟩) hS (fun q _ h => hFc q h) hFc (fun r12' u t H locs ht hvm hr12 hB hz1 hk1 hS => ?_)
      subst hr12
      rw [ht] at hB
      obtain ⟨hP1, hD1⟩ := hB
      obtain ⟨hP, hD⟩ := jn_A hP hD [0, 8, 9] [1, 2, 3, 4, 5, 6, 7] rfl rfl (by decide) (by decide) hk1 hFc hP1 hD1
      obtain ⟨hP, hD⟩ : PD g A H [(a_names, .inr (2, [.ref a_names_texts, .int a_names_textsSize, .ref a_names_ends, .ref a_names_older, .ref a_names_newest, .int a_names_sizeBefore])), (a_names_texts, .inl (cs 1, a_names_texts_n, .inl a_names_texts_f)), (a_names_ends, .inr (1, [.ref a_names_ends_items, .int a_names_ends_size])), (a_names_ends_items, .inl (cs 0, a_names_ends_items_n, .inl a_names_ends_items_f)), (a_names_older, .inr (1, [.ref a_names_older_items, .int a_names_older_size])), (a_names_older_items, .inl (cs 0, a_names_older_items_n, .inl a_names_older_items_f)), (a_names_newest, .inl (cs 0, a_names_newest_n, .inl a_names_newest_f)), (a, .inr (6, [.ref a_tape, .ref a_names, .int a_kind, .int a_place, .int a_behind, .int a_passed, .int a_name, .long a_number])), (a_tape, .inr (0, [.ref a_tape_items, .int a_tape_size])), (a_tape_items, .inl (cs 1, a_tape_items_n, .inl a_tape_items_f))] := ⟨hP, hD⟩
      obtain ⟨⟨⟨a_kind_13, a_behind_13, a_name_13, a_names_textsSize_13, a_names_texts_n_13, a_names_texts_f_13, a_names_ends_size_13, a_names_ends_items_n_13, a_names_ends_items_f_13, a_names_older_size_13, a_names_older_items_n_13, a_names_older_items_f_13, a_names_newest_f_13⟩, mk13, sk13⟩, hc13, hok⟩ := bd_some hok
      dsimp only at hok
      obtain ⟨m13, s13, hok, hmc13, hms13⟩ := al_some hok
      obtain ⟨hPc, hDc, hFc⟩ := cut0 (wc := [(a, .inr (6, [.ref a_tape, .ref a_names, .int a_kind, .int a_place, .int a_behind, .int a_passed, .int a_name, .long a_number])), (a_tape, .inr (0, [.ref a_tape_items, .int a_tape_size])), (a_tape_items, .inl (cs 1, a_tape_items_n, .inl a_tape_items_f)), (a_names, .inr (2, [.ref a_names_texts, .int a_names_textsSize, .ref a_names_ends, .ref a_names_older, .ref a_names_newest, .int a_names_sizeBefore])), (a_names_texts, .inl (cs 1, a_names_texts_n, .inl a_names_texts_f)), (a_names_ends, .inr (1, [.ref a_names_ends_items, .int a_names_ends_size])), (a_names_ends_items, .inl (cs 0, a_names_ends_items_n, .inl a_names_ends_items_f)), (a_names_older, .inr (1, [.ref a_names_older_items, .int a_names_older_size])), (a_names_older_items, .inl (cs 0, a_names_older_items_n, .inl a_names_older_items_f)), (a_names_newest, .inl (cs 0, a_names_newest_n, .inl a_names_newest_f))]) hP hD hS hA [7, 8, 9, 0, 1, 2, 3, 4, 5, 6] (by decide) rfl
      refine va_callv (va_runV (As := [.int r12]) (rest := []) ⟨hx, hb, hml, hown, hg⟩ (c_Signs_takeName l g cs ka a a_tape a_tape_items a_names a_names_texts a_names_ends a_names_ends_items a_names_older a_names_older_items a_names_newest H.size n r12 a_kind a_place a_behind a_passed a_name a_number a_tape_size a_tape_items_n a_tape_items_f a_names_textsSize a_names_sizeBefore a_names_texts_n a_names_texts_f a_names_ends_size a_names_ends_items_n a_names_ends_items_f a_names_older_size a_names_older_items_n a_names_older_items_f a_names_newest_n a_names_newest_f a_kind_13 a_behind_13 a_name_13 a_names_textsSize_13 a_names_texts_n_13 a_names_texts_f_13 a_names_ends_size_13 a_names_ends_items_n_13 a_names_ends_items_f_13 a_names_older_size_13 a_names_older_items_n_13 a_names_older_items_f_13 a_names_newest_f_13 mk13 sk13 hc13) (cwV (C := R_Signs) 1 hg (gw_V wd_477 wd_478 wd_479 wd_467 wd_476) rfl rfl rfl (by decide +kernel) ⟨Nat.le_of_ble_eq_true rfl, Nat.le_of_ble_eq_true rfl⟩) ⟨gP_blind, va_recv (q0 := 7) (ci := 6) (q := (R_Signs, F_Signs, 8)) hK hP rfl rfl, gP_pre hPc hDc hK hgl hkn hkr hS hFc⟩ rfl rfl hl.1 rfl (lv_room (Nat.le_of_ble_eq_true rfl)) d_Signs_takeVariable_46 ⟨show 0 + 0 + 0 + 0 + 0 + mk13 ≤ mc from by omega, show 0 + 0 + 0 + 0 + 0 + sk13 ≤ ms from by omega⟩) hS (fun q _ h => hFc q h) hFc (fun u t H locs ht hvm hr13 hB hz1 hk1 hS => ?_)
      rw [ht] at hB
      obtain ⟨a_names_texts_13, a_names_ends_items_13, a_names_older_items_13, hP1, hD1⟩ := hB
      obtain ⟨hP, hD⟩ := jn_A hP hD [7, 8, 9, 0, 1, 2, 3, 4, 5, 6] [] rfl rfl (by decide) (by decide) hk1 hFc hP1 hD1
      obtain ⟨hP, hD⟩ : PD g A H [(a, .inr (6, [.ref a_tape, .ref a_names, .int a_kind_13, .int a_place, .int a_behind_13, .int a_passed, .int a_name_13, .long a_number])), (a_tape, .inr (0, [.ref a_tape_items, .int a_tape_size])), (a_tape_items, .inl (cs 1, a_tape_items_n, .inl a_tape_items_f)), (a_names, .inr (2, [.ref a_names_texts_13, .int a_names_textsSize_13, .ref a_names_ends, .ref a_names_older, .ref a_names_newest, .int a_names_sizeBefore])), (a_names_texts_13, .inl (cs 1, a_names_texts_n_13, .inl a_names_texts_f_13)), (a_names_ends, .inr (1, [.ref a_names_ends_items_13, .int a_names_ends_size_13])), (a_names_ends_items_13, .inl (cs 0, a_names_ends_items_n_13, .inl a_names_ends_items_f_13)), (a_names_older, .inr (1, [.ref a_names_older_items_13, .int a_names_older_size_13])), (a_names_older_items_13, .inl (cs 0, a_names_older_items_n_13, .inl a_names_older_items_f_13)), (a_names_newest, .inl (cs 0, a_names_newest_n, .inl a_names_newest_f_13))] := ⟨hP, hD⟩
      refine lv_aload_n hx hb d_Signs_takeVariable_49 rfl (lv_at hl 1 rfl) ?_
      refine lv_iconst (v := 1) hx hb d_Signs_takeVariable_50 (by decide) ?_
      refine va_put (D := g) (ci := 6) (v := .int 1) (ty := .int) (C := R_Signs) (T := F_Signs) (N := 8) hx hb hg ul_Signs t_Signs tk_Signs n_Signs hown hK hP hD hS 0 rfl rfl 2 (by decide) (hg _ wd_441) (fun _ h9 => h9) rfl (by decide +kernel) rfl rfl (Nat.le_of_ble_eq_true rfl) d_Signs_takeVariable_51 (fun H locs hP hD hS => ?_)
      obtain ⟨hP, hD⟩ : PD g A H [(a, .inr (6, [.ref a_tape, .ref a_names, .int 1, .int a_place, .int a_behind_13, .int a_passed, .int a_name_13, .long a_number])), (a_tape, .inr (0, [.ref a_tape_items, .int a_tape_size])), (a_tape_items, .inl (cs 1, a_tape_items_n, .inl a_tape_items_f)), (a_names, .inr (2, [.ref a_names_texts_13, .int a_names_textsSize_13, .ref a_names_ends, .ref a_names_older, .ref a_names_newest, .int a_names_sizeBefore])), (a_names_texts_13, .inl (cs 1, a_names_texts_n_13, .inl a_names_texts_f_13)), (a_names_ends, .inr (1, [.ref a_names_ends_items_13, .int a_names_ends_size_13])), (a_names_ends_items_13, .inl (cs 0, a_names_ends_items_n_13, .inl a_names_ends_items_f_13)), (a_names_older, .inr (1, [.ref a_names_older_items_13, .int a_names_older_size_13])), (a_names_older_items_13, .inl (cs 0, a_names_older_items_n_13, .inl a_names_older_items_f_13)), (a_names_newest, .inl (cs 0, a_names_newest_n, .inl a_names_newest_f_13))] := ⟨hP, hD⟩
      refine lv_iload_n hx hb d_Signs_takeVariable_54 rfl (lv_at hl 0 rfl) ?_
      refine lv_if_eq hx hb d_Signs_takeVariable_55 rfl (fun h14 => ?_) (fun h14 => ?_)
      · exact absurd h14 (by decide)
      · refine lv_aload_n hx hb d_Signs_takeVariable_58 rfl (lv_at hl 1 rfl) ?_
        refine lv_iconst (v := (-1)) hx hb d_Signs_takeVariable_59 (by decide) ?_
        refine va_put (D := g) (ci := 6) (v := .int (-1)) (ty := .int) (C := R_Signs) (T := F_Signs) (N := 8) hx hb hg ul_Signs t_Signs tk_Signs n_Signs hown hK hP hD hS 0 rfl rfl 6 (by decide) (hg _ wd_445) (fun _ h9 => h9) rfl (by decide +kernel) rfl rfl (Nat.le_of_ble_eq_true rfl) d_Signs_takeVariable_60 (fun H locs hP hD hS => ?_)
        obtain ⟨hP, hD⟩ : PD g A H [(a, .inr (6, [.ref a_tape, .ref a_names, .int 1, .int a_place, .int a_behind_13, .int a_passed, .int (-1), .long a_number])), (a_tape, .inr (0, [.ref a_tape_items, .int a_tape_size])), (a_tape_items, .inl (cs 1, a_tape_items_n, .inl a_tape_items_f)), (a_names, .inr (2, [.ref a_names_texts_13, .int a_names_textsSize_13, .ref a_names_ends, .ref a_names_older, .ref a_names_newest, .int a_names_sizeBefore])), (a_names_texts_13, .inl (cs 1, a_names_texts_n_13, .inl a_names_texts_f_13)), (a_names_ends, .inr (1, [.ref a_names_ends_items_13, .int a_names_ends_size_13])), (a_names_ends_items_13, .inl (cs 0, a_names_ends_items_n_13, .inl a_names_ends_items_f_13)), (a_names_older, .inr (1, [.ref a_names_older_items_13, .int a_names_older_size_13])), (a_names_older_items_13, .inl (cs 0, a_names_older_items_n_13, .inl a_names_older_items_f_13)), (a_names_newest, .inl (cs 0, a_names_newest_n, .inl a_names_newest_f_13))] := ⟨hP, hD⟩
        obtain ⟨hq, hw⟩ := Prod.mk.inj (Option.some.inj hok)
        obtain ⟨hmc0, hms0⟩ := Prod.mk.inj hw
        obtain ⟨hq0, hq⟩ := Prod.mk.inj hq
        obtain ⟨hq1, hq⟩ := Prod.mk.inj hq
        obtain ⟨hq2, hq⟩ := Prod.mk.inj hq
        obtain ⟨hq3, hq⟩ := Prod.mk.inj hq
        obtain ⟨hq4, hq⟩ := Prod.mk.inj hq
        obtain ⟨hq5, hq⟩ := Prod.mk.inj hq
        obtain ⟨hq6, hq⟩ := Prod.mk.inj hq
        obtain ⟨hq7, hq⟩ := Prod.mk.inj hq
        obtain ⟨hq8, hq⟩ := Prod.mk.inj hq
        obtain ⟨hq9, hq⟩ := Prod.mk.inj hq
        obtain ⟨hq10, hq⟩ := Prod.mk.inj hq
        obtain ⟨hq11, hq⟩ := Prod.mk.inj hq
        have hq12 := hq
        subst hq0
        subst hq1
        subst hq2
        subst hq3
        subst hq4
        subst hq5
        subst hq6
        subst hq7
        subst hq8
        subst hq9
        subst hq10
        subst hq11
        subst hq12
        obtain ⟨hP9, hD9⟩ := sub2 (ws' := [(a, .inr (6, [.ref a_tape, .ref a_names, .int 1, .int a_place, .int a_behind_13, .int a_passed, .int (-1), .long a_number])), (a_tape, .inr (0, [.ref a_tape_items, .int a_tape_size])), (a_tape_items, .inl (cs 1, a_tape_items_n, .inl a_tape_items_f)), (a_names, .inr (2, [.ref a_names_texts_13, .int a_names_textsSize_13, .ref a_names_ends, .ref a_names_older, .ref a_names_newest, .int a_names_sizeBefore])), (a_names_texts_13, .inl (cs 1, a_names_texts_n_13, .inl a_names_texts_f_13)), (a_names_ends, .inr (1, [.ref a_names_ends_items_13, .int a_names_ends_size_13])), (a_names_ends_items_13, .inl (cs 0, a_names_ends_items_n_13, .inl a_names_ends_items_f_13)), (a_names_older, .inr (1, [.ref a_names_older_items_13, .int a_names_older_size_13])), (a_names_older_items_13, .inl (cs 0, a_names_older_items_n_13, .inl a_names_older_items_f_13)), (a_names_newest, .inl (cs 0, a_names_newest_n, .inl a_names_newest_f_13))]) hP hD [0, 1, 2, 3, 4, 5, 6, 7, 8, 9] rfl (by decide) rfl
        refine W.widen (k := mc) (n := ms) (by omega) (by omega) ?_
        rw [hQ]
        exact W.vret hx hb hr (fun t ht hW => ⟨⟨(), rfl, trivial, a_names_texts_13, a_names_ends_items_13, a_names_older_items_13, by rw [ht]; exact hP9, hD9⟩, hS.F ht⟩) hS.2.2 d_Signs_takeVariable_63

theorem d_Signs_takeInteger_0 : decode b_Signs_takeInteger 0 = .ok (.aload_n 0, 1) := by decide +kernel
theorem d_Signs_takeInteger_1 : decode b_Signs_takeInteger 1 = .ok (.lconst 0, 1) := by decide +kernel
theorem d_Signs_takeInteger_2 : decode b_Signs_takeInteger 2 = .ok (.putfield 26, 3) := by decide +kernel
theorem d_Signs_takeInteger_5 : decode b_Signs_takeInteger 5 = .ok (.aload_n 0, 1) := by decide +kernel
theorem d_Signs_takeInteger_6 : decode b_Signs_takeInteger 6 = .ok (.getfield 13, 3) := by decide +kernel
theorem d_Signs_takeInteger_9 : decode b_Signs_takeInteger 9 = .ok (.istore_n 1, 1) := by decide +kernel
theorem d_Signs_takeInteger_10 : decode b_Signs_takeInteger 10 = .ok (.iload_n 1, 1) := by decide +kernel
theorem d_Signs_takeInteger_11 : decode b_Signs_takeInteger 11 = .ok (.aload_n 0, 1) := by decide +kernel
theorem d_Signs_takeInteger_12 : decode b_Signs_takeInteger 12 = .ok (.getfield 30, 3) := by decide +kernel
theorem d_Signs_takeInteger_15 : decode b_Signs_takeInteger 15 = .ok (.invokevirtual 47, 3) := by decide +kernel
theorem d_Signs_takeInteger_18 : decode b_Signs_takeInteger 18 = .ok (.if_icmp .ge 55, 3) := by decide +kernel
theorem d_Signs_takeInteger_21 : decode b_Signs_takeInteger 21 = .ok (.aload_n 0, 1) := by decide +kernel
theorem d_Signs_takeInteger_22 : decode b_Signs_takeInteger 22 = .ok (.getfield 30, 3) := by decide +kernel
theorem d_Signs_takeInteger_25 : decode b_Signs_takeInteger 25 = .ok (.iload_n 1, 1) := by decide +kernel
theorem d_Signs_takeInteger_26 : decode b_Signs_takeInteger 26 = .ok (.invokevirtual 42, 3) := by decide +kernel
theorem d_Signs_takeInteger_29 : decode b_Signs_takeInteger 29 = .ok (.invokestatic 74, 3) := by decide +kernel
theorem d_Signs_takeInteger_32 : decode b_Signs_takeInteger 32 = .ok (.ifCond .eq 41, 3) := by decide +kernel
theorem d_Signs_takeInteger_35 : decode b_Signs_takeInteger 35 = .ok (.aload_n 0, 1) := by decide +kernel
theorem d_Signs_takeInteger_36 : decode b_Signs_takeInteger 36 = .ok (.aload_n 0, 1) := by decide +kernel
theorem d_Signs_takeInteger_37 : decode b_Signs_takeInteger 37 = .ok (.getfield 26, 3) := by decide +kernel
theorem d_Signs_takeInteger_40 : decode b_Signs_takeInteger 40 = .ok (.ldc2_w 109, 3) := by decide +kernel
theorem d_Signs_takeInteger_43 : decode b_Signs_takeInteger 43 = .ok (.lmul, 1) := by decide +kernel
theorem d_Signs_takeInteger_44 : decode b_Signs_takeInteger 44 = .ok (.aload_n 0, 1) := by decide +kernel
theorem d_Signs_takeInteger_45 : decode b_Signs_takeInteger 45 = .ok (.getfield 30, 3) := by decide +kernel
theorem d_Signs_takeInteger_48 : decode b_Signs_takeInteger 48 = .ok (.iload_n 1, 1) := by decide +kernel
theorem d_Signs_takeInteger_49 : decode b_Signs_takeInteger 49 = .ok (.invokevirtual 42, 3) := by decide +kernel
theorem d_Signs_takeInteger_52 : decode b_Signs_takeInteger 52 = .ok (.i2l, 1) := by decide +kernel
theorem d_Signs_takeInteger_53 : decode b_Signs_takeInteger 53 = .ok (.ladd, 1) := by decide +kernel
theorem d_Signs_takeInteger_54 : decode b_Signs_takeInteger 54 = .ok (.ldc2_w 111, 3) := by decide +kernel
theorem d_Signs_takeInteger_57 : decode b_Signs_takeInteger 57 = .ok (.lsub, 1) := by decide +kernel
theorem d_Signs_takeInteger_58 : decode b_Signs_takeInteger 58 = .ok (.ldc2_w 113, 3) := by decide +kernel
theorem d_Signs_takeInteger_61 : decode b_Signs_takeInteger 61 = .ok (.invokestatic 115, 3) := by decide +kernel
theorem d_Signs_takeInteger_64 : decode b_Signs_takeInteger 64 = .ok (.putfield 26, 3) := by decide +kernel
theorem d_Signs_takeInteger_67 : decode b_Signs_takeInteger 67 = .ok (.iinc 1 1, 3) := by decide +kernel
theorem d_Signs_takeInteger_70 : decode b_Signs_takeInteger 70 = .ok (.goto (-60), 3) := by decide +kernel
theorem d_Signs_takeInteger_73 : decode b_Signs_takeInteger 73 = .ok (.aload_n 0, 1) := by decide +kernel
theorem d_Signs_takeInteger_74 : decode b_Signs_takeInteger 74 = .ok (.aload_n 0, 1) := by decide +kernel
theorem d_Signs_takeInteger_75 : decode b_Signs_takeInteger 75 = .ok (.getfield 26, 3) := by decide +kernel
theorem d_Signs_takeInteger_78 : decode b_Signs_takeInteger 78 = .ok (.ldc2_w 121, 3) := by decide +kernel
theorem d_Signs_takeInteger_81 : decode b_Signs_takeInteger 81 = .ok (.lcmp, 1) := by decide +kernel
theorem d_Signs_takeInteger_82 : decode b_Signs_takeInteger 82 = .ok (.ifCond .le 8, 3) := by decide +kernel
theorem d_Signs_takeInteger_85 : decode b_Signs_takeInteger 85 = .ok (.bipush 6, 2) := by decide +kernel
theorem d_Signs_takeInteger_87 : decode b_Signs_takeInteger 87 = .ok (.goto 4, 3) := by decide +kernel
theorem d_Signs_takeInteger_90 : decode b_Signs_takeInteger 90 = .ok (.iconst 2, 1) := by decide +kernel
theorem d_Signs_takeInteger_91 : decode b_Signs_takeInteger 91 = .ok (.iload_n 1, 1) := by decide +kernel
theorem d_Signs_takeInteger_92 : decode b_Signs_takeInteger 92 = .ok (.invokevirtual 51, 3) := by decide +kernel
theorem d_Signs_takeInteger_95 : decode b_Signs_takeInteger 95 = .ok (.return_, 1) := by decide +kernel
def p_Signs_takeInteger_10 (n : Nat) (a_kind : Int32) (a_place : Int32) (a_behind : Int32) (a_passed : Int32) (a_name : Int32) (a_tape_size : Int32) (a_tape_items_n : Nat) (a_tape_items_f : Nat → Int32) (kf1 : Nat) (x1_1 : Int32) (a_number_1 : Int64) : Option (Int32 × Int32 × Int64) := match kf1 with
  | 0 => none
  | kf1 + 1 => (p_Bytes_size a_tape_size).bind (fun r2 => if r2 ≤ x1_1 then (if (lg_cmp a_number_1 9007199254740991) ≤ 0 then ((p_Signs_takeTo (2 : Int32) x1_1 a_kind a_place a_behind a_passed a_name a_number_1).bind (fun (a_kind_5, a_behind_5) => some (a_kind_5, a_behind_5, a_number_1))) else ((p_Signs_takeTo (6 : Int32) x1_1 a_kind a_place a_behind a_passed a_name a_number_1).bind (fun (a_kind_6, a_behind_6) => some (a_kind_6, a_behind_6, a_number_1)))) else ((p_Bytes_at x1_1 a_tape_size a_tape_items_n a_tape_items_f).bind (fun r7 => (p_Letters_isDigit r7).bind (fun r8 => if r8 = 0 then (if (lg_cmp a_number_1 9007199254740991) ≤ 0 then ((p_Signs_takeTo (2 : Int32) x1_1 a_kind a_place a_behind a_passed a_name a_number_1).bind (fun (a_kind_11, a_behind_11) => some (a_kind_11, a_behind_11, a_number_1))) else ((p_Signs_takeTo (6 : Int32) x1_1 a_kind a_place a_behind a_passed a_name a_number_1).bind (fun (a_kind_12, a_behind_12) => some (a_kind_12, a_behind_12, a_number_1)))) else ((p_Bytes_at x1_1 a_tape_size a_tape_items_n a_tape_items_f).bind (fun r13 => p_Signs_takeInteger_10 n a_kind a_place a_behind a_passed a_name a_tape_size a_tape_items_n a_tape_items_f kf1 (x1_1 + 1) (if 9007199254740992 < (((a_number_1 * 10) + r13.toInt64) - 48) then 9007199254740992 else (((a_number_1 * 10) + r13.toInt64) - 48))))))))
def p_Signs_takeInteger (n : Nat) (a_kind : Int32) (a_place : Int32) (a_behind : Int32) (a_passed : Int32) (a_name : Int32) (a_number : Int64) (a_tape_size : Int32) (a_tape_items_n : Nat) (a_tape_items_f : Nat → Int32) : Option (Int32 × Int32 × Int64) := p_Signs_takeInteger_10 n a_kind a_place a_behind a_passed a_name a_tape_size a_tape_items_n a_tape_items_f n a_place (0 : Int64)
set_option maxHeartbeats 4000000 in
set_option maxRecDepth 100000 in
theorem c_Signs_takeInteger (l : Launch) (g : va_G) (cs : Nat → ClassId) (ka : Nat → Nat) (a_names : Nat) (a a_tape a_tape_items : Nat) (sz : Nat) (n : Nat) (a_kind : Int32) (a_place : Int32) (a_behind : Int32) (a_passed : Int32) (a_name : Int32) (a_number : Int64) (a_tape_size : Int32) (a_tape_items_n : Nat) (a_tape_items_f : Nat → Int32) (o_a_kind : Int32) (o_a_behind : Int32) (o_a_number : Int64) (hok : p_Signs_takeInteger n a_kind a_place a_behind a_passed a_name a_number a_tape_size a_tape_items_n a_tape_items_f = some (o_a_kind, o_a_behind, o_a_number)) : Met l y_Signs_takeInteger (.code y_Signs_takeInteger b_Signs_takeInteger 2 none :: GW) { frames := 1, cells := 0, slots := 0, locals := 22 } (va_Pc [.ref a] (gP g cs ka [(a, .inr (6, [.ref a_tape, .ref a_names, .int a_kind, .int a_place, .int a_behind, .int a_passed, .int a_name, .long a_number])), (a_tape, .inr (0, [.ref a_tape_items, .int a_tape_size])), (a_tape_items, .inl (cs 1, a_tape_items_n, .inl a_tape_items_f))] sz)) (va_Qv (fun _ : Unit => True) (fun _ t => va_P g classes [(a, .inr (6, [.ref a_tape, .ref a_names, .int o_a_kind, .int a_place, .int o_a_behind, .int a_passed, .int a_name, .long o_a_number])), (a_tape, .inr (0, [.ref a_tape_items, .int a_tape_size])), (a_tape_items, .inl (cs 1, a_tape_items_n, .inl a_tape_items_f))] t.heap ∧ va_D (va_A [(a, .inr (6, [.ref a_tape, .ref a_names, .int a_kind, .int a_place, .int a_behind, .int a_passed, .int a_name, .long a_number])), (a_tape, .inr (0, [.ref a_tape_items, .int a_tape_size])), (a_tape_items, .inl (cs 1, a_tape_items_n, .inl a_tape_items_f))] sz) [(a, .inr (6, [.ref a_tape, .ref a_names, .int o_a_kind, .int a_place, .int o_a_behind, .int a_passed, .int a_name, .long o_a_number])), (a_tape, .inr (0, [.ref a_tape_items, .int a_tape_size])), (a_tape_items, .inl (cs 1, a_tape_items_n, .inl a_tape_items_f))]) (va_A [(a, .inr (6, [.ref a_tape, .ref a_names, .int a_kind, .int a_place, .int a_behind, .int a_passed, .int a_name, .long a_number])), (a_tape, .inr (0, [.ref a_tape_items, .int a_tape_size])), (a_tape_items, .inl (cs 1, a_tape_items_n, .inl a_tape_items_f))] sz)) 0 0 (va_A [(a, .inr (6, [.ref a_tape, .ref a_names, .int a_kind, .int a_place, .int a_behind, .int a_passed, .int a_name, .long a_number])), (a_tape, .inr (0, [.ref a_tape_items, .int a_tape_size])), (a_tape_items, .inl (cs 1, a_tape_items_n, .inl a_tape_items_f))] sz) := by
  refine Met.ofW (cc := b_Signs_takeInteger) (maxL := 2) (ret := none) (by decide) rfl ?_
  intro p e s m args below meth c s₁ B hml hv
  obtain ⟨rfl, hsz, hP, hK, hD0, hgl, hkn, hkr⟩ := hv
  have hx := B.exec
  have hb := B.bytes
  have hr := B.returns
  have hg : ∀ w ∈ GW, w.before ([.ref a] : List Value).toArray s = true := fun w hw => atoms_spec (ws := .code y_Signs_takeInteger b_Signs_takeInteger 2 none :: GW) B.pre w (List.mem_cons_of_mem _ hw)
  have hown : s.vm.findClass R_Signs = some m.cls := findClass_of_methodNamed B.named
  have hlocks := B.notSynchronized
  subst hsz
  have hD := hD0.self (sz := s.heap.size)
  generalize hAe : va_A [(a, .inr (6, [.ref a_tape, .ref a_names, .int a_kind, .int a_place, .int a_behind, .int a_passed, .int a_name, .long a_number])), (a_tape, .inr (0, [.ref a_tape_items, .int a_tape_size])), (a_tape_items, .inl (cs 1, a_tape_items_n, .inl a_tape_items_f))] s.heap.size = A at hD hkn ⊢
  have hA : ∀ q : Nat, s.heap.size ≤ q → A q := fun q h => by rw [← hAe]; exact Or.inr h
  have hS : va_S A s.heap s.heap [] := va_S.rf
  have hP : va_P g classes [(a, .inr (6, [.ref a_tape, .ref a_names, .int a_kind, .int a_place, .int a_behind, .int a_passed, .int a_name, .long a_number])), (a_tape, .inr (0, [.ref a_tape_items, .int a_tape_size])), (a_tape_items, .inl (cs 1, a_tape_items_n, .inl a_tape_items_f))] s.heap := hP
  have hl := lv_entry ([.ref a]) (n := 2) (Nat.le_of_ble_eq_true rfl)
  rw [lg_entry_eq]
  generalize (lg_sl ([.ref a]) ++ List.replicate (2 - (lg_sl ([.ref a])).length) Slot.unset).toArray = ls at hl ⊢
  have hl : lv_has ls 2 [(0, .ref a)] := hl
  refine gq (fun Q hQ => ?_)
  obtain ⟨H, hH⟩ : ∃ H : Heap, H = s.heap := ⟨_, rfl⟩
  rw [← hH] at hP
  have hS : va_S A s.heap H [] := by rw [hH]; exact hS
  refine W.eqH hH ?_
  obtain ⟨locs, hlc⟩ : ∃ L : List Loc, L = [] := ⟨_, rfl⟩
  rw [← hlc] at hS ⊢
  unfold p_Signs_takeInteger at hok
  refine lv_aload_n hx hb d_Signs_takeInteger_0 rfl (lv_at hl 0 rfl) ?_
  refine lv_lconst (v := 0) hx hb d_Signs_takeInteger_1 (by decide) ?_
  refine va_put (D := g) (ci := 6) (v := .long 0) (ty := .long) (C := R_Signs) (T := F_Signs) (N := 8) hx hb hg ul_Signs t_Signs tk_Signs n_Signs hown hK hP hD hS 0 rfl rfl 7 (by decide) (hg _ wd_446) (fun _ h9 => h9) rfl (by decide +kernel) rfl rfl (Nat.le_of_ble_eq_true rfl) d_Signs_takeInteger_2 (fun H locs hP hD hS => ?_)
  obtain ⟨hP, hD⟩ : PD g A H [(a, .inr (6, [.ref a_tape, .ref a_names, .int a_kind, .int a_place, .int a_behind, .int a_passed, .int a_name, .long 0])), (a_tape, .inr (0, [.ref a_tape_items, .int a_tape_size])), (a_tape_items, .inl (cs 1, a_tape_items_n, .inl a_tape_items_f))] := ⟨hP, hD⟩
  refine lv_aload_n hx hb d_Signs_takeInteger_5 rfl (lv_at hl 0 rfl) ?_
  refine va_get (D := g) (ci := 6) (v := .int a_place) (C := R_Signs) (T := F_Signs) (N := 8) hx hb hg ul_Signs hown hK hP 0 rfl rfl 3 (by decide) (hg _ wd_442) (fun _ h9 => h9) rfl d_Signs_takeInteger_6 ?_
  refine lv_istore_n hx hb d_Signs_takeInteger_9 rfl hl (by decide) rfl (fun ls hl => ?_)
  have hl : lv_has ls 2 [(1, .int a_place), (0, .ref a)] := hl
  have J1 : ∀ (kf1 : Nat) (H : Heap) (locs : List Loc) (ls : Array Slot) (x1_1 : Int32) (a_number_1 : Int64), lv_has ls 2 [(1, .int x1_1), (0, .ref a)] → PD g A H [(a, .inr (6, [.ref a_tape, .ref a_names, .int a_kind, .int a_place, .int a_behind, .int a_passed, .int a_name, .long a_number_1])), (a_tape, .inr (0, [.ref a_tape_items, .int a_tape_size])), (a_tape_items, .inl (cs 1, a_tape_items_n, .inl a_tape_items_f))] → va_S A s.heap H locs → p_Signs_takeInteger_10 n a_kind a_place a_behind a_passed a_name a_tape_size a_tape_items_n a_tape_items_f kf1 x1_1 a_number_1 = some (o_a_kind, o_a_behind, o_a_number) → W p l e (headSpec (.code y_Signs_takeInteger b_Signs_takeInteger 2 none :: GW) { frames := 1, cells := 0, slots := 0, locals := 22 }).room s m ([.ref a] : List Value).toArray below meth c H locs 0 0 Q (F0 m 10 ls []) := by
    intro kf1
    induction kf1 with
    | zero => intro H locs ls x1_1 a_number_1 hl ⟨hP, hD⟩ hS hok; rw [p_Signs_takeInteger_10] at hok; cases hok
    | succ kf1 ih1 =>
      intro H locs ls x1_1 a_number_1 hl ⟨hP, hD⟩ hS hok
      rw [p_Signs_takeInteger_10] at hok
      refine lv_iload_n hx hb d_Signs_takeInteger_10 rfl (lv_at hl 0 rfl) ?_
      refine lv_aload_n hx hb d_Signs_takeInteger_11 rfl (lv_at hl 1 rfl) ?_
      refine va_get (D := g) (ci := 6) (v := .ref a_tape) (C := R_Signs) (T := F_Signs) (N := 8) hx hb hg ul_Signs hown hK hP 0 rfl rfl 0 (by decide) (hg _ wd_447) (fun _ h9 => h9) rfl d_Signs_takeInteger_12 ?_
      obtain ⟨r2, hc2, hok⟩ := bd_some hok
      obtain ⟨hPc, hDc, hFc⟩ := cut0 (wc := [(a_tape, .inr (0, [.ref a_tape_items, .int a_tape_size]))]) hP hD hS hA [1] (by decide) rfl
      refine va_calli (va_runV (As := []) (rest := [.int x1_1]) ⟨hx, hb, hml, hown, hg⟩ (c_Bytes_size l g cs ka a_tape_items a_tape H.size a_tape_size r2 hc2) (cwV (C := R_Bytes) 0 hg (gw_V wd_451 wd_452 wd_453 wd_450 wd_449) rfl rfl rfl (by decide +kernel) ⟨Nat.le_of_ble_eq_true rfl, Nat.le_of_ble_eq_true rfl⟩) ⟨gP_blind, va_recv (q0 := 1) (ci := 0) (q := (R_Bytes, F_Bytes, 2)) hK hP rfl rfl, gP_pre hPc hDc hK hgl hkn hkr hS hFc⟩ rfl rfl hl.1 rfl (lv_room (Nat.le_of_ble_eq_true rfl)) d_Signs_takeInteger_15 ⟨Nat.le_of_ble_eq_true rfl, Nat.le_of_ble_eq_true rfl⟩) hS (fun q _ h => hFc q h) hFc (fun r2' u t H locs ht hvm hr2 hB hz1 hk1 hS => ?_)
      subst hr2
      rw [ht] at hB
      obtain ⟨hP1, hD1⟩ := hB
      obtain ⟨hP, hD⟩ := jn_A hP hD [1] [0, 2] rfl rfl (by decide) (by decide) hk1 hFc hP1 hD1
      obtain ⟨hP, hD⟩ : PD g A H [(a, .inr (6, [.ref a_tape, .ref a_names, .int a_kind, .int a_place, .int a_behind, .int a_passed, .int a_name, .long a_number_1])), (a_tape_items, .inl (cs 1, a_tape_items_n, .inl a_tape_items_f)), (a_tape, .inr (0, [.ref a_tape_items, .int a_tape_size]))] := ⟨hP, hD⟩
      refine lv_icmp_ge hx hb d_Signs_takeInteger_18 rfl (fun h3 => ?_) (fun h3 => ?_)
      · rw [if_pos h3] at hok
        refine lv_aload_n hx hb d_Signs_takeInteger_73 rfl (lv_at hl 1 rfl) ?_
        refine lv_aload_n hx hb d_Signs_takeInteger_74 rfl (lv_at hl 1 rfl) ?_
        refine va_get (D := g) (ci := 6) (v := .long a_number_1) (C := R_Signs) (T := F_Signs) (N := 8) hx hb hg ul_Signs hown hK hP 0 rfl rfl 7 (by decide) (hg _ wd_446) (fun _ h9 => h9) rfl d_Signs_takeInteger_75 ?_
        refine lv_ldc2 hx hb hown (hg _ wd_480) d_Signs_takeInteger_78 ?_
        refine W.lcmp hx hb d_Signs_takeInteger_81 ?_
        refine lv_if_le hx hb d_Signs_takeInteger_82 rfl (fun h4 => ?_) (fun h4 => ?_)
        · rw [if_pos h4] at hok
          refine lv_iconst (v := 2) hx hb d_Signs_takeInteger_90 (by decide) ?_
          refine lv_iload_n hx hb d_Signs_takeInteger_91 rfl (lv_at hl 0 rfl) ?_
          obtain ⟨⟨a_kind_5, a_behind_5⟩, hc5, hok⟩ := bd_some hok
          dsimp only at hok
          obtain ⟨hPc, hDc, hFc⟩ := cut0 (wc := [(a, .inr (6, [.ref a_tape, .ref a_names, .int a_kind, .int a_place, .int a_behind, .int a_passed, .int a_name, .long a_number_1]))]) hP hD hS hA [0] (by decide) rfl
          refine va_callv (va_runV (As := [.int 2, .int x1_1]) (rest := []) ⟨hx, hb, hml, hown, hg⟩ (c_Signs_takeTo l g cs ka a_tape a_names a H.size (2 : Int32) x1_1 a_kind a_place a_behind a_passed a_name a_number_1 a_kind_5 a_behind_5 hc5) (cwV (C := R_Signs) 2 hg (gw_V wd_468 wd_469 wd_470 wd_467 wd_466) rfl rfl rfl (by decide +kernel) ⟨Nat.le_of_ble_eq_true rfl, Nat.le_of_ble_eq_true rfl⟩) ⟨gP_blind, va_recv (q0 := 0) (ci := 6) (q := (R_Signs, F_Signs, 8)) hK hP rfl rfl, gP_pre hPc hDc hK hgl hkn hkr hS hFc⟩ rfl rfl hl.1 rfl (lv_room (Nat.le_of_ble_eq_true rfl)) d_Signs_takeInteger_92 ⟨Nat.le_of_ble_eq_true rfl, Nat.le_of_ble_eq_true rfl⟩) hS (fun q _ h => hFc q h) hFc (fun u t H locs ht hvm hr5 hB hz1 hk1 hS => ?_)
          rw [ht] at hB
          obtain ⟨hP1, hD1⟩ := hB
          obtain ⟨hP, hD⟩ := jn_A hP hD [0] [1, 2] rfl rfl (by decide) (by decide) hk1 hFc hP1 hD1
          obtain ⟨hP, hD⟩ : PD g A H [(a_tape_items, .inl (cs 1, a_tape_items_n, .inl a_tape_items_f)), (a_tape, .inr (0, [.ref a_tape_items, .int a_tape_size])), (a, .inr (6, [.ref a_tape, .ref a_names, .int a_kind_5, .int a_place, .int a_behind_5, .int a_passed, .int a_name, .long a_number_1]))] := ⟨hP, hD⟩
          have hq := Option.some.inj hok
          obtain ⟨hq0, hq⟩ := Prod.mk.inj hq
          obtain ⟨hq1, hq⟩ := Prod.mk.inj hq
          have hq2 := hq
          subst hq0
          subst hq1
          subst hq2
          obtain ⟨hP9, hD9⟩ := sub2 (ws' := [(a, .inr (6, [.ref a_tape, .ref a_names, .int a_kind_5, .int a_place, .int a_behind_5, .int a_passed, .int a_name, .long a_number_1])), (a_tape, .inr (0, [.ref a_tape_items, .int a_tape_size])), (a_tape_items, .inl (cs 1, a_tape_items_n, .inl a_tape_items_f))]) hP hD [2, 1, 0] rfl (by decide) rfl
          rw [hQ]
          exact W.vret hx hb hr (fun t ht hW => ⟨⟨(), rfl, trivial, by rw [ht]; exact hP9, hD9⟩, hS.F ht⟩) hS.2.2 d_Signs_takeInteger_95
        · rw [if_neg h4] at hok
          refine lv_bipush (v := 6) hx hb d_Signs_takeInteger_85 (by decide) ?_
          refine lv_goto hx hb d_Signs_takeInteger_87 rfl ?_
          refine lv_iload_n hx hb d_Signs_takeInteger_91 rfl (lv_at hl 0 rfl) ?_
          obtain ⟨⟨a_kind_6, a_behind_6⟩, hc6, hok⟩ := bd_some hok
          dsimp only at hok
          obtain ⟨hPc, hDc, hFc⟩ := cut0 (wc := [(a, .inr (6, [.ref a_tape, .ref a_names, .int a_kind, .int a_place, .int a_behind, .int a_passed, .int a_name, .long a_number_1]))]) hP hD hS hA [0] (by decide) rfl
          refine va_callv (va_runV (As := [.int 6, .int x1_1]) (rest := []) ⟨hx, hb, hml, hown, hg⟩ (c_Signs_takeTo l g cs ka a_tape a_names a H.size (6 : Int32) x1_1 a_kind a_place a_behind a_passed a_name a_number_1 a_kind_6 a_behind_6 hc6) (cwV (C := R_Signs) 2 hg (gw_V wd_468 wd_469 wd_470 wd_467 wd_466) rfl rfl rfl (by decide +kernel) ⟨Nat.le_of_ble_eq_true rfl, Nat.le_of_ble_eq_true rfl⟩) ⟨gP_blind, va_recv (q0 := 0) (ci := 6) (q := (R_Signs, F_Signs, 8)) hK hP rfl rfl, gP_pre hPc hDc hK hgl hkn hkr hS hFc⟩ rfl rfl hl.1 rfl (lv_room (Nat.le_of_ble_eq_true rfl)) d_Signs_takeInteger_92 ⟨Nat.le_of_ble_eq_true rfl, Nat.le_of_ble_eq_true rfl⟩) hS (fun q _ h => hFc q h) hFc (fun u t H locs ht hvm hr6 hB hz1 hk1 hS => ?_)
          rw [ht] at hB
          obtain ⟨hP1, hD1⟩ := hB
          obtain ⟨hP, hD⟩ := jn_A hP hD [0] [1, 2] rfl rfl (by decide) (by decide) hk1 hFc hP1 hD1
          obtain ⟨hP, hD⟩ : PD g A H [(a_tape_items, .inl (cs 1, a_tape_items_n, .inl a_tape_items_f)), (a_tape, .inr (0, [.ref a_tape_items, .int a_tape_size])), (a, .inr (6, [.ref a_tape, .ref a_names, .int a_kind_6, .int a_place, .int a_behind_6, .int a_passed, .int a_name, .long a_number_1]))] := ⟨hP, hD⟩
          have hq := Option.some.inj hok
          obtain ⟨hq0, hq⟩ := Prod.mk.inj hq
          obtain ⟨hq1, hq⟩ := Prod.mk.inj hq
          have hq2 := hq
          subst hq0
          subst hq1
          subst hq2
          obtain ⟨hP9, hD9⟩ := sub2 (ws' := [(a, .inr (6, [.ref a_tape, .ref a_names, .int a_kind_6, .int a_place, .int a_behind_6, .int a_passed, .int a_name, .long a_number_1])), (a_tape, .inr (0, [.ref a_tape_items, .int a_tape_size])), (a_tape_items, .inl (cs 1, a_tape_items_n, .inl a_tape_items_f))]) hP hD [2, 1, 0] rfl (by decide) rfl
          rw [hQ]
          exact W.vret hx hb hr (fun t ht hW => ⟨⟨(), rfl, trivial, by rw [ht]; exact hP9, hD9⟩, hS.F ht⟩) hS.2.2 d_Signs_takeInteger_95
      · rw [if_neg h3] at hok
        refine lv_aload_n hx hb d_Signs_takeInteger_21 rfl (lv_at hl 1 rfl) ?_
        refine va_get (D := g) (ci := 6) (v := .ref a_tape) (C := R_Signs) (T := F_Signs) (N := 8) hx hb hg ul_Signs hown hK hP 0 rfl rfl 0 (by decide) (hg _ wd_447) (fun _ h9 => h9) rfl d_Signs_takeInteger_22 ?_
        refine lv_iload_n hx hb d_Signs_takeInteger_25 rfl (lv_at hl 0 rfl) ?_
        obtain ⟨r7, hc7, hok⟩ := bd_some hok
        obtain ⟨hPc, hDc, hFc⟩ := cut0 (wc := [(a_tape, .inr (0, [.ref a_tape_items, .int a_tape_size])), (a_tape_items, .inl (cs 1, a_tape_items_n, .inl a_tape_items_f))]) hP hD hS hA [2, 1] (by decide) rfl
        refine va_calli (va_runV (As := [.int x1_1]) (rest := []) ⟨hx, hb, hml, hown, hg⟩ (c_Bytes_at l g cs ka a_tape a_tape_items H.size x1_1 a_tape_size a_tape_items_n a_tape_items_f r7 hc7) (cwV (C := R_Bytes) 1 hg (gw_V wd_455 wd_456 wd_457 wd_450 wd_454) rfl rfl rfl (by decide +kernel) ⟨Nat.le_of_ble_eq_true rfl, Nat.le_of_ble_eq_true rfl⟩) ⟨gP_blind, va_recv (q0 := 2) (ci := 0) (q := (R_Bytes, F_Bytes, 2)) hK hP rfl rfl, gP_pre hPc hDc hK hgl hkn hkr hS hFc⟩ rfl rfl hl.1 rfl (lv_room (Nat.le_of_ble_eq_true rfl)) d_Signs_takeInteger_26 ⟨Nat.le_of_ble_eq_true rfl, Nat.le_of_ble_eq_true rfl⟩) hS (fun q _ h => hFc q h) hFc (fun r7' u t H locs ht hvm hr7 hB hz1 hk1 hS => ?_)
        subst hr7
        rw [ht] at hB
        obtain ⟨hP1, hD1⟩ := hB
        obtain ⟨hP, hD⟩ := jn_A hP hD [2, 1] [0] rfl rfl (by decide) (by decide) hk1 hFc hP1 hD1
        obtain ⟨hP, hD⟩ : PD g A H [(a, .inr (6, [.ref a_tape, .ref a_names, .int a_kind, .int a_place, .int a_behind, .int a_passed, .int a_name, .long a_number_1])), (a_tape, .inr (0, [.ref a_tape_items, .int a_tape_size])), (a_tape_items, .inl (cs 1, a_tape_items_n, .inl a_tape_items_f))] := ⟨hP, hD⟩
        obtain ⟨r8, hc8, hok⟩ := bd_some hok
        obtain ⟨hPc, hDc, hFc⟩ := cut0 (wc := []) hP hD hS hA [] (by decide) rfl
        refine va_calli (va_runS (As := [.int r7]) (rest := []) ⟨hx, hb, hml, hown, hg⟩ (c_Letters_isDigit l g cs ka H.size r7 r8 hc8) (va_cwS 1 hg (gw_S wd_481 wd_225 wd_217 wd_223) rfl rfl rfl (by decide +kernel) ⟨Nat.le_of_ble_eq_true rfl, Nat.le_of_ble_eq_true rfl⟩) ⟨gP_blind, gP_pre hPc hDc hK hgl hkn hkr hS hFc⟩ rfl rfl hl.1 rfl (lv_room (Nat.le_of_ble_eq_true rfl)) d_Signs_takeInteger_29 ⟨Nat.le_of_ble_eq_true rfl, Nat.le_of_ble_eq_true rfl⟩) hS (fun q _ h => hFc q h) hFc (fun r8' u t H locs ht hvm hr8 hB hz1 hk1 hS => ?_)
        subst hr8
        rw [ht] at hB
        obtain ⟨hP1, hD1⟩ := hB
        obtain ⟨hP, hD⟩ := jn_A hP hD [] [0, 1, 2] rfl rfl (by decide) (by decide) hk1 hFc hP1 hD1
        obtain ⟨hP, hD⟩ : PD g A H [(a, .inr (6, [.ref a_tape, .ref a_names, .int a_kind, .int a_place, .int a_behind, .int a_passed, .int a_name, .long a_number_1])), (a_tape, .inr (0, [.ref a_tape_items, .int a_tape_size])), (a_tape_items, .inl (cs 1, a_tape_items_n, .inl a_tape_items_f))] := ⟨hP, hD⟩
        refine lv_if_eq hx hb d_Signs_takeInteger_32 rfl (fun h9 => ?_) (fun h9 => ?_)
        · rw [if_pos h9] at hok
          refine lv_aload_n hx hb d_Signs_takeInteger_73 rfl (lv_at hl 1 rfl) ?_
          refine lv_aload_n hx hb d_Signs_takeInteger_74 rfl (lv_at hl 1 rfl) ?_
          refine va_get (D := g) (ci := 6) (v := .long a_number_1) (C := R_Signs) (T := F_Signs) (N := 8) hx hb hg ul_Signs hown hK hP 0 rfl rfl 7 (by decide) (hg _ wd_446) (fun _ h9 => h9) rfl d_Signs_takeInteger_75 ?_
          refine lv_ldc2 hx hb hown (hg _ wd_480) d_Signs_takeInteger_78 ?_
          refine W.lcmp hx hb d_Signs_takeInteger_81 ?_
          refine lv_if_le hx hb d_Signs_takeInteger_82 rfl (fun h10 => ?_) (fun h10 => ?_)
          · rw [if_pos h10] at hok
            refine lv_iconst (v := 2) hx hb d_Signs_takeInteger_90 (by decide) ?_
            refine lv_iload_n hx hb d_Signs_takeInteger_91 rfl (lv_at hl 0 rfl) ?_
            obtain ⟨⟨a_kind_11, a_behind_11⟩, hc11, hok⟩ := bd_some hok
            dsimp only at hok
            obtain ⟨hPc, hDc, hFc⟩ := cut0 (wc := [(a, .inr (6, [.ref a_tape, .ref a_names, .int a_kind, .int a_place, .int a_behind, .int a_passed, .int a_name, .long a_number_1]))]) hP hD hS hA [0] (by decide) rfl
            refine va_callv (va_runV (As := [.int 2, .int x1_1]) (rest := []) ⟨hx, hb, hml, hown, hg⟩ (c_Signs_takeTo l g cs ka a_tape a_names a H.size (2 : Int32) x1_1 a_kind a_place a_behind a_passed a_name a_number_1 a_kind_11 a_behind_11 hc11) (cwV (C := R_Signs) 2 hg (gw_V wd_468 wd_469 wd_470 wd_467 wd_466) rfl rfl rfl (by decide +kernel) ⟨Nat.le_of_ble_eq_true rfl, Nat.le_of_ble_eq_true rfl⟩) ⟨gP_blind, va_recv (q0 := 0) (ci := 6) (q := (R_Signs, F_Signs, 8)) hK hP rfl rfl, gP_pre hPc hDc hK hgl hkn hkr hS hFc⟩ rfl rfl hl.1 rfl (lv_room (Nat.le_of_ble_eq_true rfl)) d_Signs_takeInteger_92 ⟨Nat.le_of_ble_eq_true rfl, Nat.le_of_ble_eq_true rfl⟩) hS (fun q _ h => hFc q h) hFc (fun u t H locs ht hvm hr11 hB hz1 hk1 hS => ?_)
            rw [ht] at hB
            obtain ⟨hP1, hD1⟩ := hB
            obtain ⟨hP, hD⟩ := jn_A hP hD [0] [1, 2] rfl rfl (by decide) (by decide) hk1 hFc hP1 hD1
            obtain ⟨hP, hD⟩ : PD g A H [(a_tape, .inr (0, [.ref a_tape_items, .int a_tape_size])), (a_tape_items, .inl (cs 1, a_tape_items_n, .inl a_tape_items_f)), (a, .inr (6, [.ref a_tape, .ref a_names, .int a_kind_11, .int a_place, .int a_behind_11, .int a_passed, .int a_name, .long a_number_1]))] := ⟨hP, hD⟩
            have hq := Option.some.inj hok
            obtain ⟨hq0, hq⟩ := Prod.mk.inj hq
            obtain ⟨hq1, hq⟩ := Prod.mk.inj hq
            have hq2 := hq
            subst hq0
            subst hq1
            subst hq2
            obtain ⟨hP9, hD9⟩ := sub2 (ws' := [(a, .inr (6, [.ref a_tape, .ref a_names, .int a_kind_11, .int a_place, .int a_behind_11, .int a_passed, .int a_name, .long a_number_1])), (a_tape, .inr (0, [.ref a_tape_items, .int a_tape_size])), (a_tape_items, .inl (cs 1, a_tape_items_n, .inl a_tape_items_f))]) hP hD [2, 0, 1] rfl (by decide) rfl
            rw [hQ]
            exact W.vret hx hb hr (fun t ht hW => ⟨⟨(), rfl, trivial, by rw [ht]; exact hP9, hD9⟩, hS.F ht⟩) hS.2.2 d_Signs_takeInteger_95
          · rw [if_neg h10] at hok
            refine lv_bipush (v := 6) hx hb d_Signs_takeInteger_85 (by decide) ?_
            refine lv_goto hx hb d_Signs_takeInteger_87 rfl ?_
            refine lv_iload_n hx hb d_Signs_takeInteger_91 rfl (lv_at hl 0 rfl) ?_
            obtain ⟨⟨a_kind_12, a_behind_12⟩, hc12, hok⟩ := bd_some hok
            dsimp only at hok
            obtain ⟨hPc, hDc, hFc⟩ := cut0 (wc := [(a, .inr (6, [.ref a_tape, .ref a_names, .int a_kind, .int a_place, .int a_behind, .int a_passed, .int a_name, .long a_number_1]))]) hP hD hS hA [0] (by decide) rfl
            refine va_callv (va_runV (As := [.int 6, .int x1_1]) (rest := []) ⟨hx, hb, hml, hown, hg⟩ (c_Signs_takeTo l g cs ka a_tape a_names a H.size (6 : Int32) x1_1 a_kind a_place a_behind a_passed a_name a_number_1 a_kind_12 a_behind_12 hc12) (cwV (C := R_Signs) 2 hg (gw_V wd_468 wd_469 wd_470 wd_467 wd_466) rfl rfl rfl (by decide +kernel) ⟨Nat.le_of_ble_eq_true rfl, Nat.le_of_ble_eq_true rfl⟩) ⟨gP_blind, va_recv (q0 := 0) (ci := 6) (q := (R_Signs, F_Signs, 8)) hK hP rfl rfl, gP_pre hPc hDc hK hgl hkn hkr hS hFc⟩ rfl rfl hl.1 rfl (lv_room (Nat.le_of_ble_eq_true rfl)) d_Signs_takeInteger_92 ⟨Nat.le_of_ble_eq_true rfl, Nat.le_of_ble_eq_true rfl⟩) hS (fun q _ h => hFc q h) hFc (fun u t H locs ht hvm hr12 hB hz1 hk1 hS => ?_)
            rw [ht] at hB
            obtain ⟨hP1, hD1⟩ := hB
            obtain ⟨hP, hD⟩ := jn_A hP hD [0] [1, 2] rfl rfl (by decide) (by decide) hk1 hFc hP1 hD1
            obtain ⟨hP, hD⟩ : PD g A H [(a_tape, .inr (0, [.ref a_tape_items, .int a_tape_size])), (a_tape_items, .inl (cs 1, a_tape_items_n, .inl a_tape_items_f)), (a, .inr (6, [.ref a_tape, .ref a_names, .int a_kind_12, .int a_place, .int a_behind_12, .int a_passed, .int a_name, .long a_number_1]))] := ⟨hP, hD⟩
            have hq := Option.some.inj hok
            obtain ⟨hq0, hq⟩ := Prod.mk.inj hq
            obtain ⟨hq1, hq⟩ := Prod.mk.inj hq
            have hq2 := hq
            subst hq0
            subst hq1
            subst hq2
            obtain ⟨hP9, hD9⟩ := sub2 (ws' := [(a, .inr (6, [.ref a_tape, .ref a_names, .int a_kind_12, .int a_place, .int a_behind_12, .int a_passed, .int a_name, .long a_number_1])), (a_tape, .inr (0, [.ref a_tape_items, .int a_tape_size])), (a_tape_items, .inl (cs 1, a_tape_items_n, .inl a_tape_items_f))]) hP hD [2, 0, 1] rfl (by decide) rfl
            rw [hQ]
            exact W.vret hx hb hr (fun t ht hW => ⟨⟨(), rfl, trivial, by rw [ht]; exact hP9, hD9⟩, hS.F ht⟩) hS.2.2 d_Signs_takeInteger_95
        · rw [if_neg h9] at hok
          refine lv_aload_n hx hb d_Signs_takeInteger_35 rfl (lv_at hl 1 rfl) ?_
          refine lv_aload_n hx hb d_Signs_takeInteger_36 rfl (lv_at hl 1 rfl) ?_
          refine va_get (D := g) (ci := 6) (v := .long a_number_1) (C := R_Signs) (T := F_Signs) (N := 8) hx hb hg ul_Signs hown hK hP 0 rfl rfl 7 (by decide) (hg _ wd_446) (fun _ h9 => h9) rfl d_Signs_takeInteger_37 ?_
          refine lv_ldc2 hx hb hown (hg _ wd_482) d_Signs_takeInteger_40 ?_
          refine lv_lmul hx hb d_Signs_takeInteger_43 ?_
          refine lv_aload_n hx hb d_Signs_takeInteger_44 rfl (lv_at hl 1 rfl) ?_
          refine va_get (D := g) (ci := 6) (v := .ref a_tape) (C := R_Signs) (T := F_Signs) (N := 8) hx hb hg ul_Signs hown hK hP 0 rfl rfl 0 (by decide) (hg _ wd_447) (fun _ h9 => h9) rfl d_Signs_takeInteger_45 ?_
          refine lv_iload_n hx hb d_Signs_takeInteger_48 rfl (lv_at hl 0 rfl) ?_
          obtain ⟨r13, hc13, hok⟩ := bd_some hok
          obtain ⟨hPc, hDc, hFc⟩ := cut0 (wc := [(a_tape, .inr (0, [.ref a_tape_items, .int a_tape_size])), (a_tape_items, .inl (cs 1, a_tape_items_n, .inl a_tape_items_f))]) hP hD hS hA [1, 2] (by decide) rfl
          refine va_calli (va_runV (As := [.int x1_1]) (rest := [.long (a_number_1 * 10), .ref a]) ⟨hx, hb, hml, hown, hg⟩ (c_Bytes_at l g cs ka a_tape a_tape_items H.size x1_1 a_tape_size a_tape_items_n a_tape_items_f r13 hc13) (cwV (C := R_Bytes) 1 hg (gw_V wd_455 wd_456 wd_457 wd_450 wd_454) rfl rfl rfl (by decide +kernel) ⟨Nat.le_of_ble_eq_true rfl, Nat.le_of_ble_eq_true rfl⟩) ⟨gP_blind, va_recv (q0 := 1) (ci := 0) (q := (R_Bytes, F_Bytes, 2)) hK hP rfl rfl, gP_pre hPc hDc hK hgl hkn hkr hS hFc⟩ rfl rfl hl.1 rfl (lv_room (Nat.le_of_ble_eq_true rfl)) d_Signs_takeInteger_49 ⟨Nat.le_of_ble_eq_true rfl, Nat.le_of_ble_eq_true rfl⟩) hS (fun q _ h => hFc q h) hFc (fun r13' u t H locs ht hvm hr13 hB hz1 hk1 hS => ?_)
          subst hr13
          rw [ht] at hB
          obtain ⟨hP1, hD1⟩ := hB
          obtain ⟨hP, hD⟩ := jn_A hP hD [1, 2] [0] rfl rfl (by decide) (by decide) hk1 hFc hP1 hD1
          obtain ⟨hP, hD⟩ : PD g A H [(a, .inr (6, [.ref a_tape, .ref a_names, .int a_kind, .int a_place, .int a_behind, .int a_passed, .int a_name, .long a_number_1])), (a_tape, .inr (0, [.ref a_tape_items, .int a_tape_size])), (a_tape_items, .inl (cs 1, a_tape_items_n, .inl a_tape_items_f))] := ⟨hP, hD⟩
          refine lv_i2l hx hb d_Signs_takeInteger_52 rfl ?_
          refine lv_ladd hx hb d_Signs_takeInteger_53 ?_
          refine lv_ldc2 hx hb hown (hg _ wd_483) d_Signs_takeInteger_54 ?_
          refine lv_lsub hx hb d_Signs_takeInteger_57 ?_
          refine lv_ldc2 hx hb hown (hg _ wd_484) d_Signs_takeInteger_58 ?_
          refine va_mmin_long hx hb (hml.trans hl.1.symm) hown (hg _ wd_485) (hg _ wd_486) (hg _ wd_145) (hg _ wd_487) (Nat.le_of_ble_eq_true rfl) (Nat.le_of_ble_eq_true rfl) (Nat.le_of_ble_eq_true rfl) (Nat.le_of_ble_eq_true rfl) d_Signs_takeInteger_61 ?_
          refine va_put (D := g) (ci := 6) (v := .long (if 9007199254740992 < (((a_number_1 * 10) + r13.toInt64) - 48) then 9007199254740992 else (((a_number_1 * 10) + r13.toInt64) - 48))) (ty := .long) (C := R_Signs) (T := F_Signs) (N := 8) hx hb hg ul_Signs t_Signs tk_Signs n_Signs hown hK hP hD hS 0 rfl rfl 7 (by decide) (hg _ wd_446) (fun _ h9 => h9) rfl (by decide +kernel) rfl rfl (Nat.le_of_ble_eq_true rfl) d_Signs_takeInteger_64 (fun H locs hP hD hS => ?_)
          obtain ⟨hP, hD⟩ : PD g A H [(a, .inr (6, [.ref a_tape, .ref a_names, .int a_kind, .int a_place, .int a_behind, .int a_passed, .int a_name, .long (if 9007199254740992 < (((a_number_1 * 10) + r13.toInt64) - 48) then 9007199254740992 else (((a_number_1 * 10) + r13.toInt64) - 48))])), (a_tape, .inr (0, [.ref a_tape_items, .int a_tape_size])), (a_tape_items, .inl (cs 1, a_tape_items_n, .inl a_tape_items_f))] := ⟨hP, hD⟩
          refine lv_iinc (k := 0) (v := x1_1 + 1) hx hb d_Signs_takeInteger_67 hl rfl rfl (by decide) rfl (fun ls hl => ?_)
          have hl : lv_has ls 2 [(1, .int (x1_1 + 1)), (0, .ref a)] := hl
          refine lv_goto hx hb d_Signs_takeInteger_70 rfl ?_
          exact ih1 _ _ _ (x1_1 + 1) (if 9007199254740992 < (((a_number_1 * 10) + r13.toInt64) - 48) then 9007199254740992 else (((a_number_1 * 10) + r13.toInt64) - 48)) (lv_sub hl [0, 1] rfl) (sub3 hP hD [0, 1, 2] (by decide)) hS hok
  exact J1 n H locs ls a_place (0 : Int64) hl ⟨hP, hD⟩ hS hok

theorem d_Signs_isBehindEnd_0 : decode b_Signs_isBehindEnd 0 = .ok (.iload_n 1, 1) := by decide +kernel
theorem d_Signs_isBehindEnd_1 : decode b_Signs_isBehindEnd 1 = .ok (.aload_n 0, 1) := by decide +kernel
theorem d_Signs_isBehindEnd_2 : decode b_Signs_isBehindEnd 2 = .ok (.getfield 30, 3) := by decide +kernel
theorem d_Signs_isBehindEnd_5 : decode b_Signs_isBehindEnd 5 = .ok (.invokevirtual 47, 3) := by decide +kernel
theorem d_Signs_isBehindEnd_8 : decode b_Signs_isBehindEnd 8 = .ok (.if_icmp .ge 30, 3) := by decide +kernel
theorem d_Signs_isBehindEnd_11 : decode b_Signs_isBehindEnd 11 = .ok (.aload_n 0, 1) := by decide +kernel
theorem d_Signs_isBehindEnd_12 : decode b_Signs_isBehindEnd 12 = .ok (.getfield 30, 3) := by decide +kernel
theorem d_Signs_isBehindEnd_15 : decode b_Signs_isBehindEnd 15 = .ok (.iload_n 1, 1) := by decide +kernel
theorem d_Signs_isBehindEnd_16 : decode b_Signs_isBehindEnd 16 = .ok (.invokevirtual 42, 3) := by decide +kernel
theorem d_Signs_isBehindEnd_19 : decode b_Signs_isBehindEnd 19 = .ok (.invokestatic 92, 3) := by decide +kernel
theorem d_Signs_isBehindEnd_22 : decode b_Signs_isBehindEnd 22 = .ok (.ifCond .ne 16, 3) := by decide +kernel
theorem d_Signs_isBehindEnd_25 : decode b_Signs_isBehindEnd 25 = .ok (.aload_n 0, 1) := by decide +kernel
theorem d_Signs_isBehindEnd_26 : decode b_Signs_isBehindEnd 26 = .ok (.getfield 30, 3) := by decide +kernel
theorem d_Signs_isBehindEnd_29 : decode b_Signs_isBehindEnd 29 = .ok (.iload_n 1, 1) := by decide +kernel
theorem d_Signs_isBehindEnd_30 : decode b_Signs_isBehindEnd 30 = .ok (.invokevirtual 42, 3) := by decide +kernel
theorem d_Signs_isBehindEnd_33 : decode b_Signs_isBehindEnd 33 = .ok (.bipush 37, 2) := by decide +kernel
theorem d_Signs_isBehindEnd_35 : decode b_Signs_isBehindEnd 35 = .ok (.if_icmp .ne 7, 3) := by decide +kernel
theorem d_Signs_isBehindEnd_38 : decode b_Signs_isBehindEnd 38 = .ok (.iconst 1, 1) := by decide +kernel
theorem d_Signs_isBehindEnd_39 : decode b_Signs_isBehindEnd 39 = .ok (.goto 4, 3) := by decide +kernel
theorem d_Signs_isBehindEnd_42 : decode b_Signs_isBehindEnd 42 = .ok (.iconst 0, 1) := by decide +kernel
theorem d_Signs_isBehindEnd_43 : decode b_Signs_isBehindEnd 43 = .ok (.ireturn, 1) := by decide +kernel
def p_Signs_isBehindEnd (i : Int32) (a_kind : Int32) (a_place : Int32) (a_behind : Int32) (a_passed : Int32) (a_name : Int32) (a_number : Int64) (a_tape_size : Int32) (a_tape_items_n : Nat) (a_tape_items_f : Nat → Int32) : Option Int32 := (p_Bytes_size a_tape_size).bind (fun r1 => if r1 ≤ i then (some (1 : Int32)) else ((p_Bytes_at i a_tape_size a_tape_items_n a_tape_items_f).bind (fun r3 => (p_Letters_isBlank r3).bind (fun r4 => if r4 = 0 then ((p_Bytes_at i a_tape_size a_tape_items_n a_tape_items_f).bind (fun r6 => if r6 = 37 then (some (1 : Int32)) else (some (0 : Int32)))) else (some (1 : Int32))))))
set_option maxHeartbeats 4000000 in
set_option maxRecDepth 100000 in
theorem c_Signs_isBehindEnd (l : Launch) (g : va_G) (cs : Nat → ClassId) (ka : Nat → Nat) (a_names : Nat) (a a_tape a_tape_items : Nat) (sz : Nat) (i : Int32) (a_kind : Int32) (a_place : Int32) (a_behind : Int32) (a_passed : Int32) (a_name : Int32) (a_number : Int64) (a_tape_size : Int32) (a_tape_items_n : Nat) (a_tape_items_f : Nat → Int32) (r : Int32) (hok : p_Signs_isBehindEnd i a_kind a_place a_behind a_passed a_name a_number a_tape_size a_tape_items_n a_tape_items_f = some r) : Met l y_Signs_isBehindEnd (.code y_Signs_isBehindEnd b_Signs_isBehindEnd 2 (some .boolean) :: GW) { frames := 1, cells := 0, slots := 0, locals := 21 } (va_Pc [.ref a, .int i] (gP g cs ka [(a, .inr (6, [.ref a_tape, .ref a_names, .int a_kind, .int a_place, .int a_behind, .int a_passed, .int a_name, .long a_number])), (a_tape, .inr (0, [.ref a_tape_items, .int a_tape_size])), (a_tape_items, .inl (cs 1, a_tape_items_n, .inl a_tape_items_f))] sz)) (va_Qi (fun (r' : Int32) (_ : Unit) => r = r') (fun _ t => va_P g classes [(a, .inr (6, [.ref a_tape, .ref a_names, .int a_kind, .int a_place, .int a_behind, .int a_passed, .int a_name, .long a_number])), (a_tape, .inr (0, [.ref a_tape_items, .int a_tape_size])), (a_tape_items, .inl (cs 1, a_tape_items_n, .inl a_tape_items_f))] t.heap ∧ va_D (va_A [(a, .inr (6, [.ref a_tape, .ref a_names, .int a_kind, .int a_place, .int a_behind, .int a_passed, .int a_name, .long a_number])), (a_tape, .inr (0, [.ref a_tape_items, .int a_tape_size])), (a_tape_items, .inl (cs 1, a_tape_items_n, .inl a_tape_items_f))] sz) [(a, .inr (6, [.ref a_tape, .ref a_names, .int a_kind, .int a_place, .int a_behind, .int a_passed, .int a_name, .long a_number])), (a_tape, .inr (0, [.ref a_tape_items, .int a_tape_size])), (a_tape_items, .inl (cs 1, a_tape_items_n, .inl a_tape_items_f))]) (va_A [(a, .inr (6, [.ref a_tape, .ref a_names, .int a_kind, .int a_place, .int a_behind, .int a_passed, .int a_name, .long a_number])), (a_tape, .inr (0, [.ref a_tape_items, .int a_tape_size])), (a_tape_items, .inl (cs 1, a_tape_items_n, .inl a_tape_items_f))] sz)) 0 0 (va_A [(a, .inr (6, [.ref a_tape, .ref a_names, .int a_kind, .int a_place, .int a_behind, .int a_passed, .int a_name, .long a_number])), (a_tape, .inr (0, [.ref a_tape_items, .int a_tape_size])), (a_tape_items, .inl (cs 1, a_tape_items_n, .inl a_tape_items_f))] sz) := by
  refine Met.ofW (cc := b_Signs_isBehindEnd) (maxL := 2) (ret := (some .boolean)) (by decide) rfl ?_
  intro p e s m args below meth c s₁ B hml hv
  obtain ⟨rfl, hsz, hP, hK, hD0, hgl, hkn, hkr⟩ := hv
  have hx := B.exec
  have hb := B.bytes
  have hr := B.returns
  have hg : ∀ w ∈ GW, w.before ([.ref a, .int i] : List Value).toArray s = true := fun w hw => atoms_spec (ws := .code y_Signs_isBehindEnd b_Signs_isBehindEnd 2 (some .boolean) :: GW) B.pre w (List.mem_cons_of_mem _ hw)
  have hown : s.vm.findClass R_Signs = some m.cls := findClass_of_methodNamed B.named
  have hlocks := B.notSynchronized
  subst hsz
  have hD := hD0.self (sz := s.heap.size)
  generalize hAe : va_A [(a, .inr (6, [.ref a_tape, .ref a_names, .int a_kind, .int a_place, .int a_behind, .int a_passed, .int a_name, .long a_number])), (a_tape, .inr (0, [.ref a_tape_items, .int a_tape_size])), (a_tape_items, .inl (cs 1, a_tape_items_n, .inl a_tape_items_f))] s.heap.size = A at hD hkn ⊢
  have hA : ∀ q : Nat, s.heap.size ≤ q → A q := fun q h => by rw [← hAe]; exact Or.inr h
  have hS : va_S A s.heap s.heap [] := va_S.rf
  have hP : va_P g classes [(a, .inr (6, [.ref a_tape, .ref a_names, .int a_kind, .int a_place, .int a_behind, .int a_passed, .int a_name, .long a_number])), (a_tape, .inr (0, [.ref a_tape_items, .int a_tape_size])), (a_tape_items, .inl (cs 1, a_tape_items_n, .inl a_tape_items_f))] s.heap := hP
  have hl := lv_entry ([.ref a, .int i]) (n := 2) (Nat.le_of_ble_eq_true rfl)
  rw [lg_entry_eq]
  generalize (lg_sl ([.ref a, .int i]) ++ List.replicate (2 - (lg_sl ([.ref a, .int i])).length) Slot.unset).toArray = ls at hl ⊢
  have hl : lv_has ls 2 [(0, .ref a), (1, .int i)] := hl
  refine gq (fun Q hQ => ?_)
  obtain ⟨H, hH⟩ : ∃ H : Heap, H = s.heap := ⟨_, rfl⟩
  rw [← hH] at hP
  have hS : va_S A s.heap H [] := by rw [hH]; exact hS
  refine W.eqH hH ?_
  obtain ⟨locs, hlc⟩ : ∃ L : List Loc, L = [] := ⟨_, rfl⟩
  rw [← hlc] at hS ⊢
  unfold p_Signs_isBehindEnd at hok
  refine lv_iload_n hx hb d_Signs_isBehindEnd_0 rfl (lv_at hl 1 rfl) ?_
  refine lv_aload_n hx hb d_Signs_isBehindEnd_1 rfl (lv_at hl 0 rfl) ?_
  refine va_get (D := g) (ci := 6) (v := .ref a_tape) (C := R_Signs) (T := F_Signs) (N := 8) hx hb hg ul_Signs hown hK hP 0 rfl rfl 0 (by decide) (hg _ wd_447) (fun _ h9 => h9) rfl d_Signs_isBehindEnd_2 ?_
  obtain ⟨r1, hc1, hok⟩ := bd_some hok
  obtain ⟨hPc, hDc, hFc⟩ := cut0 (wc := [(a_tape, .inr (0, [.ref a_tape_items, .int a_tape_size]))]) hP hD hS hA [1] (by decide) rfl
  refine va_calli (va_runV (As := []) (rest := [.int i]) ⟨hx, hb, hml, hown, hg⟩ (c_Bytes_size l g cs ka a_tape_items a_tape H.size a_tape_size r1 hc1) (cwV (C := R_Bytes) 0 hg (gw_V wd_451 wd_452 wd_453 wd_450 wd_449) rfl rfl rfl (by decide +kernel) ⟨Nat.le_of_ble_eq_true rfl, Nat.le_of_ble_eq_true rfl⟩) ⟨gP_blind, va_recv (q0 := 1) (ci := 0) (q := (R_Bytes, F_Bytes, 2)) hK hP rfl rfl, gP_pre hPc hDc hK hgl hkn hkr hS hFc⟩ rfl rfl hl.1 rfl (lv_room (Nat.le_of_ble_eq_true rfl)) d_Signs_isBehindEnd_5 ⟨Nat.le_of_ble_eq_true rfl, Nat.le_of_ble_eq_true rfl⟩) hS (fun q _ h => hFc q h) hFc (fun r1' u t H locs ht hvm hr1 hB hz1 hk1 hS => ?_)
  subst hr1
  rw [ht] at hB
  obtain ⟨hP1, hD1⟩ := hB
  obtain ⟨hP, hD⟩ := jn_A hP hD [1] [0, 2] rfl rfl (by decide) (by decide) hk1 hFc hP1 hD1
  obtain ⟨hP, hD⟩ : PD g A H [(a, .inr (6, [.ref a_tape, .ref a_names, .int a_kind, .int a_place, .int a_behind, .int a_passed, .int a_name, .long a_number])), (a_tape_items, .inl (cs 1, a_tape_items_n, .inl a_tape_items_f)), (a_tape, .inr (0, [.ref a_tape_items, .int a_tape_size]))] := ⟨hP, hD⟩
  refine lv_icmp_ge hx hb d_Signs_isBehindEnd_8 rfl (fun h2 => ?_) (fun h2 => ?_)
  · rw [if_pos h2] at hok
    refine lv_iconst (v := 1) hx hb d_Signs_isBehindEnd_38 (by decide) ?_
    refine lv_goto hx hb d_Signs_isBehindEnd_39 rfl ?_
    have hq := Option.some.inj hok
    have hq0 := hq
    subst hq0
    obtain ⟨hP9, hD9⟩ := sub2 (ws' := [(a, .inr (6, [.ref a_tape, .ref a_names, .int a_kind, .int a_place, .int a_behind, .int a_passed, .int a_name, .long a_number])), (a_tape, .inr (0, [.ref a_tape_items, .int a_tape_size])), (a_tape_items, .inl (cs 1, a_tape_items_n, .inl a_tape_items_f))]) hP hD [0, 2, 1] rfl (by decide) rfl
    rw [hQ]
    exact W.zret (v := 1) hx hb hr rfl (fun t ht hW => ⟨⟨_, (), rfl, rfl, by rw [ht]; exact hP9, hD9⟩, hS.F ht⟩) hS.2.2 d_Signs_isBehindEnd_43
  · rw [if_neg h2] at hok
    refine lv_aload_n hx hb d_Signs_isBehindEnd_11 rfl (lv_at hl 0 rfl) ?_
    refine va_get (D := g) (ci := 6) (v := .ref a_tape) (C := R_Signs) (T := F_Signs) (N := 8) hx hb hg ul_Signs hown hK hP 0 rfl rfl 0 (by decide) (hg _ wd_447) (fun _ h9 => h9) rfl d_Signs_isBehindEnd_12 ?_
    refine lv_iload_n hx hb d_Signs_isBehindEnd_15 rfl (lv_at hl 1 rfl) ?_
    obtain ⟨r3, hc3, hok⟩ := bd_some hok
    obtain ⟨hPc, hDc, hFc⟩ := cut0 (wc := [(a_tape, .inr (0, [.ref a_tape_items, .int a_tape_size])), (a_tape_items, .inl (cs 1, a_tape_items_n, .inl a_tape_items_f))]) hP hD hS hA [2, 1] (by decide) rfl
    refine va_calli (va_runV (As := [.int i]) (rest := []) ⟨hx, hb, hml, hown, hg⟩ (c_Bytes_at l g cs ka a_tape a_tape_items H.size i a_tape_size a_tape_items_n a_tape_items_f r3 hc3) (cwV (C := R_Bytes) 1 hg (gw_V wd_455 wd_456 wd_457 wd_450 wd_454) rfl rfl rfl (by decide +kernel) ⟨Nat.le_of_ble_eq_true rfl, Nat.le_of_ble_eq_true rfl⟩) ⟨gP_blind, va_recv (q0 := 2) (ci := 0) (q := (R_Bytes, F_Bytes, 2)) hK hP rfl rfl, gP_pre hPc hDc hK hgl hkn hkr hS hFc⟩ rfl rfl hl.1 rfl (lv_room (Nat.le_of_ble_eq_true rfl)) d_Signs_isBehindEnd_16 ⟨Nat.le_of_ble_eq_true rfl, Nat.le_of_ble_eq_true rfl⟩) hS (fun q _ h => hFc q h) hFc (fun r3' u t H locs ht hvm hr3 hB hz1 hk1 hS => ?_)
    subst hr3
    rw [ht] at hB
    obtain ⟨hP1, hD1⟩ := hB
    obtain ⟨hP, hD⟩ := jn_A hP hD [2, 1] [0] rfl rfl (by decide) (by decide) hk1 hFc hP1 hD1
    obtain ⟨hP, hD⟩ : PD g A H [(a, .inr (6, [.ref a_tape, .ref a_names, .int a_kind, .int a_place, .int a_behind, .int a_passed, .int a_name, .long a_number])), (a_tape, .inr (0, [.ref a_tape_items, .int a_tape_size])), (a_tape_items, .inl (cs 1, a_tape_items_n, .inl a_tape_items_f))] := ⟨hP, hD⟩
    obtain ⟨r4, hc4, hok⟩ := bd_some hok
    obtain ⟨hPc, hDc, hFc⟩ := cut0 (wc := []) hP hD hS hA [] (by decide) rfl
    refine va_calli (va_runS (As := [.int r3]) (rest := []) ⟨hx, hb, hml, hown, hg⟩ (c_Letters_isBlank l g cs ka H.size r3 r4 hc4) (va_cwS 1 hg (gw_S wd_459 wd_460 wd_217 wd_458) rfl rfl rfl (by decide +kernel) ⟨Nat.le_of_ble_eq_true rfl, Nat.le_of_ble_eq_true rfl⟩) ⟨gP_blind, gP_pre hPc hDc hK hgl hkn hkr hS hFc⟩ rfl rfl hl.1 rfl (lv_room (Nat.le_of_ble_eq_true rfl)) d_Signs_isBehindEnd_19 ⟨Nat.le_of_ble_eq_true rfl, Nat.le_of_ble_eq_true rfl⟩) hS (fun q _ h => hFc q h) hFc (fun r4' u t H locs ht hvm hr4 hB hz1 hk1 hS => ?_)
    subst hr4
    rw [ht] at hB
    obtain ⟨hP1, hD1⟩ := hB
    obtain ⟨hP, hD⟩ := jn_A hP hD [] [0, 1, 2] rfl rfl (by decide) (by decide) hk1 hFc hP1 hD1
    obtain ⟨hP, hD⟩ : PD g A H [(a, .inr (6, [.ref a_tape, .ref a_names, .int a_kind, .int a_place, .int a_behind, .int a_passed, .int a_name, .long a_number])), (a_tape, .inr (0, [.ref a_tape_items, .int a_tape_size])), (a_tape_items, .inl (cs 1, a_tape_items_n, .inl a_tape_items_f))] := ⟨hP, hD⟩
    refine lv_if_ne hx hb d_Signs_isBehindEnd_22 rfl (fun h5 => ?_) (fun h5 => ?_)
    · rw [if_neg h5] at hok
      refine lv_iconst (v := 1) hx hb d_Signs_isBehindEnd_38 (by decide) ?_
      refine lv_goto hx hb d_Signs_isBehindEnd_39 rfl ?_
      have hq := Option.some.inj hok
      have hq0 := hq
      subst hq0
      obtain ⟨hP9, hD9⟩ := sub2 (ws' := [(a, .inr (6, [.ref a_tape, .ref a_names, .int a_kind, .int a_place, .int a_behind, .int a_passed, .int a_name, .long a_number])), (a_tape, .inr (0, [.ref a_tape_items, .int a_tape_size])), (a_tape_items, .inl (cs 1, a_tape_items_n, .inl a_tape_items_f))]) hP hD [0, 1, 2] rfl (by decide) rfl
      rw [hQ]
      exact W.zret (v := 1) hx hb hr rfl (fun t ht hW => ⟨⟨_, (), rfl, rfl, by rw [ht]; exact hP9, hD9⟩, hS.F ht⟩) hS.2.2 d_Signs_isBehindEnd_43
    · rw [if_pos h5] at hok
      refine lv_aload_n hx hb d_Signs_isBehindEnd_25 rfl (lv_at hl 0 rfl) ?_
      refine va_get (D := g) (ci := 6) (v := .ref a_tape) (C := R_Signs) (T := F_Signs) (N := 8) hx hb hg ul_Signs hown hK hP 0 rfl rfl 0 (by decide) (hg _ wd_447) (fun _ h9 => h9) rfl d_Signs_isBehindEnd_26 ?_
      refine lv_iload_n hx hb d_Signs_isBehindEnd_29 rfl (lv_at hl 1 rfl) ?_
      obtain ⟨r6, hc6, hok⟩ := bd_some hok
      obtain ⟨hPc, hDc, hFc⟩ := cut0 (wc := [(a_tape, .inr (0, [.ref a_tape_items, .int a_tape_size])), (a_tape_items, .inl (cs 1, a_tape_items_n, .inl a_tape_items_f))]) hP hD hS hA [1, 2] (by decide) rfl
      refine va_calli (va_runV (As := [.int i]) (rest := []) ⟨hx, hb, hml, hown, hg⟩ (c_Bytes_at l g cs ka a_tape a_tape_items H.size i a_tape_size a_tape_items_n a_tape_items_f r6 hc6) (cwV (C := R_Bytes) 1 hg (gw_V wd_455 wd_456 wd_457 wd_450 wd_454) rfl rfl rfl (by decide +kernel) ⟨Nat.le_of_ble_eq_true rfl, Nat.le_of_ble_eq_true rfl⟩) ⟨gP_blind, va_recv (q0 := 1) (ci := 0) (q := (R_Bytes, F_Bytes, 2)) hK hP rfl rfl, gP_pre hPc hDc hK hgl hkn hkr hS hFc⟩ rfl rfl hl.1 rfl (lv_room (Nat.le_of_ble_eq_true rfl)) d_Signs_isBehindEnd_30 ⟨Nat.le_of_ble_eq_true rfl, Nat.le_of_ble_eq_true rfl⟩) hS (fun q _ h => hFc q h) hFc (fun r6' u t H locs ht hvm hr6 hB hz1 hk1 hS => ?_)
      subst hr6
      rw [ht] at hB
      obtain ⟨hP1, hD1⟩ := hB
      obtain ⟨hP, hD⟩ := jn_A hP hD [1, 2] [0] rfl rfl (by decide) (by decide) hk1 hFc hP1 hD1
      obtain ⟨hP, hD⟩ : PD g A H [(a, .inr (6, [.ref a_tape, .ref a_names, .int a_kind, .int a_place, .int a_behind, .int a_passed, .int a_name, .long a_number])), (a_tape, .inr (0, [.ref a_tape_items, .int a_tape_size])), (a_tape_items, .inl (cs 1, a_tape_items_n, .inl a_tape_items_f))] := ⟨hP, hD⟩
      refine lv_bipush (v := 37) hx hb d_Signs_isBehindEnd_33 (by decide) ?_
      refine lv_icmp_ne hx hb d_Signs_isBehindEnd_35 rfl (fun h7 => ?_) (fun h7 => ?_)
      · rw [if_neg h7] at hok
        refine lv_iconst (v := 0) hx hb d_Signs_isBehindEnd_42 (by decide) ?_
        have hq := Option.some.inj hok
        have hq0 := hq
        subst hq0
        obtain ⟨hP9, hD9⟩ := sub2 (ws' := [(a, .inr (6, [.ref a_tape, .ref a_names, .int a_kind, .int a_place, .int a_behind, .int a_passed, .int a_name, .long a_number])), (a_tape, .inr (0, [.ref a_tape_items, .int a_tape_size])), (a_tape_items, .inl (cs 1, a_tape_items_n, .inl a_tape_items_f))]) hP hD [0, 1, 2] rfl (by decide) rfl
        rw [hQ]
        exact W.zret (v := 0) hx hb hr rfl (fun t ht hW => ⟨⟨_, (), rfl, rfl, by rw [ht]; exact hP9, hD9⟩, hS.F ht⟩) hS.2.2 d_Signs_isBehindEnd_43
      · rw [if_pos h7] at hok
        refine lv_iconst (v := 1) hx hb d_Signs_isBehindEnd_38 (by decide) ?_
        refine lv_goto hx hb d_Signs_isBehindEnd_39 rfl ?_
        have hq := Option.some.inj hok
        have hq0 := hq
        subst hq0
        obtain ⟨hP9, hD9⟩ := sub2 (ws' := [(a, .inr (6, [.ref a_tape, .ref a_names, .int a_kind, .int a_place, .int a_behind, .int a_passed, .int a_name, .long a_number])), (a_tape, .inr (0, [.ref a_tape_items, .int a_tape_size])), (a_tape_items, .inl (cs 1, a_tape_items_n, .inl a_tape_items_f))]) hP hD [0, 1, 2] rfl (by decide) rfl
        rw [hQ]
        exact W.zret (v := 1) hx hb hr rfl (fun t ht hW => ⟨⟨_, (), rfl, rfl, by rw [ht]; exact hP9, hD9⟩, hS.F ht⟩) hS.2.2 d_Signs_isBehindEnd_43

theorem d_Signs_takeSymbols_0 : decode b_Signs_takeSymbols 0 = .ok (.aload_n 0, 1) := by decide +kernel
theorem d_Signs_takeSymbols_1 : decode b_Signs_takeSymbols 1 = .ok (.getfield 13, 3) := by decide +kernel
theorem d_Signs_takeSymbols_4 : decode b_Signs_takeSymbols 4 = .ok (.istore_n 1, 1) := by decide +kernel
theorem d_Signs_takeSymbols_5 : decode b_Signs_takeSymbols 5 = .ok (.iload_n 1, 1) := by decide +kernel
theorem d_Signs_takeSymbols_6 : decode b_Signs_takeSymbols 6 = .ok (.aload_n 0, 1) := by decide +kernel
theorem d_Signs_takeSymbols_7 : decode b_Signs_takeSymbols 7 = .ok (.getfield 30, 3) := by decide +kernel
theorem d_Signs_takeSymbols_10 : decode b_Signs_takeSymbols 10 = .ok (.invokevirtual 47, 3) := by decide +kernel
theorem d_Signs_takeSymbols_13 : decode b_Signs_takeSymbols 13 = .ok (.if_icmp .ge 23, 3) := by decide +kernel
theorem d_Signs_takeSymbols_16 : decode b_Signs_takeSymbols 16 = .ok (.aload_n 0, 1) := by decide +kernel
theorem d_Signs_takeSymbols_17 : decode b_Signs_takeSymbols 17 = .ok (.getfield 30, 3) := by decide +kernel
theorem d_Signs_takeSymbols_20 : decode b_Signs_takeSymbols 20 = .ok (.iload_n 1, 1) := by decide +kernel
theorem d_Signs_takeSymbols_21 : decode b_Signs_takeSymbols 21 = .ok (.invokevirtual 42, 3) := by decide +kernel
theorem d_Signs_takeSymbols_24 : decode b_Signs_takeSymbols 24 = .ok (.invokestatic 83, 3) := by decide +kernel
theorem d_Signs_takeSymbols_27 : decode b_Signs_takeSymbols 27 = .ok (.ifCond .eq 9, 3) := by decide +kernel
theorem d_Signs_takeSymbols_30 : decode b_Signs_takeSymbols 30 = .ok (.iinc 1 1, 3) := by decide +kernel
theorem d_Signs_takeSymbols_33 : decode b_Signs_takeSymbols 33 = .ok (.goto (-28), 3) := by decide +kernel
theorem d_Signs_takeSymbols_36 : decode b_Signs_takeSymbols 36 = .ok (.iload_n 1, 1) := by decide +kernel
theorem d_Signs_takeSymbols_37 : decode b_Signs_takeSymbols 37 = .ok (.aload_n 0, 1) := by decide +kernel
theorem d_Signs_takeSymbols_38 : decode b_Signs_takeSymbols 38 = .ok (.getfield 13, 3) := by decide +kernel
theorem d_Signs_takeSymbols_41 : decode b_Signs_takeSymbols 41 = .ok (.iconst 1, 1) := by decide +kernel
theorem d_Signs_takeSymbols_42 : decode b_Signs_takeSymbols 42 = .ok (.iadd, 1) := by decide +kernel
theorem d_Signs_takeSymbols_43 : decode b_Signs_takeSymbols 43 = .ok (.if_icmp .ne 36, 3) := by decide +kernel
theorem d_Signs_takeSymbols_46 : decode b_Signs_takeSymbols 46 = .ok (.aload_n 0, 1) := by decide +kernel
theorem d_Signs_takeSymbols_47 : decode b_Signs_takeSymbols 47 = .ok (.getfield 30, 3) := by decide +kernel
theorem d_Signs_takeSymbols_50 : decode b_Signs_takeSymbols 50 = .ok (.aload_n 0, 1) := by decide +kernel
theorem d_Signs_takeSymbols_51 : decode b_Signs_takeSymbols 51 = .ok (.getfield 13, 3) := by decide +kernel
theorem d_Signs_takeSymbols_54 : decode b_Signs_takeSymbols 54 = .ok (.invokevirtual 42, 3) := by decide +kernel
theorem d_Signs_takeSymbols_57 : decode b_Signs_takeSymbols 57 = .ok (.bipush 46, 2) := by decide +kernel
theorem d_Signs_takeSymbols_59 : decode b_Signs_takeSymbols 59 = .ok (.if_icmp .ne 20, 3) := by decide +kernel
theorem d_Signs_takeSymbols_62 : decode b_Signs_takeSymbols 62 = .ok (.aload_n 0, 1) := by decide +kernel
theorem d_Signs_takeSymbols_63 : decode b_Signs_takeSymbols 63 = .ok (.iload_n 1, 1) := by decide +kernel
theorem d_Signs_takeSymbols_64 : decode b_Signs_takeSymbols 64 = .ok (.invokevirtual 123, 3) := by decide +kernel
theorem d_Signs_takeSymbols_67 : decode b_Signs_takeSymbols 67 = .ok (.ifCond .eq 12, 3) := by decide +kernel
theorem d_Signs_takeSymbols_70 : decode b_Signs_takeSymbols 70 = .ok (.aload_n 0, 1) := by decide +kernel
theorem d_Signs_takeSymbols_71 : decode b_Signs_takeSymbols 71 = .ok (.iconst 4, 1) := by decide +kernel
theorem d_Signs_takeSymbols_72 : decode b_Signs_takeSymbols 72 = .ok (.iload_n 1, 1) := by decide +kernel
theorem d_Signs_takeSymbols_73 : decode b_Signs_takeSymbols 73 = .ok (.invokevirtual 51, 3) := by decide +kernel
theorem d_Signs_takeSymbols_76 : decode b_Signs_takeSymbols 76 = .ok (.goto 8, 3) := by decide +kernel
theorem d_Signs_takeSymbols_79 : decode b_Signs_takeSymbols 79 = .ok (.aload_n 0, 1) := by decide +kernel
theorem d_Signs_takeSymbols_80 : decode b_Signs_takeSymbols 80 = .ok (.iload_n 1, 1) := by decide +kernel
theorem d_Signs_takeSymbols_81 : decode b_Signs_takeSymbols 81 = .ok (.invokevirtual 70, 3) := by decide +kernel
theorem d_Signs_takeSymbols_84 : decode b_Signs_takeSymbols 84 = .ok (.return_, 1) := by decide +kernel
def p_Signs_takeSymbols_5 (n : Nat) (a_kind : Int32) (a_place : Int32) (a_behind : Int32) (a_passed : Int32) (a_name : Int32) (a_number : Int64) (a_tape_size : Int32) (a_tape_items_n : Nat) (a_tape_items_f : Nat → Int32) (a_names_textsSize : Int32) (a_names_sizeBefore : Int32) (a_names_texts_n : Nat) (a_names_texts_f : Nat → Int32) (a_names_ends_size : Int32) (a_names_ends_items_n : Nat) (a_names_ends_items_f : Nat → Int32) (a_names_older_size : Int32) (a_names_older_items_n : Nat) (a_names_older_items_f : Nat → Int32) (a_names_newest_n : Nat) (a_names_newest_f : Nat → Int32) (kf1 : Nat) (x1_1 : Int32) : Option ((Int32 × Int32 × Int32 × Int32 × Nat × (Nat → Int32) × Int32 × Nat × (Nat → Int32) × Int32 × Nat × (Nat → Int32) × (Nat → Int32)) × Nat × Nat) := match kf1 with
  | 0 => none
  | kf1 + 1 => (p_Bytes_size a_tape_size).bind (fun r2 => if r2 ≤ x1_1 then (if x1_1 = (a_place + 1) then ((p_Bytes_at a_place a_tape_size a_tape_items_n a_tape_items_f).bind (fun r6 => if r6 = 46 then ((p_Signs_isBehindEnd x1_1 a_kind a_place a_behind a_passed a_name a_number a_tape_size a_tape_items_n a_tape_items_f).bind (fun r9 => if r9 = 0 then ((p_Signs_takeName n x1_1 a_kind a_place a_behind a_passed a_name a_number a_tape_size a_tape_items_n a_tape_items_f a_names_textsSize a_names_sizeBefore a_names_texts_n a_names_texts_f a_names_ends_size a_names_ends_items_n a_names_ends_items_f a_names_older_size a_names_older_items_n a_names_older_items_f a_names_newest_n a_names_newest_f).bind (fun ((a_kind_11, a_behind_11, a_name_11, a_names_textsSize_11, a_names_texts_n_11, a_names_texts_f_11, a_names_ends_size_11, a_names_ends_items_n_11, a_names_ends_items_f_11, a_names_older_size_11, a_names_older_items_n_11, a_names_older_items_f_11, a_names_newest_f_11), mk11, sk11) => al mk11 sk11 (some ((a_kind_11, a_behind_11, a_name_11, a_names_textsSize_11, a_names_texts_n_11, a_names_texts_f_11, a_names_ends_size_11, a_names_ends_items_n_11, a_names_ends_items_f_11, a_names_older_size_11, a_names_older_items_n_11, a_names_older_items_f_11, a_names_newest_f_11), 0, 0)))) else ((p_Signs_takeTo (4 : Int32) x1_1 a_kind a_place a_behind a_passed a_name a_number).bind (fun (a_kind_12, a_behind_12) => some ((a_kind_12, a_behind_12, a_name, a_names_textsSize, a_names_texts_n, a_names_texts_f, a_names_ends_size, a_names_ends_items_n, a_names_ends_items_f, a_names_older_size, a_names_older_items_n, a_names_older_items_f, a_names_newest_f), 0, 0))))) else ((p_Signs_takeName n x1_1 a_kind a_place a_behind a_passed a_name a_number a_tape_size a_tape_items_n a_tape_items_f a_names_textsSize a_names_sizeBefore a_names_texts_n a_names_texts_f a_names_ends_size a_names_ends_items_n a_names_ends_items_f a_names_older_size a_names_older_items_n a_names_older_items_f a_names_newest_n a_names_newest_f).bind (fun ((a_kind_8, a_behind_8, a_name_8, a_names_textsSize_8, a_names_texts_n_8, a_names_texts_f_8, a_names_ends_size_8, a_names_ends_items_n_8, a_names_ends_items_f_8, a_names_older_size_8, a_names_older_items_n_8, a_names_older_items_f_8, a_names_newest_f_8), mk8, sk8) => al mk8 sk8 (some ((a_kind_8, a_behind_8, a_name_8, a_names_textsSize_8, a_names_texts_n_8, a_names_texts_f_8, a_names_ends_size_8, a_names_ends_items_n_8, a_names_ends_items_f_8, a_names_older_size_8, a_names_older_items_n_8, a_names_older_items_f_8, a_names_newest_f_8), 0, 0)))))) else ((p_Signs_takeName n x1_1 a_kind a_place a_behind a_passed a_name a_number a_tape_size a_tape_items_n a_tape_items_f a_names_textsSize a_names_sizeBefore a_names_texts_n a_names_texts_f a_names_ends_size a_names_ends_items_n a_names_ends_items_f a_names_older_size a_names_older_items_n a_names_older_items_f a_names_newest_n a_names_newest_f).bind (fun ((a_kind_5, a_behind_5, a_name_5, a_names_textsSize_5, a_names_texts_n_5, a_names_texts_f_5, a_names_ends_size_5, a_names_ends_items_n_5, a_names_ends_items_f_5, a_names_older_size_5, a_names_older_items_n_5, a_names_older_items_f_5, a_names_newest_f_5), mk5, sk5) => al mk5 sk5 (some ((a_kind_5, a_behind_5, a_name_5, a_names_textsSize_5, a_names_texts_n_5, a_names_texts_f_5, a_names_ends_size_5, a_names_ends_items_n_5, a_names_ends_items_f_5, a_names_older_size_5, a_names_older_items_n_5, a_names_older_items_f_5, a_names_newest_f_5), 0, 0))))) else ((p_Bytes_at x1_1 a_tape_size a_tape_items_n a_tape_items_f).bind (fun r13 => (p_Letters_isSymbol n r13).bind (fun r14 => if r14 = 0 then (if x1_1 = (a_place + 1) then ((p_Bytes_at a_place a_tape_size a_tape_items_n a_tape_items_f).bind (fun r18 => if r18 = 46 then ((p_Signs_isBehindEnd x1_1 a_kind a_place a_behind a_passed a_name a_number a_tape_size a_tape_items_n a_tape_items_f).bind (fun r21 => if r21 = 0 then ((p_Signs_takeName n x1_1 a_kind a_place a_behind a_passed a_name a_number a_tape_size a_tape_items_n a_tape_items_f a_names_textsSize a_names_sizeBefore a_names_texts_n a_names_texts_f a_names_ends_size a_names_ends_items_n a_names_ends_items_f a_names_older_size a_names_older_items_n a_names_older_items_f a_names_newest_n a_names_newest_f).bind (fun ((a_kind_23, a_behind_23, a_name_23, a_names_textsSize_23, a_names_texts_n_23, a_names_texts_f_23, a_names_ends_size_23, a_names_ends_items_n_23, a_names_ends_items_f_23, a_names_older_size_23, a_names_older_items_n_23, a_names_older_items_f_23, a_names_newest_f_23), mk23, sk23) => al mk23 sk23 (some ((a_kind_23, a_behind_23, a_name_23, a_names_textsSize_23, a_names_texts_n_23, a_names_texts_f_23, a_names_ends_size_23, a_names_ends_items_n_23, a_names_ends_items_f_23, a_names_older_size_23, a_names_older_items_n_23, a_names_older_items_f_23, a_names_newest_f_23), 0, 0)))) else ((p_Signs_takeTo (4 : Int32) x1_1 a_kind a_place a_behind a_passed a_name a_number).bind (fun (a_kind_24, a_behind_24) => some ((a_kind_24, a_behind_24, a_name, a_names_textsSize, a_names_texts_n, a_names_texts_f, a_names_ends_size, a_names_ends_items_n, a_names_ends_items_f, a_names_older_size, a_names_older_items_n, a_names_older_items_f, a_names_newest_f), 0, 0))))) else ((p_Signs_takeName n x1_1 a_kind a_place a_behind a_passed a_name a_number a_tape_size a_tape_items_n a_tape_items_f a_names_textsSize a_names_sizeBefore a_names_texts_n a_names_texts_f a_names_ends_size a_names_ends_items_n a_names_ends_items_f a_names_older_size a_names_older_items_n a_names_older_items_f a_names_newest_n a_names_newest_f).bind (fun ((a_kind_20, a_behind_20, a_name_20, a_names_textsSize_20, a_names_texts_n_20, a_names_texts_f_20, a_names_ends_size_20, a_names_ends_items_n_20, a_names_ends_items_f_20, a_names_older_size_20, a_names_older_items_n_20, a_names_older_items_f_20, a_names_newest_f_20), mk20, sk20) => al mk20 sk20 (some ((a_kind_20, a_behind_20, a_name_20, a_names_textsSize_20, a_names_texts_n_20, a_names_texts_f_20, a_names_ends_size_20, a_names_ends_items_n_20, a_names_ends_items_f_20, a_names_older_size_20, a_names_older_items_n_20, a_names_older_items_f_20, a_names_newest_f_20), 0, 0)))))) else ((p_Signs_takeName n x1_1 a_kind a_place a_behind a_passed a_name a_number a_tape_size a_tape_items_n a_tape_items_f a_names_textsSize a_names_sizeBefore a_names_texts_n a_names_texts_f a_names_ends_size a_names_ends_items_n a_names_ends_items_f a_names_older_size a_names_older_items_n a_names_older_items_f a_names_newest_n a_names_newest_f).bind (fun ((a_kind_17, a_behind_17, a_name_17, a_names_textsSize_17, a_names_texts_n_17, a_names_texts_f_17, a_names_ends_size_17, a_names_ends_items_n_17, a_names_ends_items_f_17, a_names_older_size_17, a_names_older_items_n_17, a_names_older_items_f_17, a_names_newest_f_17), mk17, sk17) => al mk17 sk17 (some ((a_kind_17, a_behind_17, a_name_17, a_names_textsSize_17, a_names_texts_n_17, a_names_texts_f_17, a_names_ends_size_17, a_names_ends_items_n_17, a_names_ends_items_f_17, a_names_older_size_17, a_names_older_items_n_17, a_names_older_items_f_17, a_names_newest_f_17), 0, 0))))) else (p_Signs_takeSymbols_5 n a_kind a_place a_behind a_passed a_name a_number a_tape_size a_tape_items_n a_tape_items_f a_names_textsSize a_names_sizeBefore a_names_texts_n a_names_texts_f a_names_ends_size a_names_ends_items_n a_names_ends_items_f a_names_older_size a_names_older_items_n a_names_older_items_f a_names_newest_n a_names_newest_f kf1 (x1_1 + 1))))))
def p_Signs_takeSymbols (n : Nat) (a_kind : Int32) (a_place : Int32) (a_behind : Int32) (a_passed : Int32) (a_name : Int32) (a_number : Int64) (a_tape_size : Int32) (a_tape_items_n : Nat) (a_tape_items_f : Nat → Int32) (a_names_textsSize : Int32) (a_names_sizeBefore : Int32) (a_names_texts_n : Nat) (a_names_texts_f : Nat → Int32) (a_names_ends_size : Int32) (a_names_ends_items_n : Nat) (a_names_ends_items_f : Nat → Int32) (a_names_older_size : Int32) (a_names_older_items_n : Nat) (a_names_older_items_f : Nat → Int32) (a_names_newest_n : Nat) (a_names_newest_f : Nat → Int32) : Option ((Int32 × Int32 × Int32 × Int32 × Nat × (Nat → Int32) × Int32 × Nat × (Nat → Int32) × Int32 × Nat × (Nat → Int32) × (Nat → Int32)) × Nat × Nat) := p_Signs_takeSymbols_5 n a_kind a_place a_behind a_passed a_name a_number a_tape_size a_tape_items_n a_tape_items_f a_names_textsSize a_names_sizeBefore a_names_texts_n a_names_texts_f a_names_ends_size a_names_ends_items_n a_names_ends_items_f a_names_older_size a_names_older_items_n a_names_older_items_f a_names_newest_n a_names_newest_f n a_place
set_option maxHeartbeats 4000000 in
set_option maxRecDepth 100000 in
theorem c_Signs_takeSymbols (l : Launch) (g : va_G) (cs : Nat → ClassId) (ka : Nat → Nat) (a a_tape a_tape_items a_names a_names_texts a_names_ends a_names_ends_items a_names_older a_names_older_items a_names_newest : Nat) (sz : Nat) (n : Nat) (a_kind : Int32) (a_place : Int32) (a_behind : Int32) (a_passed : Int32) (a_name : Int32) (a_number : Int64) (a_tape_size : Int32) (a_tape_items_n : Nat) (a_tape_items_f : Nat → Int32) (a_names_textsSize : Int32) (a_names_sizeBefore : Int32) (a_names_texts_n : Nat) (a_names_texts_f : Nat → Int32) (a_names_ends_size : Int32) (a_names_ends_items_n : Nat) (a_names_ends_items_f : Nat → Int32) (a_names_older_size : Int32) (a_names_older_items_n : Nat) (a_names_older_items_f : Nat → Int32) (a_names_newest_n : Nat) (a_names_newest_f : Nat → Int32) (o_a_kind : Int32) (o_a_behind : Int32) (o_a_name : Int32) (o_a_names_textsSize : Int32) (o_a_names_texts_n : Nat) (o_a_names_texts_f : Nat → Int32) (o_a_names_ends_size : Int32) (o_a_names_ends_items_n : Nat) (o_a_names_ends_items_f : Nat → Int32) (o_a_names_older_size : Int32) (o_a_names_older_items_n : Nat) (o_a_names_older_items_f : Nat → Int32) (o_a_names_newest_f : Nat → Int32) (mc ms : Nat) (hok : p_Signs_takeSymbols n a_kind a_place a_behind a_passed a_name a_number a_tape_size a_tape_items_n a_tape_items_f a_names_textsSize a_names_sizeBefore a_names_texts_n a_names_texts_f a_names_ends_size a_names_ends_items_n a_names_ends_items_f a_names_older_size a_names_older_items_n a_names_older_items_f a_names_newest_n a_names_newest_f = some ((o_a_kind, o_a_behind, o_a_name, o_a_names_textsSize, o_a_names_texts_n, o_a_names_texts_f, o_a_names_ends_size, o_a_names_ends_items_n, o_a_names_ends_items_f, o_a_names_older_size, o_a_names_older_items_n, o_a_names_older_items_f, o_a_names_newest_f), mc, ms)) : Met l y_Signs_takeSymbols (.code y_Signs_takeSymbols b_Signs_takeSymbols 2 none :: GW) { frames := 5, cells := mc, slots := ms, locals := 189 } (va_Pc [.ref a] (gP g cs ka [(a, .inr (6, [.ref a_tape, .ref a_names, .int a_kind, .int a_place, .int a_behind, .int a_passed, .int a_name, .long a_number])), (a_tape, .inr (0, [.ref a_tape_items, .int a_tape_size])), (a_tape_items, .inl (cs 1, a_tape_items_n, .inl a_tape_items_f)), (a_names, .inr (2, [.ref a_names_texts, .int a_names_textsSize, .ref a_names_ends, .ref a_names_older, .ref a_names_newest, .int a_names_sizeBefore])), (a_names_texts, .inl (cs 1, a_names_texts_n, .inl a_names_texts_f)), (a_names_ends, .inr (1, [.ref a_names_ends_items, .int a_names_ends_size])), (a_names_ends_items, .inl (cs 0, a_names_ends_items_n, .inl a_names_ends_items_f)), (a_names_older, .inr (1, [.ref a_names_older_items, .int a_names_older_size])), (a_names_older_items, .inl (cs 0, a_names_older_items_n, .inl a_names_older_items_f)), (a_names_newest, .inl (cs 0, a_names_newest_n, .inl a_names_newest_f))] sz)) (va_Qv (fun _ : Unit => True) (fun _ t => ∃ b_a_names_texts b_a_names_ends_items b_a_names_older_items : Nat, va_P g classes [(a, .inr (6, [.ref a_tape, .ref a_names, .int o_a_kind, .int a_place, .int o_a_behind, .int a_passed, .int o_a_name, .long a_number])), (a_tape, .inr (0, [.ref a_tape_items, .int a_tape_size])), (a_tape_items, .inl (cs 1, a_tape_items_n, .inl a_tape_items_f)), (a_names, .inr (2, [.ref b_a_names_texts, .int o_a_names_textsSize, .ref a_names_ends, .ref a_names_older, .ref a_names_newest, .int a_names_sizeBefore])), (b_a_names_texts, .inl (cs 1, o_a_names_texts_n, .inl o_a_names_texts_f)), (a_names_ends, .inr (1, [.ref b_a_names_ends_items, .int o_a_names_ends_size])), (b_a_names_ends_items, .inl (cs 0, o_a_names_ends_items_n, .inl o_a_names_ends_items_f)), (a_names_older, .inr (1, [.ref b_a_names_older_items, .int o_a_names_older_size])), (b_a_names_older_items, .inl (cs 0, o_a_names_older_items_n, .inl o_a_names_older_items_f)), (a_names_newest, .inl (cs 0, a_names_newest_n, .inl o_a_names_newest_f))] t.heap ∧ va_D (va_A [(a, .inr (6, [.ref a_tape, .ref a_names, .int a_kind, .int a_place, .int a_behind, .int a_passed, .int a_name, .long a_number])), (a_tape, .inr (0, [.ref a_tape_items, .int a_tape_size])), (a_tape_items, .inl (cs 1, a_tape_items_n, .inl a_tape_items_f)), (a_names, .inr (2, [.ref a_names_texts, .int a_names_textsSize, .ref a_names_ends, .ref a_names_older, .ref a_names_newest, .int a_names_sizeBefore])), (a_names_texts, .inl (cs 1, a_names_texts_n, .inl a_names_texts_f)), (a_names_ends, .inr (1, [.ref a_names_ends_items, .int a_names_ends_size])), (a_names_ends_items, .inl (cs 0, a_names_ends_items_n, .inl a_names_ends_items_f)), (a_names_older, .inr (1, [.ref a_names_older_items, .int a_names_older_size])), (a_names_older_items, .inl (cs 0, a_names_older_items_n, .inl a_names_older_items_f)), (a_names_newest, .inl (cs 0, a_names_newest_n, .inl a_names_newest_f))] sz) [(a, .inr (6, [.ref a_tape, .ref a_names, .int o_a_kind, .int a_place, .int o_a_behind, .int a_passed, .int o_a_name, .long a_number])), (a_tape, .inr (0, [.ref a_tape_items, .int a_tape_size])), (a_tape_items, .inl (cs 1, a_tape_items_n, .inl a_tape_items_f)), (a_names, .inr (2, [.ref b_a_names_texts, .int o_a_names_textsSize, .ref a_names_ends, .ref a_names_older, .ref a_names_newest, .int a_names_sizeBefore])), (b_a_names_texts, .inl (cs 1, o_a_names_texts_n, .inl o_a_names_texts_f)), (a_names_ends, .inr (1, [.ref b_a_names_ends_items, .int o_a_names_ends_size])), (b_a_names_ends_items, .inl (cs 0, o_a_names_ends_items_n, .inl o_a_names_ends_items_f)), (a_names_older, .inr (1, [.ref b_a_names_older_items, .int o_a_names_older_size])), (b_a_names_older_items, .inl (cs 0, o_a_names_older_items_n, .inl o_a_names_older_items_f)), (a_names_newest, .inl (cs 0, a_names_newest_n, .inl o_a_names_newest_f))]) (va_A [(a, .inr (6, [.ref a_tape, .ref a_names, .int a_kind, .int a_place, .int a_behind, .int a_passed, .int a_name, .long a_number])), (a_tape, .inr (0, [.ref a_tape_items, .int a_tape_size])), (a_tape_items, .inl (cs 1, a_tape_items_n, .inl a_tape_items_f)), (a_names, .inr (2, [.ref a_names_texts, .int a_names_textsSize, .ref a_names_ends, .ref a_names_older, .ref a_names_newest, .int a_names_sizeBefore])), (a_names_texts, .inl (cs 1, a_names_texts_n, .inl a_names_texts_f)), (a_names_ends, .inr (1, [.ref a_names_ends_items, .int a_names_ends_size])), (a_names_ends_items, .inl (cs 0, a_names_ends_items_n, .inl a_names_ends_items_f)), (a_names_older, .inr (1, [.ref a_names_older_items, .int a_names_older_size])), (a_names_older_items, .inl (cs 0, a_names_older_items_n, .inl a_names_older_items_f)), (a_names_newest, .inl (cs 0, a_names_newest_n, .inl a_names_newest_f))] sz)) mc ms (va_A [(a, .inr (6, [.ref a_tape, .ref a_names, .int a_kind, .int a_place, .int a_behind, .int a_passed, .int a_name, .long a_number])), (a_tape, .inr (0, [.ref a_tape_items, .int a_tape_size])), (a_tape_items, .inl (cs 1, a_tape_items_n, .inl a_tape_items_f)), (a_names, .inr (2, [.ref a_names_texts, .int a_names_textsSize, .ref a_names_ends, .ref a_names_older, .ref a_names_newest, .int a_names_sizeBefore])), (a_names_texts, .inl (cs 1, a_names_texts_n, .inl a_names_texts_f)), (a_names_ends, .inr (1, [.ref a_names_ends_items, .int a_names_ends_size])), (a_names_ends_items, .inl (cs 0, a_names_ends_items_n, .inl a_names_ends_items_f)), (a_names_older, .inr (1, [.ref a_names_older_items, .int a_names_older_size])), (a_names_older_items, .inl (cs 0, a_names_older_items_n, .inl a_names_older_items_f)), (a_names_newest, .inl (cs 0, a_names_newest_n, .inl a_names_newest_f))] sz) := by
  refine Met.ofW (cc := b_Signs_takeSymbols) (maxL := 2) (ret := none) (by decide) rfl ?_
  intro p e s m args below meth c s₁ B hml hv
  obtain ⟨rfl, hsz, hP, hK, hD0, hgl, hkn, hkr⟩ := hv
  have hx := B.exec
  have hb := B.bytes
  have hr := B.returns
  have hg : ∀ w ∈ GW, w.before ([.ref a] : List Value).toArray s = true := fun w hw => atoms_spec (ws := .code y_Signs_takeSymbols b_Signs_takeSymbols 2 none :: GW) B.pre w (List.mem_cons_of_mem _ hw)
  have hown : s.vm.findClass R_Signs = some m.cls := findClass_of_methodNamed B.named
  have hlocks := B.notSynchronized
  subst hsz
  have hD := hD0.self (sz := s.heap.size)
  generalize hAe : va_A [(a, .inr (6, [.ref a_tape, .ref a_names, .int a_kind, .int a_place, .int a_behind, .int a_passed, .int a_name, .long a_number])), (a_tape, .inr (0, [.ref a_tape_items, .int a_tape_size])), (a_tape_items, .inl (cs 1, a_tape_items_n, .inl a_tape_items_f)), (a_names, .inr (2, [.ref a_names_texts, .int a_names_textsSize, .ref a_names_ends, .ref a_names_older, .ref a_names_newest, .int a_names_sizeBefore])), (a_names_texts, .inl (cs 1, a_names_texts_n, .inl a_names_texts_f)), (a_names_ends, .inr (1, [.ref a_names_ends_items, .int a_names_ends_size])), (a_names_ends_items, .inl (cs 0, a_names_ends_items_n, .inl a_names_ends_items_f)), (a_names_older, .inr (1, [.ref a_names_older_items, .int a_names_older_size])), (a_names_older_items, .inl (cs 0, a_names_older_items_n, .inl a_names_older_items_f)), (a_names_newest, .inl (cs 0, a_names_newest_n, .inl a_names_newest_f))] s.heap.size = A at hD hkn ⊢
  have hA : ∀ q : Nat, s.heap.size ≤ q → A q := fun q h => by rw [← hAe]; exact Or.inr h
  have hS : va_S A s.heap s.heap [] := va_S.rf
  have hP : va_P g classes [(a, .inr (6, [.ref a_tape, .ref a_names, .int a_kind, .int a_place, .int a_behind, .int a_passed, .int a_name, .long a_number])), (a_tape, .inr (0, [.ref a_tape_items, .int a_tape_size])), (a_tape_items, .inl (cs 1, a_tape_items_n, .inl a_tape_items_f)), (a_names, .inr (2, [.ref a_names_texts, .int a_names_textsSize, .ref a_names_ends, .ref a_names_older, .ref a_names_newest, .int a_names_sizeBefore])), (a_names_texts, .inl (cs 1, a_names_texts_n, .inl a_names_texts_f)), (a_names_ends, .inr (1, [.ref a_names_ends_items, .int a_names_ends_size])), (a_names_ends_items, .inl (cs 0, a_names_ends_items_n, .inl a_names_ends_items_f)), (a_names_older, .inr (1, [.ref a_names_older_items, .int a_names_older_size])), (a_names_older_items, .inl (cs 0, a_names_older_items_n, .inl a_names_older_items_f)), (a_names_newest, .inl (cs 0, a_names_newest_n, .inl a_names_newest_f))] s.heap := hP
  have hl := lv_entry ([.ref a]) (n := 2) (Nat.le_of_ble_eq_true rfl)
  rw [lg_entry_eq]
  generalize (lg_sl ([.ref a]) ++ List.replicate (2 - (lg_sl ([.ref a])).length) Slot.unset).toArray = ls at hl ⊢
  have hl : lv_has ls 2 [(0, .ref a)] := hl
  refine gq (fun Q hQ => ?_)
  obtain ⟨H, hH⟩ : ∃ H : Heap, H = s.heap := ⟨_, rfl⟩
  rw [← hH] at hP
  have hS : va_S A s.heap H [] := by rw [hH]; exact hS
  refine W.eqH hH ?_
  obtain ⟨locs, hlc⟩ : ∃ L : List Loc, L = [] := ⟨_, rfl⟩
  rw [← hlc] at hS ⊢
  unfold p_Signs_takeSymbols at hok
  refine lv_aload_n hx hb d_Signs_takeSymbols_0 rfl (lv_at hl 0 rfl) ?_
  refine va_get (D := g) (ci := 6) (v := .int a_place) (C := R_Signs) (T := F_Signs) (N := 8) hx hb hg ul_Signs hown hK hP 0 rfl rfl 3 (by decide) (hg _ wd_442) (fun _ h9 => h9) rfl d_Signs_takeSymbols_1 ?_
  refine lv_istore_n hx hb d_Signs_takeSymbols_4 rfl hl (by decide) rfl (fun ls hl => ?_)
  have hl : lv_has ls 2 [(1, .int a_place), (0, .ref a)] := hl
  have J1 : ∀ (kf1 : Nat) (H : Heap) (locs : List Loc) (ls : Array Slot) (cells1 slots1 mr1 sr1 : Nat) (x1_1 : Int32), lv_has ls 2 [(1, .int x1_1), (0, .ref a)] → PD g A H [(a, .inr (6, [.ref a_tape, .ref a_names, .int a_kind, .int a_place, .int a_behind, .int a_passed, .int a_name, .long a_number])), (a_tape, .inr (0, [.ref a_tape_items, .int a_tape_size])), (a_tape_items, .inl (cs 1, a_tape_items_n, .inl a_tape_items_f)), (a_names, .inr (2, [.ref a_names_texts, .int a_names_textsSize, .ref a_names_ends, .ref a_names_older, .ref a_names_newest, .int a_names_sizeBefore])), (a_names_texts, .inl (cs 1, a_names_texts_n, .inl a_names_texts_f)), (a_names_ends, .inr (1, [.ref a_names_ends_items, .int a_names_ends_size])), (a_names_ends_items, .inl (cs 0, a_names_ends_items_n, .inl a_names_ends_items_f)), (a_names_older, .inr (1, [.ref a_names_older_items, .int a_names_older_size])), (a_names_older_items, .inl (cs 0, a_names_older_items_n, .inl a_names_older_items_f)), (a_names_newest, .inl (cs 0, a_names_newest_n, .inl a_names_newest_f))] → va_S A s.heap H locs → cells1 + mr1 = mc → slots1 + sr1 = ms → p_Signs_takeSymbols_5 n a_kind a_place a_behind a_passed a_name a_number a_tape_size a_tape_items_n a_tape_items_f a_names_textsSize a_names_sizeBefore a_names_texts_n a_names_texts_f a_names_ends_size a_names_ends_items_n a_names_ends_items_f a_names_older_size a_names_older_items_n a_names_older_items_f a_names_newest_n a_names_newest_f kf1 x1_1 = some ((o_a_kind, o_a_behind, o_a_name, o_a_names_textsSize, o_a_names_texts_n, o_a_names_texts_f, o_a_names_ends_size, o_a_names_ends_items_n, o_a_names_ends_items_f, o_a_names_older_size, o_a_names_older_items_n, o_a_names_older_items_f, o_a_names_newest_f), mr1, sr1) → W p l e (headSpec (.code y_Signs_takeSymbols b_Signs_takeSymbols 2 none :: GW) { frames := 5, cells := mc, slots := ms, locals := 189 }).room s m ([.ref a] : List Value).toArray below meth c H locs cells1 slots1 Q (F0 m 5 ls []) := by
    intro kf1
    induction kf1 with
    | zero => intro H locs ls cells1 slots1 mr1 sr1 x1_1 hl ⟨hP, hD⟩ hS hmr1 hsr1 hok; rw [p_Signs_takeSymbols_5] at hok; cases hok
    | succ kf1 ih1 =>
      intro H locs ls cells1 slots1 mr1 sr1 x1_1 hl ⟨hP, hD⟩ hS hmr1 hsr1 hok
      rw [p_Signs_takeSymbols_5] at hok
      refine lv_iload_n hx hb d_Signs_takeSymbols_5 rfl (lv_at hl 0 rfl) ?_
      refine lv_aload_n hx hb d_Signs_takeSymbols_6 rfl (lv_at hl 1 rfl) ?_
      refine va_get (D := g) (ci := 6) (v := .ref a_tape) (C := R_Signs) (T := F_Signs) (N := 8) hx hb hg ul_Signs hown hK hP 0 rfl rfl 0 (by decide) (hg _ wd_447) (fun _ h9 => h9) rfl d_Signs_takeSymbols_7 ?_
      obtain ⟨r2, hc2, hok⟩ := bd_some hok
      obtain ⟨hPc, hDc, hFc⟩ := cut0 (wc := [(a_tape, .inr (0, [.ref a_tape_items, .int a_tape_size]))]) hP hD hS hA [1] (by decide) rfl
      refine va_calli (va_runV (As := []) (rest := [.int x1_1]) ⟨hx, hb, hml, hown, hg⟩ (c_Bytes_size l g cs ka a_tape_items a_tape H.size a_tape_size r2 hc2) (cwV (C := R_Bytes) 0 hg (gw_V wd_451 wd_452 wd_453 wd_450 wd_449) rfl rfl rfl (by decide +kernel) ⟨Nat.le_of_ble_eq_true rfl, Nat.le_of_ble_eq_true rfl⟩) ⟨gP_blind, va_recv (q0 := 1) (ci := 0) (q := (R_Bytes, F_Bytes, 2)) hK hP rfl rfl, gP_pre hPc hDc hK hgl hkn hkr hS hFc⟩ rfl rfl hl.1 rfl (lv_room (Nat.le_of_ble_eq_true rfl)) d_Signs_takeSymbols_10 ⟨show cells1 + 0 ≤ mc from by omega, show slots1 + 0 ≤ ms from by omega⟩) hS (fun q _ h => hFc q h) hFc (fun r2' u t H locs ht hvm hr2 hB hz1 hk1 hS => ?_)
      subst hr2
      rw [ht] at hB
      obtain ⟨hP1, hD1⟩ := hB
      obtain ⟨hP, hD⟩ := jn_A hP hD [1] [0, 2, 3, 4, 5, 6, 7, 8, 9] rfl rfl (by decide) (by decide) hk1 hFc hP1 hD1
      obtain ⟨hP, hD⟩ : PD g A H [(a, .inr (6, [.ref a_tape, .ref a_names, .int a_kind, .int a_place, .int a_behind, .int a_passed, .int a_name, .long a_number])), (a_tape_items, .inl (cs 1, a_tape_items_n, .inl a_tape_items_f)), (a_names, .inr (2, [.ref a_names_texts, .int a_names_textsSize, .ref a_names_ends, .ref a_names_older, .ref a_names_newest, .int a_names_sizeBefore])), (a_names_texts, .inl (cs 1, a_names_texts_n, .inl a_names_texts_f)), (a_names_ends, .inr (1, [.ref a_names_ends_items, .int a_names_ends_size])), (a_names_ends_items, .inl (cs 0, a_names_ends_items_n, .inl a_names_ends_items_f)), (a_names_older, .inr (1, [.ref a_names_older_items, .int a_names_older_size])), (a_names_older_items, .inl (cs 0, a_names_older_items_n, .inl a_names_older_items_f)), (a_names_newest, .inl (cs 0, a_names_newest_n, .inl a_names_newest_f)), (a_tape, .inr (0, [.ref a_tape_items, .int a_tape_size]))] := ⟨hP, hD⟩
      refine lv_icmp_ge hx hb d_Signs_takeSymbols_13 rfl (fun h3 => ?_) (fun h3 => ?_)
      · rw [if_pos h3] at hok
        refine lv_iload_n hx hb d_Signs_takeSymbols_36 rfl (lv_at hl 0 rfl) ?_
        refine lv_aload_n hx hb d_Signs_takeSymbols_37 rfl (lv_at hl 1 rfl) ?_
        refine va_get (D := g) (ci := 6) (v := .int a_place) (C := R_Signs) (T := F_Signs) (N := 8) hx hb hg ul_Signs hown hK hP 0 rfl rfl 3 (by decide) (hg _ wd_442) (fun _ h9 => h9) rfl d_Signs_takeSymbols_38 ?_
        refine lv_iconst (v := 1) hx hb d_Signs_takeSymbols_41 (by decide) ?_
        refine lv_iadd hx hb d_Signs_takeSymbols_42 ?_
        refine lv_icmp_ne hx hb d_Signs_takeSymbols_43 rfl (fun h4 => ?_) (fun h4 => ?_)
        · rw [if_neg h4] at hok
          refine lv_aload_n hx hb d_Signs_takeSymbols_79 rfl (lv_at hl 1 rfl) ?_
          refine lv_iload_n hx hb d_Signs_takeSymbols_80 rfl (lv_at hl 0 rfl) ?_
          obtain ⟨⟨⟨a_kind_5, a_behind_5, a_name_5, a_names_textsSize_5, a_names_texts_n_5, a_names_texts_f_5, a_names_ends_size_5, a_names_ends_items_n_5, a_names_ends_items_f_5, a_names_older_size_5, a_names_older_items_n_5, a_names_older_items_f_5, a_names_newest_f_5⟩, mk5, sk5⟩, hc5, hok⟩ := bd_some hok
          dsimp only at hok
          obtain ⟨m5, s5, hok, hmc5, hms5⟩ := al_some hok
          obtain ⟨hPc, hDc, hFc⟩ := cut0 (wc := [(a, .inr (6, [.ref a_tape, .ref a_names, .int a_kind, .int a_place, .int a_behind, .int a_passed, .int a_name, .long a_number])), (a_tape, .inr (0, [.ref a_tape_items, .int a_tape_size])), (a_tape_items, .inl (cs 1, a_tape_items_n, .inl a_tape_items_f)), (a_names, .inr (2, [.ref a_names_texts, .int a_names_textsSize, .ref a_names_ends, .ref a_names_older, .ref a_names_newest, .int a_names_sizeBefore])), (a_names_texts, .inl (cs 1, a_names_texts_n, .inl a_names_texts_f)), (a_names_ends, .inr (1, [.ref a_names_ends_items, .int a_names_ends_size])), (a_names_ends_items, .inl (cs 0, a_names_ends_items_n, .inl a_names_ends_items_f)), (a_names_older, .inr (1, [.ref a_names_older_items, .int a_names_older_size])), (a_names_older_items, .inl (cs 0, a_names_older_items_n, .inl a_names_older_items_f)), (a_names_newest, .inl (cs 0, a_names_newest_n, .inl a_names_newest_f))]) hP hD hS hA [0, 9, 1, 2, 3, 4, 5, 6, 7, 8] (by decide) rfl
          refine va_callv (va_runV (As := [.int x1_1]) (rest := []) ⟨hx, hb, hml, hown, hg⟩ (c_Signs_takeName l g cs ka a a_tape a_tape_items a_names a_names_texts a_names_ends a_names_ends_items a_names_older a_names_older_items a_names_newest H.size n x1_1 a_kind a_place a_behind a_passed a_name a_number a_tape_size a_tape_items_n a_tape_items_f a_names_textsSize a_names_sizeBefore a_names_texts_n a_names_texts_f a_names_ends_size a_names_ends_items_n a_names_ends_items_f a_names_older_size a_names_older_items_n a_names_older_items_f a_names_newest_n a_names_newest_f a_kind_5 a_behind_5 a_name_5 a_names_textsSize_5 a_names_texts_n_5 a_names_texts_f_5 a_names_ends_size_5 a_names_ends_items_n_5 a_names_ends_items_f_5 a_names_older_size_5 a_names_older_items_n_5 a_names_older_items_f_5 a_names_newest_f_5 mk5 sk5 hc5) (cwV (C := R_Signs) 1 hg (gw_V wd_477 wd_478 wd_479 wd_467 wd_476) rfl rfl rfl (by decide +kernel) ⟨Nat.le_of_ble_eq_true rfl, Nat.le_of_ble_eq_true rfl⟩) ⟨gP_blind, va_recv (q0 := 0) (ci := 6) (q := (R_Signs, F_Signs, 8)) hK hP rfl rfl, gP_pre hPc hDc hK hgl hkn hkr hS hFc⟩ rfl rfl hl.1 rfl (lv_room (Nat.le_of_ble_eq_true rfl)) d_Signs_takeSymbols_81 ⟨show cells1 + 0 + mk5 ≤ mc from by omega, show slots1 + 0 + sk5 ≤ ms from by omega⟩) hS (fun q _ h => hFc q h) hFc (fun u t H locs ht hvm hr5 hB hz1 hk1 hS => ?_)
          rw [ht] at hB
          obtain ⟨a_names_texts_5, a_names_ends_items_5, a_names_older_items_5, hP1, hD1⟩ := hB
          obtain ⟨hP, hD⟩ := jn_A hP hD [0, 9, 1, 2, 3, 4, 5, 6, 7, 8] [] rfl rfl (by decide) (by decide) hk1 hFc hP1 hD1
          obtain ⟨hP, hD⟩ : PD g A H [(a, .inr (6, [.ref a_tape, .ref a_names, .int a_kind_5, .int a_place, .int a_behind_5, .int a_passed, .int a_name_5, .long a_number])), (a_tape, .inr (0, [.ref a_tape_items, .int a_tape_size])), (a_tape_items, .inl (cs 1, a_tape_items_n, .inl a_tape_items_f)), (a_names, .inr (2, [.ref a_names_texts_5, .int a_names_textsSize_5, .ref a_names_ends, .ref a_names_older, .ref a_names_newest, .int a_names_sizeBefore])), (a_names_texts_5, .inl (cs 1, a_names_texts_n_5, .inl a_names_texts_f_5)), (a_names_ends, .inr (1, [.ref a_names_ends_items_5, .int a_names_ends_size_5])), (a_names_ends_items_5, .inl (cs 0, a_names_ends_items_n_5, .inl a_names_ends_items_f_5)), (a_names_older, .inr (1, [.ref a_names_older_items_5, .int a_names_older_size_5])), (a_names_older_items_5, .inl (cs 0, a_names_older_items_n_5, .inl a_names_older_items_f_5)), (a_names_newest, .inl (cs 0, a_names_newest_n, .inl a_names_newest_f_5))] := ⟨hP, hD⟩
          obtain ⟨hq, hw⟩ := Prod.mk.inj (Option.some.inj hok)
          obtain ⟨hmc0, hms0⟩ := Prod.mk.inj hw
          obtain ⟨hq0, hq⟩ := Prod.mk.inj hq
          obtain ⟨hq1, hq⟩ := Prod.mk.inj hq
          obtain ⟨hq2, hq⟩ := Prod.mk.inj hq
          obtain ⟨hq3, hq⟩ := Prod.mk.inj hq
          obtain ⟨hq4, hq⟩ := Prod.mk.inj hq
          obtain ⟨hq5, hq⟩ := Prod.mk.inj hq
          obtain ⟨hq6, hq⟩ := Prod.mk.inj hq
          obtain ⟨hq7, hq⟩ := Prod.mk.inj hq
          obtain ⟨hq8, hq⟩ := Prod.mk.inj hq
          obtain ⟨hq9, hq⟩ := Prod.mk.inj hq
          obtain ⟨hq10, hq⟩ := Prod.mk.inj hq
          obtain ⟨hq11, hq⟩ := Prod.mk.inj hq
          have hq12 := hq
          subst hq0
          subst hq1
          subst hq2
          subst hq3
          subst hq4
          subst hq5
          subst hq6
          subst hq7
          subst hq8
          subst hq9
          subst hq10
          subst hq11
          subst hq12
          obtain ⟨hP9, hD9⟩ := sub2 (ws' := [(a, .inr (6, [.ref a_tape, .ref a_names, .int a_kind_5, .int a_place, .int a_behind_5, .int a_passed, .int a_name_5, .long a_number])), (a_tape, .inr (0, [.ref a_tape_items, .int a_tape_size])), (a_tape_items, .inl (cs 1, a_tape_items_n, .inl a_tape_items_f)), (a_names, .inr (2, [.ref a_names_texts_5, .int a_names_textsSize_5, .ref a_names_ends, .ref a_names_older, .ref a_names_newest, .int a_names_sizeBefore])), (a_names_texts_5, .inl (cs 1, a_names_texts_n_5, .inl a_names_texts_f_5)), (a_names_ends, .inr (1, [.ref a_names_ends_items_5, .int a_names_ends_size_5])), (a_names_ends_items_5, .inl (cs 0, a_names_ends_items_n_5, .inl a_names_ends_items_f_5)), (a_names_older, .inr (1, [.ref a_names_older_items_5, .int a_names_older_size_5])), (a_names_older_items_5, .inl (cs 0, a_names_older_items_n_5, .inl a_names_older_items_f_5)), (a_names_newest, .inl (cs 0, a_names_newest_n, .inl a_names_newest_f_5))]) hP hD [0, 1, 2, 3, 4, 5, 6, 7, 8, 9] rfl (by decide) rfl
          refine W.widen (k := mc) (n := ms) (by omega) (by omega) ?_
          rw [hQ]
          exact W.vret hx hb hr (fun t ht hW => ⟨⟨(), rfl, trivial, a_names_texts_5, a_names_ends_items_5, a_names_older_items_5, by rw [ht]; exact hP9, hD9⟩, hS.F ht⟩) hS.2.2 d_Signs_takeSymbols_84
        · rw [if_pos h4] at hok
          refine lv_aload_n hx hb d_Signs_takeSymbols_46 rfl (lv_at hl 1 rfl) ?_
          refine va_get (D := g) (ci := 6) (v := .ref a_tape) (C := R_Signs) (T := F_Signs) (N := 8) hx hb hg ul_Signs hown hK hP 0 rfl rfl 0 (by decide) (hg _ wd_447) (fun _ h9 => h9) rfl d_Signs_takeSymbols_47 ?_
          refine lv_aload_n hx hb d_Signs_takeSymbols_50 rfl (lv_at hl 1 rfl) ?_
          refine va_get (D := g) (ci := 6) (v := .int a_place) (C := R_Signs) (T := F_Signs) (N := 8) hx hb hg ul_Signs hown hK hP 0 rfl rfl 3 (by decide) (hg _ wd_442) (fun _ h9 => h9) rfl d_Signs_takeSymbols_51 ?_
          obtain ⟨r6, hc6, hok⟩ := bd_some hok
          obtain ⟨hPc, hDc, hFc⟩ := cut0 (wc := [(a_tape, .inr (0, [.ref a_tape_items, .int a_tape_size])), (a_tape_items, .inl (cs 1, a_tape_items_n, .inl a_tape_items_f))]) hP hD hS hA [9, 1] (by decide) rfl
          refine va_calli (va_runV (As := [.int a_place]) (rest := []) ⟨hx, hb, hml, hown, hg⟩ (c_Bytes_at l g cs ka a_tape a_tape_items H.size a_place a_tape_size a_tape_items_n a_tape_items_f r6 hc6) (cwV (C := R_Bytes) 1 hg (gw_V wd_455 wd_456 wd_457 wd_450 wd_454) rfl rfl rfl (by decide +kernel) ⟨Nat.le_of_ble_eq_true rfl, Nat.le_of_ble_eq_true rfl⟩) ⟨gP_blind, va_recv (q0 := 9) (ci := 0) (q := (R_Bytes, F_Bytes, 2)) hK hP rfl rfl, gP_pre hPc hDc hK hgl hkn hkr hS hFc⟩ rfl rfl hl.1 rfl (lv_room (Nat.le_of_ble_eq_true rfl)) d_Signs_takeSymbols_54 ⟨show cells1 + 0 + 0 ≤ mc from by omega, show slots1 + 0 + 0 ≤ ms from by omega⟩) hS (fun q _ h => hFc q h) hFc (fun r6' u t H locs ht hvm hr6 hB hz1 hk1 hS => ?_)
          subst hr6
          rw [ht] at hB
          obtain ⟨hP1, hD1⟩ := hB
          obtain ⟨hP, hD⟩ := jn_A hP hD [9, 1] [0, 2, 3, 4, 5, 6, 7, 8] rfl rfl (by decide) (by decide) hk1 hFc hP1 hD1
          obtain ⟨hP, hD⟩ : PD g A H [(a, .inr (6, [.ref a_tape, .ref a_names, .int a_kind, .int a_place, .int a_behind, .int a_passed, .int a_name, .long a_number])), (a_names, .inr (2, [.ref a_names_texts, .int a_names_textsSize, .ref a_names_ends, .ref a_names_older, .ref a_names_newest, .int a_names_sizeBefore])), (a_names_texts, .inl (cs 1, a_names_texts_n, .inl a_names_texts_f)), (a_names_ends, .inr (1, [.ref a_names_ends_items, .int a_names_ends_size])), (a_names_ends_items, .inl (cs 0, a_names_ends_items_n, .inl a_names_ends_items_f)), (a_names_older, .inr (1, [.ref a_names_older_items, .int a_names_older_size])), (a_names_older_items, .inl (cs 0, a_names_older_items_n, .inl a_names_older_items_f)), (a_names_newest, .inl (cs 0, a_names_newest_n, .inl a_names_newest_f)), (a_tape, .inr (0, [.ref a_tape_items, .int a_tape_size])), (a_tape_items, .inl (cs 1, a_tape_items_n, .inl a_tape_items_f))] := ⟨hP, hD⟩
          refine lv_bipush (v := 46) hx hb d_Signs_takeSymbols_57 (by decide) ?_
          refine lv_icmp_ne hx hb d_Signs_takeSymbols_59 rfl (fun h7 => ?_) (fun h7 => ?_)
          · rw [if_neg h7] at hok
            refine lv_aload_n hx hb d_Signs_takeSymbols_79 rfl (lv_at hl 1 rfl) ?_
            refine lv_iload_n hx hb d_Signs_takeSymbols_80 rfl (lv_at hl 0 rfl) ?_
            obtain ⟨⟨⟨a_kind_8, a_behind_8, a_name_8, a_names_textsSize_8, a_names_texts_n_8, a_names_texts_f_8, a_names_ends_size_8, a_names_ends_items_n_8, a_names_ends_items_f_8, a_names_older_size_8, a_names_older_items_n_8, a_names_older_items_f_8, a_names_newest_f_8⟩, mk8, sk8⟩, hc8, hok⟩ := bd_some hok
            dsimp only at hok
            obtain ⟨m8, s8, hok, hmc8, hms8⟩ := al_some hok
            obtain ⟨hPc, hDc, hFc⟩ := cut0 (wc := [(a, .inr (6, [.ref a_tape, .ref a_names, .int a_kind, .int a_place, .int a_behind, .int a_passed, .int a_name, .long a_number])), (a_tape, .inr (0, [.ref a_tape_items, .int a_tape_size])), (a_tape_items, .inl (cs 1, a_tape_items_n, .inl a_tape_items_f)), (a_names, .inr (2, [.ref a_names_texts, .int a_names_textsSize, .ref a_names_ends, .ref a_names_older, .ref a_names_newest, .int a_names_sizeBefore])), (a_names_texts, .inl (cs 1, a_names_texts_n, .inl a_names_texts_f)), (a_names_ends, .inr (1, [.ref a_names_ends_items, .int a_names_ends_size])), (a_names_ends_items, .inl (cs 0, a_names_ends_items_n, .inl a_names_ends_items_f)), (a_names_older, .inr (1, [.ref a_names_older_items, .int a_names_older_size])), (a_names_older_items, .inl (cs 0, a_names_older_items_n, .inl a_names_older_items_f)), (a_names_newest, .inl (cs 0, a_names_newest_n, .inl a_names_newest_f))]) hP hD hS hA [0, 8, 9, 1, 2, 3, 4, 5, 6, 7] (by decide) rfl
            refine va_callv (va_runV (As := [.int x1_1]) (rest := []) ⟨hx, hb, hml, hown, hg⟩ (c_Signs_takeName l g cs ka a a_tape a_tape_items a_names a_names_texts a_names_ends a_names_ends_items a_names_older a_names_older_items a_names_newest H.size n x1_1 a_kind a_place a_behind a_passed a_name a_number a_tape_size a_tape_items_n a_tape_items_f a_names_textsSize a_names_sizeBefore a_names_texts_n a_names_texts_f a_names_ends_size a_names_ends_items_n a_names_ends_items_f a_names_older_size a_names_older_items_n a_names_older_items_f a_names_newest_n a_names_newest_f a_kind_8 a_behind_8 a_name_8 a_names_textsSize_8 a_names_texts_n_8 a_names_texts_f_8 a_names_ends_size_8 a_names_ends_items_n_8 a_names_ends_items_f_8 a_names_older_size_8 a_names_older_items_n_8 a_names_older_items_f_8 a_names_newest_f_8 mk8 sk8 hc8) (cwV (C := R_Signs) 1 hg (gw_V wd_477 wd_478 wd_479 wd_467 wd_476) rfl rfl rfl (by decide +kernel) ⟨Nat.le_of_ble_eq_true rfl, Nat.le_of_ble_eq_true rfl⟩) ⟨gP_blind, va_recv (q0 := 0) (ci := 6) (q := (R_Signs, F_Signs, 8)) hK hP rfl rfl, gP_pre hPc hDc hK hgl hkn hkr hS hFc⟩ rfl rfl hl.1 rfl (lv_room (Nat.le_of_ble_eq_true rfl)) d_Signs_takeSymbols_81 ⟨show cells1 + 0 + 0 + mk8 ≤ mc from by omega, show slots1 + 0 + 0 + sk8 ≤ ms from by omega⟩) hS (fun q _ h => hFc q h) hFc (fun u t H locs ht hvm hr8 hB hz1 hk1 hS => ?_)
            rw [ht] at hB
            obtain ⟨a_names_texts_8, a_names_ends_items_8, a_names_older_items_8, hP1, hD1⟩ := hB
            obtain ⟨hP, hD⟩ := jn_A hP hD [0, 8, 9, 1, 2, 3, 4, 5, 6, 7] [] rfl rfl (by decide) (by decide) hk1 hFc hP1 hD1
            obtain ⟨hP, hD⟩ : PD g A H [(a, .inr (6, [.ref a_tape, .ref a_names, .int a_kind_8, .int a_place, .int a_behind_8, .int a_passed, .int a_name_8, .long a_number])), (a_tape, .inr (0, [.ref a_tape_items, .int a_tape_size])), (a_tape_items, .inl (cs 1, a_tape_items_n, .inl a_tape_items_f)), (a_names, .inr (2, [.ref a_names_texts_8, .int a_names_textsSize_8, .ref a_names_ends, .ref a_names_older, .ref a_names_newest, .int a_names_sizeBefore])), (a_names_texts_8, .inl (cs 1, a_names_texts_n_8, .inl a_names_texts_f_8)), (a_names_ends, .inr (1, [.ref a_names_ends_items_8, .int a_names_ends_size_8])), (a_names_ends_items_8, .inl (cs 0, a_names_ends_items_n_8, .inl a_names_ends_items_f_8)), (a_names_older, .inr (1, [.ref a_names_older_items_8, .int a_names_older_size_8])), (a_names_older_items_8, .inl (cs 0, a_names_older_items_n_8, .inl a_names_older_items_f_8)), (a_names_newest, .inl (cs 0, a_names_newest_n, .inl a_names_newest_f_8))] := ⟨hP, hD⟩
            obtain ⟨hq, hw⟩ := Prod.mk.inj (Option.some.inj hok)
            obtain ⟨hmc0, hms0⟩ := Prod.mk.inj hw
            obtain ⟨hq0, hq⟩ := Prod.mk.inj hq
            obtain ⟨hq1, hq⟩ := Prod.mk.inj hq
            obtain ⟨hq2, hq⟩ := Prod.mk.inj hq
            obtain ⟨hq3, hq⟩ := Prod.mk.inj hq
            obtain ⟨hq4, hq⟩ := Prod.mk.inj hq
            obtain ⟨hq5, hq⟩ := Prod.mk.inj hq
            obtain ⟨hq6, hq⟩ := Prod.mk.inj hq
            obtain ⟨hq7, hq⟩ := Prod.mk.inj hq
            obtain ⟨hq8, hq⟩ := Prod.mk.inj hq
            obtain ⟨hq9, hq⟩ := Prod.mk.inj hq
            obtain ⟨hq10, hq⟩ := Prod.mk.inj hq
            obtain ⟨hq11, hq⟩ := Prod.mk.inj hq
            have hq12 := hq
            subst hq0
            subst hq1
            subst hq2
            subst hq3
            subst hq4
            subst hq5
            subst hq6
            subst hq7
            subst hq8
            subst hq9
            subst hq10
            subst hq11
            subst hq12
            obtain ⟨hP9, hD9⟩ := sub2 (ws' := [(a, .inr (6, [.ref a_tape, .ref a_names, .int a_kind_8, .int a_place, .int a_behind_8, .int a_passed, .int a_name_8, .long a_number])), (a_tape, .inr (0, [.ref a_tape_items, .int a_tape_size])), (a_tape_items, .inl (cs 1, a_tape_items_n, .inl a_tape_items_f)), (a_names, .inr (2, [.ref a_names_texts_8, .int a_names_textsSize_8, .ref a_names_ends, .ref a_names_older, .ref a_names_newest, .int a_names_sizeBefore])), (a_names_texts_8, .inl (cs 1, a_names_texts_n_8, .inl a_names_texts_f_8)), (a_names_ends, .inr (1, [.ref a_names_ends_items_8, .int a_names_ends_size_8])), (a_names_ends_items_8, .inl (cs 0, a_names_ends_items_n_8, .inl a_names_ends_items_f_8)), (a_names_older, .inr (1, [.ref a_names_older_items_8, .int a_names_older_size_8])), (a_names_older_items_8, .inl (cs 0, a_names_older_items_n_8, .inl a_names_older_items_f_8)), (a_names_newest, .inl (cs 0, a_names_newest_n, .inl a_names_newest_f_8))]) hP hD [0, 1, 2, 3, 4, 5, 6, 7, 8, 9] rfl (by decide) rfl
            refine W.widen (k := mc) (n := ms) (by omega) (by omega) ?_
            rw [hQ]
            exact W.vret hx hb hr (fun t ht hW => ⟨⟨(), rfl, trivial, a_names_texts_8, a_names_ends_items_8, a_names_older_items_8, by rw [ht]; exact hP9, hD9⟩, hS.F ht⟩) hS.2.2 d_Signs_takeSymbols_84
          · rw [if_pos h7] at hok
            refine lv_aload_n hx hb d_Signs_takeSymbols_62 rfl (lv_at hl 1 rfl) ?_
            refine lv_iload_n hx hb d_Signs_takeSymbols_63 rfl (lv_at hl 0 rfl) ?_
            obtain ⟨r9, hc9, hok⟩ := bd_some hok
            obtain ⟨hPc, hDc, hFc⟩ := cut0 (wc := [(a, .inr (6, [.ref a_tape, .ref a_names, .int a_kind, .int a_place, .int a_behind, .int a_passed, .int a_name, .long a_number])), (a_tape, .inr (0, [.ref a_tape_items, .int a_tape_size])), (a_tape_items, .inl (cs 1, a_tape_items_n, .inl a_tape_items_f))]) hP hD hS hA [0, 8, 9] (by decide) rfl
            refine va_calli (va_runV (As := [.int x1_1]) (rest := []) ⟨hx, hb, hml, hown, hg⟩ (c_Signs_isBehindEnd l g cs ka a_names a a_tape a_tape_items H.size x1_1 a_kind a_place a_behind a_passed a_name a_number a_tape_size a_tape_items_n a_tape_items_f r9 hc9) (cwV (C := R_Signs) 1 hg (gw_V wd_489 wd_490 wd_491 wd_467 wd_488) rfl rfl rfl (by decide +kernel) ⟨Nat.le_of_ble_eq_true rfl, Nat.le_of_ble_eq_true rfl⟩) ⟨gP_blind, va_recv (q0 := 0) (ci := 6) (q := (R_Signs, F_Signs, 8)) hK hP rfl rfl, gP_pre hPc hDc hK hgl hkn hkr hS hFc⟩ rfl rfl hl.1 rfl (lv_room (Nat.le_of_ble_eq_true rfl)) d_Signs_takeSymbols_64 ⟨show cells1 + 0 + 0 + 0 ≤ mc from by omega, show slots1 + 0 + 0 + 0 ≤ ms from by omega⟩) hS (fun q _ h => hFc q h) hFc (fun r9' u t H locs ht hvm hr9 hB hz1 hk1 hS => ?_)
            subst hr9
            rw [ht] at hB
            obtain ⟨hP1, hD1⟩ := hB
            obtain ⟨hP, hD⟩ := jn_A hP hD [0, 8, 9] [1, 2, 3, 4, 5, 6, 7] rfl rfl (by decide) (by decide) hk1 hFc hP1 hD1
            obtain ⟨hP, hD⟩ : PD g A H [(a_names, .inr (2, [.ref a_names_texts, .int a_names_textsSize, .ref a_names_ends, .ref a_names_older, .ref a_names_newest, .int a_names_sizeBefore])), (a_names_texts, .inl (cs 1, a_names_texts_n, .inl a_names_texts_f)), (a_names_ends, .inr (1, [.ref a_names_ends_items, .int a_names_ends_size])), (a_names_ends_items, .inl (cs 0, a_names_ends_items_n, .inl a_names_ends_items_f)), (a_names_older, .inr (1, [.ref a_names_older_items, .int a_names_older_size])), (a_names_older_items, .inl (cs 0, a_names_older_items_n, .inl a_names_older_items_f)), (a_names_newest, .inl (cs 0, a_names_newest_n, .inl a_names_newest_f)), (a, .inr (6, [.ref a_tape, .ref a_names, .int a_kind, .int a_place, .int a_behind, .int a_passed, .int a_name, .long a_number])), (a_tape, .inr (0, [.ref a_tape_items, .int a_tape_size])), (a_tape_items, .inl (cs 1, a_tape_items_n, .inl a_tape_items_f))] := ⟨hP, hD⟩
            refine lv_if_eq hx hb d_Signs_takeSymbols_67 rfl (fun h10 => ?_) (fun h10 => ?_)
            · rw [if_pos h10] at hok
              refine lv_aload_n hx hb d_Signs_takeSymbols_79 rfl (lv_at hl 1 rfl) ?_
              refine lv_iload_n hx hb d_Signs_takeSymbols_80 rfl (lv_at hl 0 rfl) ?_
              obtain ⟨⟨⟨a_kind_11, a_behind_11, a_name_11, a_names_textsSize_11, a_names_texts_n_11, a_names_texts_f_11, a_names_ends_size_11, a_names_ends_items_n_11, a_names_ends_items_f_11, a_names_older_size_11, a_names_older_items_n_11, a_names_older_items_f_11, a_names_newest_f_11⟩, mk11, sk11⟩, hc11, hok⟩ := bd_some hok
              dsimp only at hok
              obtain ⟨m11, s11, hok, hmc11, hms11⟩ := al_some hok
              obtain ⟨hPc, hDc, hFc⟩ := cut0 (wc := [(a, .inr (6, [.ref a_tape, .ref a_names, .int a_kind, .int a_place, .int a_behind, .int a_passed, .int a_name, .long a_number])), (a_tape, .inr (0, [.ref a_tape_items, .int a_tape_size])), (a_tape_items, .inl (cs 1, a_tape_items_n, .inl a_tape_items_f)), (a_names, .inr (2, [.ref a_names_texts, .int a_names_textsSize, .ref a_names_ends, .ref a_names_older, .ref a_names_newest, .int a_names_sizeBefore])), (a_names_texts, .inl (cs 1, a_names_texts_n, .inl a_names_texts_f)), (a_names_ends, .inr (1, [.ref a_names_ends_items, .int a_names_ends_size])), (a_names_ends_items, .inl (cs 0, a_names_ends_items_n, .inl a_names_ends_items_f)), (a_names_older, .inr (1, [.ref a_names_older_items, .int a_names_older_size])), (a_names_older_items, .inl (cs 0, a_names_older_items_n, .inl a_names_older_items_f)), (a_names_newest, .inl (cs 0, a_names_newest_n, .inl a_names_newest_f))]) hP hD hS hA [7, 8, 9, 0, 1, 2, 3, 4, 5, 6] (by decide) rfl
              refine va_callv (va_runV (As := [.int x1_1]) (rest := []) ⟨hx, hb, hml, hown, hg⟩ (c_Signs_takeName l g cs ka a a_tape a_tape_items a_names a_names_texts a_names_ends a_names_ends_items a_names_older a_names_older_items a_names_newest H.size n x1_1 a_kind a_place a_behind a_passed a_name a_number a_tape_size a_tape_items_n a_tape_items_f a_names_textsSize a_names_sizeBefore a_names_texts_n a_names_texts_f a_names_ends_size a_names_ends_items_n a_names_ends_items_f a_names_older_size a_names_older_items_n a_names_older_items_f a_names_newest_n a_names_newest_f a_kind_11 a_behind_11 a_name_11 a_names_textsSize_11 a_names_texts_n_11 a_names_texts_f_11 a_names_ends_size_11 a_names_ends_items_n_11 a_names_ends_items_f_11 a_names_older_size_11 a_names_older_items_n_11 a_names_older_items_f_11 a_names_newest_f_11 mk11 sk11 hc11) (cwV (C := R_Signs) 1 hg (gw_V wd_477 wd_478 wd_479 wd_467 wd_476) rfl rfl rfl (by decide +kernel) ⟨Nat.le_of_ble_eq_true rfl, Nat.le_of_ble_eq_true rfl⟩) ⟨gP_blind, va_recv (q0 := 7) (ci := 6) (q := (R_Signs, F_Signs, 8)) hK hP rfl rfl, gP_pre hPc hDc hK hgl hkn hkr hS hFc⟩ rfl rfl hl.1 rfl (lv_room (Nat.le_of_ble_eq_true rfl)) d_Signs_takeSymbols_81 ⟨show cells1 + 0 + 0 + 0 + mk11 ≤ mc from by omega, show slots1 + 0 + 0 + 0 + sk11 ≤ ms from by omega⟩) hS (fun q _ h => hFc q h) hFc (fun u t H locs ht hvm hr11 hB hz1 hk1 hS => ?_)
              rw [ht] at hB
              obtain ⟨a_names_texts_11, a_names_ends_items_11, a_names_older_items_11, hP1, hD1⟩ := hB
              obtain ⟨hP, hD⟩ := jn_A hP hD [7, 8, 9, 0, 1, 2, 3, 4, 5, 6] [] rfl rfl (by decide) (by decide) hk1 hFc hP1 hD1
              obtain ⟨hP, hD⟩ : PD g A H [(a, .inr (6, [.ref a_tape, .ref a_names, .int a_kind_11, .int a_place, .int a_behind_11, .int a_passed, .int a_name_11, .long a_number])), (a_tape, .inr (0, [.ref a_tape_items, .int a_tape_size])), (a_tape_items, .inl (cs 1, a_tape_items_n, .inl a_tape_items_f)), (a_names, .inr (2, [.ref a_names_texts_11, .int a_names_textsSize_11, .ref a_names_ends, .ref a_names_older, .ref a_names_newest, .int a_names_sizeBefore])), (a_names_texts_11, .inl (cs 1, a_names_texts_n_11, .inl a_names_texts_f_11)), (a_names_ends, .inr (1, [.ref a_names_ends_items_11, .int a_names_ends_size_11])), (a_names_ends_items_11, .inl (cs 0, a_names_ends_items_n_11, .inl a_names_ends_items_f_11)), (a_names_older, .inr (1, [.ref a_names_older_items_11, .int a_names_older_size_11])), (a_names_older_items_11, .inl (cs 0, a_names_older_items_n_11, .inl a_names_older_items_f_11)), (a_names_newest, .inl (cs 0, a_names_newest_n, .inl a_names_newest_f_11))] := ⟨hP, hD⟩
              obtain ⟨hq, hw⟩ := Prod.mk.inj (Option.some.inj hok)
              obtain ⟨hmc0, hms0⟩ := Prod.mk.inj hw
              obtain ⟨hq0, hq⟩ := Prod.mk.inj hq
              obtain ⟨hq1, hq⟩ := Prod.mk.inj hq
              obtain ⟨hq2, hq⟩ := Prod.mk.inj hq
              obtain ⟨hq3, hq⟩ := Prod.mk.inj hq
              obtain ⟨hq4, hq⟩ := Prod.mk.inj hq
              obtain ⟨hq5, hq⟩ := Prod.mk.inj hq
              obtain ⟨hq6, hq⟩ := Prod.mk.inj hq
              obtain ⟨hq7, hq⟩ := Prod.mk.inj hq
              obtain ⟨hq8, hq⟩ := Prod.mk.inj hq
              obtain ⟨hq9, hq⟩ := Prod.mk.inj hq
              obtain ⟨hq10, hq⟩ := Prod.mk.inj hq
              obtain ⟨hq11, hq⟩ := Prod.mk.inj hq
              have hq12 := hq
              subst hq0
              subst hq1
              subst hq2
              subst hq3
              subst hq4
              subst hq5
              subst hq6
              subst hq7
              subst hq8
              subst hq9
              subst hq10
              subst hq11
              subst hq12
              obtain ⟨hP9, hD9⟩ := sub2 (ws' := [(a, .inr (6, [.ref a_tape, .ref a_names, .int a_kind_11, .int a_place, .int a_behind_11, .int a_passed, .int a_name_11, .long a_number])), (a_tape, .inr (0, [.ref a_tape_items, .int a_tape_size])), (a_tape_items, .inl (cs 1, a_tape_items_n, .inl a_tape_items_f)), (a_names, .inr (2, [.ref a_names_texts_11, .int a_names_textsSize_11, .ref a_names_ends, .ref a_names_older, .ref a_names_newest, .int a_names_sizeBefore])), (a_names_texts_11, .inl (cs 1, a_names_texts_n_11, .inl a_names_texts_f_11)), (a_names_ends, .inr (1, [.ref a_names_ends_items_11, .int a_names_ends_size_11])), (a_names_ends_items_11, .inl (cs 0, a_names_ends_items_n_11, .inl a_names_ends_items_f_11)), (a_names_older, .inr (1, [.ref a_names_older_items_11, .int a_names_older_size_11])), (a_names_older_items_11, .inl (cs 0, a_names_older_items_n_11, .inl a_names_older_items_f_11)), (a_names_newest, .inl (cs 0, a_names_newest_n, .inl a_names_newest_f_11))]) hP hD [0, 1, 2, 3, 4, 5, 6, 7, 8, 9] rfl (by decide) rfl
              refine W.widen (k := mc) (n := ms) (by omega) (by omega) ?_
              rw [hQ]
              exact W.vret hx hb hr (fun t ht hW => ⟨⟨(), rfl, trivial, a_names_texts_11, a_names_ends_items_11, a_names_older_items_11, by rw [ht]; exact hP9, hD9⟩, hS.F ht⟩) hS.2.2 d_Signs_takeSymbols_84
            · rw [if_neg h10] at hok
              refine lv_aload_n hx hb d_Signs_takeSymbols_70 rfl (lv_at hl 1 rfl) ?_
              refine lv_iconst (v := 4) hx hb d_Signs_takeSymbols_71 (by decide) ?_
              refine lv_iload_n hx hb d_Signs_takeSymbols_72 rfl (lv_at hl 0 rfl) ?_
              obtain ⟨⟨a_kind_12, a_behind_12⟩, hc12, hok⟩ := bd_some hok
              dsimp only at hok
              obtain ⟨hPc, hDc, hFc⟩ := cut0 (wc := [(a, .inr (6, [.ref a_tape, .ref a_names, .int a_kind, .int a_place, .int a_behind, .int a_passed, .int a_name, .long a_number]))]) hP hD hS hA [7] (by decide) rfl
              refine va_callv (va_runV (As := [.int 4, .int x1_1]) (rest := []) ⟨hx, hb, hml, hown, hg⟩ (c_Signs_takeTo l g cs ka a_tape a_names a H.size (4 : Int32) x1_1 a_kind a_place a_behind a_passed a_name a_number a_kind_12 a_behind_12 hc12) (cwV (C := R_Signs) 2 hg (gw_V wd_468 wd_469 wd_470 wd_467 wd_466) rfl rfl rfl (by decide +kernel) ⟨Nat.le_of_ble_eq_true rfl, Nat.le_of_ble_eq_true rfl⟩) ⟨gP_blind, va_recv (q0 := 7) (ci := 6) (q := (R_Signs, F_Signs, 8)) hK hP rfl rfl, gP_pre hPc hDc hK hgl hkn hkr hS hFc⟩ rfl rfl hl.1 rfl (lv_room (Nat.le_of_ble_eq_true rfl)) d_Signs_takeSymbols_73 ⟨show cells1 + 0 + 0 + 0 + 0 ≤ mc from by omega, show slots1 + 0 + 0 + 0 + 0 ≤ ms from by omega⟩) hS (fun q _ h => hFc q h) hFc (fun u t H locs ht hvm hr12 hB hz1 hk1 hS => ?_)
              rw [ht] at hB
              obtain ⟨hP1, hD1⟩ := hB
              obtain ⟨hP, hD⟩ := jn_A hP hD [7] [0, 1, 2, 3, 4, 5, 6, 8, 9] rfl rfl (by decide) (by decide) hk1 hFc hP1 hD1
              obtain ⟨hP, hD⟩ : PD g A H [(a_names, .inr (2, [.ref a_names_texts, .int a_names_textsSize, .ref a_names_ends, .ref a_names_older, .ref a_names_newest, .int a_names_sizeBefore])), (a_names_texts, .inl (cs 1, a_names_texts_n, .inl a_names_texts_f)), (a_names_ends, .inr (1, [.ref a_names_ends_items, .int a_names_ends_size])), (a_names_ends_items, .inl (cs 0, a_names_ends_items_n, .inl a_names_ends_items_f)), (a_names_older, .inr (1, [.ref a_names_older_items, .int a_names_older_size])), (a_names_older_items, .inl (cs 0, a_names_older_items_n, .inl a_names_older_items_f)), (a_names_newest, .inl (cs 0, a_names_newest_n, .inl a_names_newest_f)), (a_tape, .inr (0, [.ref a_tape_items, .int a_tape_size])), (a_tape_items, .inl (cs 1, a_tape_items_n, .inl a_tape_items_f)), (a, .inr (6, [.ref a_tape, .ref a_names, .int a_kind_12, .int a_place, .int a_behind_12, .int a_passed, .int a_name, .long a_number]))] := ⟨hP, hD⟩
              refine lv_goto hx hb d_Signs_takeSymbols_76 rfl ?_
              obtain ⟨hq, hw⟩ := Prod.mk.inj (Option.some.inj hok)
              obtain ⟨hmc0, hms0⟩ := Prod.mk.inj hw
              obtain ⟨hq0, hq⟩ := Prod.mk.inj hq
              obtain ⟨hq1, hq⟩ := Prod.mk.inj hq
              obtain ⟨hq2, hq⟩ := Prod.mk.inj hq
              obtain ⟨hq3, hq⟩ := Prod.mk.inj hq
              obtain ⟨hq4, hq⟩ := Prod.mk.inj hq
              obtain ⟨hq5, hq⟩ := Prod.mk.inj hq
              obtain ⟨hq6, hq⟩ := Prod.mk.inj hq
              obtain ⟨hq7, hq⟩ := Prod.mk.inj hq
              obtain ⟨hq8, hq⟩ := Prod.mk.inj hq
              obtain ⟨hq9, hq⟩ := Prod.mk.inj hq
              obtain ⟨hq10, hq⟩ := Prod.mk.inj hq
              obtain ⟨hq11, hq⟩ := Prod.mk.inj hq
              have hq12 := hq
              subst hq0
              subst hq1
              subst hq2
              subst hq3
              subst hq4
              subst hq5
              subst hq6
              subst hq7
              subst hq8
              subst hq9
              subst hq10
              subst hq11
              subst hq12
              obtain ⟨hP9, hD9⟩ := sub2 (ws' := [(a, .inr (6, [.ref a_tape, .ref a_names, .int a_kind_12, .int a_place, .int a_behind_12, .int a_passed, .int a_name, .long a_number])), (a_tape, .inr (0, [.ref a_tape_items, .int a_tape_size])), (a_tape_items, .inl (cs 1, a_tape_items_n, .inl a_tape_items_f)), (a_names, .inr (2, [.ref a_names_texts, .int a_names_textsSize, .ref a_names_ends, .ref a_names_older, .ref a_names_newest, .int a_names_sizeBefore])), (a_names_texts, .inl (cs 1, a_names_texts_n, .inl a_names_texts_f)), (a_names_ends, .inr (1, [.ref a_names_ends_items, .int a_names_ends_size])), (a_names_ends_items, .inl (cs 0, a_names_ends_items_n, .inl a_names_ends_items_f)), (a_names_older, .inr (1, [.ref a_names_older_items, .int a_names_older_size])), (a_names_older_items, .inl (cs 0, a_names_older_items_n, .inl a_names_older_items_f)), (a_names_newest, .inl (cs 0, a_names_newest_n, .inl a_names_newest_f))]) hP hD [9, 7, 8, 0, 1, 2, 3, 4, 5, 6] rfl (by decide) rfl
              refine W.widen (k := mc) (n := ms) (by omega) (by omega) ?_
              rw [hQ]
              exact W.vret hx hb hr (fun t ht hW => ⟨⟨(), rfl, trivial, a_names_texts, a_names_ends_items, a_names_older_items, by rw [ht]; exact hP9, hD9⟩, hS.F ht⟩) hS.2.2 d_Signs_takeSymbols_84
      · rw [if_neg h3] at hok
        refine lv_aload_n hx hb d_Signs_takeSymbols_16 rfl (lv_at hl 1 rfl) ?_
        refine va_get (D := g) (ci := 6) (v := .ref a_tape) (C := R_Signs) (T := F_Signs) (N := 8) hx hb hg ul_Signs hown hK hP 0 rfl rfl 0 (by decide) (hg _ wd_447) (fun _ h9 => h9) rfl d_Signs_takeSymbols_17 ?_
        refine lv_iload_n hx hb d_Signs_takeSymbols_20 rfl (lv_at hl 0 rfl) ?_
        obtain ⟨r13, hc13, hok⟩ := bd_some hok
        obtain ⟨hPc, hDc, hFc⟩ := cut0 (wc := [(a_tape, .inr (0, [.ref a_tape_items, .int a_tape_size])), (a_tape_items, .inl (cs 1, a_tape_items_n, .inl a_tape_items_f))]) hP hD hS hA [9, 1] (by decide) rfl
        refine va_calli (va_runV (As := [.int x1_1]) (rest := []) ⟨hx, hb, hml, hown, hg⟩ (c_Bytes_at l g cs ka a_tape a_tape_items H.size x1_1 a_tape_size a_tape_items_n a_tape_items_f r13 hc13) (cwV (C := R_Bytes) 1 hg (gw_V wd_455 wd_456 wd_457 wd_450 wd_454) rfl rfl rfl (by decide +kernel) ⟨Nat.le_of_ble_eq_true rfl, Nat.le_of_ble_eq_true rfl⟩) ⟨gP_blind, va_recv (q0 := 9) (ci := 0) (q := (R_Bytes, F_Bytes, 2)) hK hP rfl rfl, gP_pre hPc hDc hK hgl hkn hkr hS hFc⟩ rfl rfl hl.1 rfl (lv_room (Nat.le_of_ble_eq_true rfl)) d_Signs_takeSymbols_21 ⟨show cells1 + 0 + 0 ≤ mc from by omega, show slots1 + 0 + 0 ≤ ms from by omega⟩) hS (fun q _ h => hFc q h) hFc (fun r13' u t H locs ht hvm hr13 hB hz1 hk1 hS => ?_)
        subst hr13
        rw [ht] at hB
        obtain ⟨hP1, hD1⟩ := hB
        obtain ⟨hP, hD⟩ := jn_A hP hD [9, 1] [0, 2, 3, 4, 5, 6, 7, 8] rfl rfl (by decide) (by decide) hk1 hFc hP1 hD1
        obtain ⟨hP, hD⟩ : PD g A H [(a, .inr (6, [.ref a_tape, .ref a_names, .int a_kind, .int a_place, .int a_behind, .int a_passed, .int a_name, .long a_number])), (a_names, .inr (2, [.ref a_names_texts, .int a_names_textsSize, .ref a_names_ends, .ref a_names_older, .ref a_names_newest, .int a_names_sizeBefore])), (a_names_texts, .inl (cs 1, a_names_texts_n, .inl a_names_texts_f)), (a_names_ends, .inr (1, [.ref a_names_ends_items, .int a_names_ends_size])), (a_names_ends_items, .inl (cs 0, a_names_ends_items_n, .inl a_names_ends_items_f)), (a_names_older, .inr (1, [.ref a_names_older_items, .int a_names_older_size])), (a_names_older_items, .inl (cs 0, a_names_older_items_n, .inl a_names_older_items_f)), (a_names_newest, .inl (cs 0, a_names_newest_n, .inl a_names_newest_f)), (a_tape, .inr (0, [.ref a_tape_items, .int a_tape_size])), (a_tape_items, .inl (cs 1, a_tape_items_n, .inl a_tape_items_f))] := ⟨hP, hD⟩
        obtain ⟨r14, hc14, hok⟩ := bd_some hok
        obtain ⟨hPc, hDc, hFc⟩ := cut0 (wc := []) hP hD hS hA [] (by decide) rfl
        refine va_calli (va_runS (As := [.int r13]) (rest := []) ⟨hx, hb, hml, hown, hg⟩ (c_Letters_isSymbol l g cs ka H.size n r13 r14 hc14) (va_cwS 1 hg (gw_S wd_493 wd_494 wd_217 wd_492) rfl rfl rfl (by decide +kernel) ⟨Nat.le_of_ble_eq_true rfl, Nat.le_of_ble_eq_true rfl⟩) ⟨gP_blind, gP_pre hPc hDc hK hgl hkn hkr hS hFc⟩ rfl rfl hl.1 rfl (lv_room (Nat.le_of_ble_eq_true rfl)) d_Signs_takeSymbols_24 ⟨show cells1 + 0 + 0 + 0 ≤ mc from by omega, show slots1 + 0 + 0 + 0 ≤ ms from by omega⟩) hS (fun q _ h => hFc q h) hFc (fun r14' u t H locs ht hvm hr14 hB hz1 hk1 hS => ?_)
        subst hr14
        rw [ht] at hB
        obtain ⟨hP1, hD1⟩ := hB
        obtain ⟨hP, hD⟩ := jn_A hP hD [] [0, 1, 2, 3, 4, 5, 6, 7, 8, 9] rfl rfl (by decide) (by decide) hk1 hFc hP1 hD1
        obtain ⟨hP, hD⟩ : PD g A H [(a, .inr (6, [.ref a_tape, .ref a_names, .int a_kind, .int a_place, .int a_behind, .int a_passed, .int a_name, .long a_number])), (a_names, .inr (2, [.ref a_names_texts, .int a_names_textsSize, .ref a_names_ends, .ref a_names_older, .ref a_names_newest, .int a_names_sizeBefore])), (a_names_texts, .inl (cs 1, a_names_texts_n, .inl a_names_texts_f)), (a_names_ends, .inr (1, [.ref a_names_ends_items, .int a_names_ends_size])), (a_names_ends_items, .inl (cs 0, a_names_ends_items_n, .inl a_names_ends_items_f)), (a_names_older, .inr (1, [.ref a_names_older_items, .int a_names_older_size])), (a_names_older_items, .inl (cs 0, a_names_older_items_n, .inl a_names_older_items_f)), (a_names_newest, .inl (cs 0, a_names_newest_n, .inl a_names_newest_f)), (a_tape, .inr (0, [.ref a_tape_items, .int a_tape_size])), (a_tape_items, .inl (cs 1, a_tape_items_n, .inl a_tape_items_f))] := ⟨hP, hD⟩
        refine lv_if_eq hx hb d_Signs_takeSymbols_27 rfl (fun h15 => ?_) (fun h15 => ?_)
        · rw [if_pos h15] at hok
          refine lv_iload_n hx hb d_Signs_takeSymbols_36 rfl (lv_at hl 0 rfl) ?_
          refine lv_aload_n hx hb d_Signs_takeSymbols_37 rfl (lv_at hl 1 rfl) ?_
          refine va_get (D := g) (ci := 6) (v := .int a_place) (C := R_Signs) (T := F_Signs) (N := 8) hx hb hg ul_Signs hown hK hP 0 rfl rfl 3 (by decide) (hg _ wd_442) (fun _ h9 => h9) rfl d_Signs_takeSymbols_38 ?_
          refine lv_iconst (v := 1) hx hb d_Signs_takeSymbols_41 (by decide) ?_
          refine lv_iadd hx hb d_Signs_takeSymbols_42 ?_
          refine lv_icmp_ne hx hb d_Signs_takeSymbols_43 rfl (fun h16 => ?_) (fun h16 => ?_)
          · rw [if_neg h16] at hok
            refine lv_aload_n hx hb d_Signs_takeSymbols_79 rfl (lv_at hl 1 rfl) ?_
            refine lv_iload_n hx hb d_Signs_takeSymbols_80 rfl (lv_at hl 0 rfl) ?_
            obtain ⟨⟨⟨a_kind_17, a_behind_17, a_name_17, a_names_textsSize_17, a_names_texts_n_17, a_names_texts_f_17, a_names_ends_size_17, a_names_ends_items_n_17, a_names_ends_items_f_17, a_names_older_size_17, a_names_older_items_n_17, a_names_older_items_f_17, a_names_newest_f_17⟩, mk17, sk17⟩, hc17, hok⟩ := bd_some hok
            dsimp only at hok
            obtain ⟨m17, s17, hok, hmc17, hms17⟩ := al_some hok
            obtain ⟨hPc, hDc, hFc⟩ := cut0 (wc := [(a, .inr (6, [.ref a_tape, .ref a_names, .int a_kind, .int a_place, .int a_behind, .int a_passed, .int a_name, .long a_number])), (a_tape, .inr (0, [.ref a_tape_items, .int a_tape_size])), (a_tape_items, .inl (cs 1, a_tape_items_n, .inl a_tape_items_f)), (a_names, .inr (2, [.ref a_names_texts, .int a_names_textsSize, .ref a_names_ends, .ref a_names_older, .ref a_names_newest, .int a_names_sizeBefore])), (a_names_texts, .inl (cs 1, a_names_texts_n, .inl a_names_texts_f)), (a_names_ends, .inr (1, [.ref a_names_ends_items, .int a_names_ends_size])), (a_names_ends_items, .inl (cs 0, a_names_ends_items_n, .inl a_names_ends_items_f)), (a_names_older, .inr (1, [.ref a_names_older_items, .int a_names_older_size])), (a_names_older_items, .inl (cs 0, a_names_older_items_n, .inl a_names_older_items_f)), (a_names_newest, .inl (cs 0, a_names_newest_n, .inl a_names_newest_f))]) hP hD hS hA [0, 8, 9, 1, 2, 3, 4, 5, 6, 7] (by decide) rfl
            refine va_callv (va_runV (As := [.int x1_1]) (rest := []) ⟨hx, hb, hml, hown, hg⟩ (c_Signs_takeName l g cs ka a a_tape a_tape_items a_names a_names_texts a_names_ends a_names_ends_items a_names_older a_names_older_items a_names_newest H.size n x1_1 a_kind a_place a_behind a_passed a_name a_number a_tape_size a_tape_items_n a_tape_items_f a_names_textsSize a_names_sizeBefore a_names_texts_n a_names_texts_f a_names_ends_size a_names_ends_items_n a_names_ends_items_f a_names_older_size a_names_older_items_n a_names_older_items_f a_names_newest_n a_names_newest_f a_kind_17 a_behind_17 a_name_17 a_names_textsSize_17 a_names_texts_n_17 a_names_texts_f_17 a_names_ends_size_17 a_names_ends_items_n_17 a_names_ends_items_f_17 a_names_older_size_17 a_names_older_items_n_17 a_names_older_items_f_17 a_names_newest_f_17 mk17 sk17 hc17) (cwV (C := R_Signs) 1 hg (gw_V wd_477 wd_478 wd_479 wd_467 wd_476) rfl rfl rfl (by decide +kernel) ⟨Nat.le_of_ble_eq_true rfl, Nat.le_of_ble_eq_true rfl⟩) ⟨gP_blind, va_recv (q0 := 0) (ci := 6) (q := (R_Signs, F_Signs, 8)) hK hP rfl rfl, gP_pre hPc hDc hK hgl hkn hkr hS hFc⟩ rfl rfl hl.1 rfl (lv_room (Nat.le_of_ble_eq_true rfl)) d_Signs_takeSymbols_81 ⟨show cells1 + 0 + 0 + 0 + mk17 ≤ mc from by omega, show slots1 + 0 + 0 + 0 + sk17 ≤ ms from by omega⟩) hS (fun q _ h => hFc q h) hFc (fun u t H locs ht hvm hr17 hB hz1 hk1 hS => ?_)
            rw [ht] at hB
            obtain ⟨a_names_texts_17, a_names_ends_items_17, a_names_older_items_17, hP1, hD1⟩ := hB
            obtain ⟨hP, hD⟩ := jn_A hP hD [0, 8, 9, 1, 2, 3, 4, 5, 6, 7] [] rfl rfl (by decide) (by decide) hk1 hFc hP1 hD1
            obtain ⟨hP, hD⟩ : PD g A H [(a, .inr (6, [.ref a_tape, .ref a_names, .int a_kind_17, .int a_place, .int a_behind_17, .int a_passed, .int a_name_17, .long a_number])), (a_tape, .inr (0, [.ref a_tape_items, .int a_tape_size])), (a_tape_items, .inl (cs 1, a_tape_items_n, .inl a_tape_items_f)), (a_names, .inr (2, [.ref a_names_texts_17, .int a_names_textsSize_17, .ref a_names_ends, .ref a_names_older, .ref a_names_newest, .int a_names_sizeBefore])), (a_names_texts_17, .inl (cs 1, a_names_texts_n_17, .inl a_names_texts_f_17)), (a_names_ends, .inr (1, [.ref a_names_ends_items_17, .int a_names_ends_size_17])), (a_names_ends_items_17, .inl (cs 0, a_names_ends_items_n_17, .inl a_names_ends_items_f_17)), (a_names_older, .inr (1, [.ref a_names_older_items_17, .int a_names_older_size_17])), (a_names_older_items_17, .inl (cs 0, a_names_older_items_n_17, .inl a_names_older_items_f_17)), (a_names_newest, .inl (cs 0, a_names_newest_n, .inl a_names_newest_f_17))] := ⟨hP, hD⟩
            obtain ⟨hq, hw⟩ := Prod.mk.inj (Option.some.inj hok)
            obtain ⟨hmc0, hms0⟩ := Prod.mk.inj hw
            obtain ⟨hq0, hq⟩ := Prod.mk.inj hq
            obtain ⟨hq1, hq⟩ := Prod.mk.inj hq
            obtain ⟨hq2, hq⟩ := Prod.mk.inj hq
            obtain ⟨hq3, hq⟩ := Prod.mk.inj hq
            obtain ⟨hq4, hq⟩ := Prod.mk.inj hq
            obtain ⟨hq5, hq⟩ := Prod.mk.inj hq
            obtain ⟨hq6, hq⟩ := Prod.mk.inj hq
            obtain ⟨hq7, hq⟩ := Prod.mk.inj hq
            obtain ⟨hq8, hq⟩ := Prod.mk.inj hq
            obtain ⟨hq9, hq⟩ := Prod.mk.inj hq
            obtain ⟨hq10, hq⟩ := Prod.mk.inj hq
            obtain ⟨hq11, hq⟩ := Prod.mk.inj hq
            have hq12 := hq
            subst hq0
            subst hq1
            subst hq2
            subst hq3
            subst hq4
            subst hq5
            subst hq6
            subst hq7
            subst hq8
            subst hq9
            subst hq10
            subst hq11
            subst hq12
            obtain ⟨hP9, hD9⟩ := sub2 (ws' := [(a, .inr (6, [.ref a_tape, .ref a_names, .int a_kind_17, .int a_place, .int a_behind_17, .int a_passed, .int a_name_17, .long a_number])), (a_tape, .inr (0, [.ref a_tape_items, .int a_tape_size])), (a_tape_items, .inl (cs 1, a_tape_items_n, .inl a_tape_items_f)), (a_names, .inr (2, [.ref a_names_texts_17, .int a_names_textsSize_17, .ref a_names_ends, .ref a_names_older, .ref a_names_newest, .int a_names_sizeBefore])), (a_names_texts_17, .inl (cs 1, a_names_texts_n_17, .inl a_names_texts_f_17)), (a_names_ends, .inr (1, [.ref a_names_ends_items_17, .int a_names_ends_size_17])), (a_names_ends_items_17, .inl (cs 0, a_names_ends_items_n_17, .inl a_names_ends_items_f_17)), (a_names_older, .inr (1, [.ref a_names_older_items_17, .int a_names_older_size_17])), (a_names_older_items_17, .inl (cs 0, a_names_older_items_n_17, .inl a_names_older_items_f_17)), (a_names_newest, .inl (cs 0, a_names_newest_n, .inl a_names_newest_f_17))]) hP hD [0, 1, 2, 3, 4, 5, 6, 7, 8, 9] rfl (by decide) rfl
            refine W.widen (k := mc) (n := ms) (by omega) (by omega) ?_
            rw [hQ]
            exact W.vret hx hb hr (fun t ht hW => ⟨⟨(), rfl, trivial, a_names_texts_17, a_names_ends_items_17, a_names_older_items_17, by rw [ht]; exact hP9, hD9⟩, hS.F ht⟩) hS.2.2 d_Signs_takeSymbols_84
          · rw [if_pos h16] at hok
            refine lv_aload_n hx hb d_Signs_takeSymbols_46 rfl (lv_at hl 1 rfl) ?_
            refine va_get (D := g) (ci := 6) (v := .ref a_tape) (C := R_Signs) (T := F_Signs) (N := 8) hx hb hg ul_Signs hown hK hP 0 rfl rfl 0 (by decide) (hg _ wd_447) (fun _ h9 => h9) rfl d_Signs_takeSymbols_47 ?_
            refine lv_aload_n hx hb d_Signs_takeSymbols_50 rfl (lv_at hl 1 rfl) ?_
            refine va_get (D := g) (ci := 6) (v := .int a_place) (C := R_Signs) (T := F_Signs) (N := 8) hx hb hg ul_Signs hown hK hP 0 rfl rfl 3 (by decide) (hg _ wd_442) (fun _ h9 => h9) rfl d_Signs_takeSymbols_51 ?_
            obtain ⟨r18, hc18, hok⟩ := bd_some hok
            obtain ⟨hPc, hDc, hFc⟩ := cut0 (wc := [(a_tape, .inr (0, [.ref a_tape_items, .int a_tape_size])), (a_tape_items, .inl (cs 1, a_tape_items_n, .inl a_tape_items_f))]) hP hD hS hA [8, 9] (by decide) rfl
            refine va_calli (va_runV (As := [.int a_place]) (rest := []) ⟨hx, hb, hml, hown, hg⟩ (c_Bytes_at l g cs ka a_tape a_tape_items H.size a_place a_tape_size a_tape_items_n a_tape_items_f r18 hc18) (cwV (C := R_Bytes) 1 hg (gw_V wd_455 wd_456 wd_457 wd_450 wd_454) rfl rfl rfl (by decide +kernel) ⟨Nat.le_of_ble_eq_true rfl, Nat.le_of_ble_eq_true rfl⟩) ⟨gP_blind, va_recv (q0 := 8) (ci := 0) (q := (R_Bytes, F_Bytes, 2)) hK hP rfl rfl, gP_pre hPc hDc hK hgl hkn hkr hS hFc⟩ rfl rfl hl.1 rfl (lv_room (Nat.le_of_ble_eq_true rfl)) d_Signs_takeSymbols_54 ⟨show cells1 + 0 + 0 + 0 + 0 ≤ mc from by omega, show slots1 + 0 + 0 + 0 + 0 ≤ ms from by omega⟩) hS (fun q _ h => hFc q h) hFc (fun r18' u t H locs ht hvm hr18 hB hz1 hk1 hS => ?_)
            subst hr18
            rw [ht] at hB
            obtain ⟨hP1, hD1⟩ := hB
            obtain ⟨hP, hD⟩ := jn_A hP hD [8, 9] [0, 1, 2, 3, 4, 5, 6, 7] rfl rfl (by decide) (by decide) hk1 hFc hP1 hD1
            obtain ⟨hP, hD⟩ : PD g A H [(a, .inr (6, [.ref a_tape, .ref a_names, .int a_kind, .int a_place, .int a_behind, .int a_passed, .int a_name, .long a_number])), (a_names, .inr (2, [.ref a_names_texts, .int a_names_textsSize, .ref a_names_ends, .ref a_names_older, .ref a_names_newest, .int a_names_sizeBefore])), (a_names_texts, .inl (cs 1, a_names_texts_n, .inl a_names_texts_f)), (a_names_ends, .inr (1, [.ref a_names_ends_items, .int a_names_ends_size])), (a_names_ends_items, .inl (cs 0, a_names_ends_items_n, .inl a_names_ends_items_f)), (a_names_older, .inr (1, [.ref a_names_older_items, .int a_names_older_size])), (a_names_older_items, .inl (cs 0, a_names_older_items_n, .inl a_names_older_items_f)), (a_names_newest, .inl (cs 0, a_names_newest_n, .inl a_names_newest_f)), (a_tape, .inr (0, [.ref a_tape_items, .int a_tape_size])), (a_tape_items, .inl (cs 1, a_tape_items_n, .inl a_tape_items_f))] := ⟨hP, hD⟩
            refine lv_bipush (v := 46) hx hb d_Signs_takeSymbols_57 (by decide) ?_
            refine lv_icmp_ne hx hb d_Signs_takeSymbols_59 rfl (fun h19 => ?_) (fun h19 => ?_)
            · rw [if_neg h19] at hok
              refine lv_aload_n hx hb d_Signs_takeSymbols_79 rfl (lv_at hl 1 rfl) ?_
              refine lv_iload_n hx hb d_Signs_takeSymbols_80 rfl (lv_at hl 0 rfl) ?_
              obtain ⟨⟨⟨a_kind_20, a_behind_20, a_name_20, a_names_textsSize_20, a_names_texts_n_20, a_names_texts_f_20, a_names_ends_size_20, a_names_ends_items_n_20, a_names_ends_items_f_20, a_names_older_size_20, a_names_older_items_n_20, a_names_older_items_f_20, a_names_newest_f_20⟩, mk20, sk20⟩, hc20, hok⟩ := bd_some hok
              dsimp only at hok
              obtain ⟨m20, s20, hok, hmc20, hms20⟩ := al_some hok
              obtain ⟨hPc, hDc, hFc⟩ := cut0 (wc := [(a, .inr (6, [.ref a_tape, .ref a_names, .int a_kind, .int a_place, .int a_behind, .int a_passed, .int a_name, .long a_number])), (a_tape, .inr (0, [.ref a_tape_items, .int a_tape_size])), (a_tape_items, .inl (cs 1, a_tape_items_n, .inl a_tape_items_f)), (a_names, .inr (2, [.ref a_names_texts, .int a_names_textsSize, .ref a_names_ends, .ref a_names_older, .ref a_names_newest, .int a_names_sizeBefore])), (a_names_texts, .inl (cs 1, a_names_texts_n, .inl a_names_texts_f)), (a_names_ends, .inr (1, [.ref a_names_ends_items, .int a_names_ends_size])), (a_names_ends_items, .inl (cs 0, a_names_ends_items_n, .inl a_names_ends_items_f)), (a_names_older, .inr (1, [.ref a_names_older_items, .int a_names_older_size])), (a_names_older_items, .inl (cs 0, a_names_older_items_n, .inl a_names_older_items_f)), (a_names_newest, .inl (cs 0, a_names_newest_n, .inl a_names_newest_f))]) hP hD hS hA [0, 8, 9, 1, 2, 3, 4, 5, 6, 7] (by decide) rfl
              refine va_callv (va_runV (As := [.int x1_1]) (rest := []) ⟨hx, hb, hml, hown, hg⟩ (c_Signs_takeName l g cs ka a a_tape a_tape_items a_names a_names_texts a_names_ends a_names_ends_items a_names_older a_names_older_items a_names_newest H.size n x1_1 a_kind a_place a_behind a_passed a_name a_number a_tape_size a_tape_items_n a_tape_items_f a_names_textsSize a_names_sizeBefore a_names_texts_n a_names_texts_f a_names_ends_size a_names_ends_items_n a_names_ends_items_f a_names_older_size a_names_older_items_n a_names_older_items_f a_names_newest_n a_names_newest_f a_kind_20 a_behind_20 a_name_20 a_names_textsSize_20 a_names_texts_n_20 a_names_texts_f_20 a_names_ends_size_20 a_names_ends_items_n_20 a_names_ends_items_f_20 a_names_older_size_20 a_names_older_items_n_20 a_names_older_items_f_20 a_names_newest_f_20 mk20 sk20 hc20) (cwV (C := R_Signs) 1 hg (gw_V wd_477 wd_478 wd_479 wd_467 wd_476) rfl rfl rfl (by decide +kernel) ⟨Nat.le_of_ble_eq_true rfl, Nat.le_of_ble_eq_true rfl⟩) ⟨gP_blind, va_recv (q0 := 0) (ci := 6) (q := (R_Signs, F_Signs, 8)) hK hP rfl rfl, gP_pre hPc hDc hK hgl hkn hkr hS hFc⟩ rfl rfl hl.1 rfl (lv_room (Nat.le_of_ble_eq_true rfl)) d_Signs_takeSymbols_81 ⟨show cells1 + 0 + 0 + 0 + 0 + mk20 ≤ mc from by omega, show slots1 + 0 + 0 + 0 + 0 + sk20 ≤ ms from by omega⟩) hS (fun q _ h => hFc q h) hFc (fun u t H locs ht hvm hr20 hB hz1 hk1 hS => ?_)
              rw [ht] at hB
              obtain ⟨a_names_texts_20, a_names_ends_items_20, a_names_older_items_20, hP1, hD1⟩ := hB
              obtain ⟨hP, hD⟩ := jn_A hP hD [0, 8, 9, 1, 2, 3, 4, 5, 6, 7] [] rfl rfl (by decide) (by decide) hk1 hFc hP1 hD1
              obtain ⟨hP, hD⟩ : PD g A H [(a, .inr (6, [.ref a_tape, .ref a_names, .int a_kind_20, .int a_place, .int a_behind_20, .int a_passed, .int a_name_20, .long a_number])), (a_tape, .inr (0, [.ref a_tape_items, .int a_tape_size])), (a_tape_items, .inl (cs 1, a_tape_items_n, .inl a_tape_items_f)), (a_names, .inr (2, [.ref a_names_texts_20, .int a_names_textsSize_20, .ref a_names_ends, .ref a_names_older, .ref a_names_newest, .int a_names_sizeBefore])), (a_names_texts_20, .inl (cs 1, a_names_texts_n_20, .inl a_names_texts_f_20)), (a_names_ends, .inr (1, [.ref a_names_ends_items_20, .int a_names_ends_size_20])), (a_names_ends_items_20, .inl (cs 0, a_names_ends_items_n_20, .inl a_names_ends_items_f_20)), (a_names_older, .inr (1, [.ref a_names_older_items_20, .int a_names_older_size_20])), (a_names_older_items_20, .inl (cs 0, a_names_older_items_n_20, .inl a_names_older_items_f_20)), (a_names_newest, .inl (cs 0, a_names_newest_n, .inl a_names_newest_f_20))] := ⟨hP, hD⟩
              obtain ⟨hq, hw⟩ := Prod.mk.inj (Option.some.inj hok)
              obtain ⟨hmc0, hms0⟩ := Prod.mk.inj hw
              obtain ⟨hq0, hq⟩ := Prod.mk.inj hq
              obtain ⟨hq1, hq⟩ := Prod.mk.inj hq
              obtain ⟨hq2, hq⟩ := Prod.mk.inj hq
              obtain ⟨hq3, hq⟩ := Prod.mk.inj hq
              obtain ⟨hq4, hq⟩ := Prod.mk.inj hq
              obtain ⟨hq5, hq⟩ := Prod.mk.inj hq
              obtain ⟨hq6, hq⟩ := Prod.mk.inj hq
              obtain ⟨hq7, hq⟩ := Prod.mk.inj hq
              obtain ⟨hq8, hq⟩ := Prod.mk.inj hq
              obtain ⟨hq9, hq⟩ := Prod.mk.inj hq
              obtain ⟨hq10, hq⟩ := Prod.mk.inj hq
              obtain ⟨hq11, hq⟩ := Prod.mk.inj hq
              have hq12 := hq
              subst hq0
              subst hq1
              subst hq2
              subst hq3
              subst hq4
              subst hq5
              subst hq6
              subst hq7
              subst hq8
              subst hq9
              subst hq10
              subst hq11
              subst hq12
              obtain ⟨hP9, hD9⟩ := sub2 (ws' := [(a, .inr (6, [.ref a_tape, .ref a_names, .int a_kind_20, .int a_place, .int a_behind_20, .int a_passed, .int a_name_20, .long a_number])), (a_tape, .inr (0, [.ref a_tape_items, .int a_tape_size])), (a_tape_items, .inl (cs 1, a_tape_items_n, .inl a_tape_items_f)), (a_names, .inr (2, [.ref a_names_texts_20, .int a_names_textsSize_20, .ref a_names_ends, .ref a_names_older, .ref a_names_newest, .int a_names_sizeBefore])), (a_names_texts_20, .inl (cs 1, a_names_texts_n_20, .inl a_names_texts_f_20)), (a_names_ends, .inr (1, [.ref a_names_ends_items_20, .int a_names_ends_size_20])), (a_names_ends_items_20, .inl (cs 0, a_names_ends_items_n_20, .inl a_names_ends_items_f_20)), (a_names_older, .inr (1, [.ref a_names_older_items_20, .int a_names_older_size_20])), (a_names_older_items_20, .inl (cs 0, a_names_older_items_n_20, .inl a_names_older_items_f_20)), (a_names_newest, .inl (cs 0, a_names_newest_n, .inl a_names_newest_f_20))]) hP hD [0, 1, 2, 3, 4, 5, 6, 7, 8, 9] rfl (by decide) rfl
              refine W.widen (k := mc) (n := ms) (by omega) (by omega) ?_
              rw [hQ]
              exact W.vret hx hb hr (fun t ht hW => ⟨⟨(), rfl, trivial, a_names_texts_20, a_names_ends_items_20, a_names_older_items_20, by rw [ht]; exact hP9, hD9⟩, hS.F ht⟩) hS.2.2 d_Signs_takeSymbols_84
            · rw [if_pos h19] at hok
              refine lv_aload_n hx hb d_Signs_takeSymbols_62 rfl (lv_at hl 1 rfl) ?_
              refine lv_iload_n hx hb d_Signs_takeSymbols_63 rfl (lv_at hl 0 rfl) ?_
              obtain ⟨r21, hc21, hok⟩ := bd_some hok
              obtain ⟨hPc, hDc, hFc⟩ := cut0 (wc := [(a, .inr (6, [.ref a_tape, .ref a_names, .int a_kind, .int a_place, .int a_behind, .int a_passed, .int a_name, .long a_number])), (a_tape, .inr (0, [.ref a_tape_items, .int a_tape_size])), (a_tape_items, .inl (cs 1, a_tape_items_n, .inl a_tape_items_f))]) hP hD hS hA [0, 8, 9] (by decide) rfl
              refine va_calli (va_runV (As := [.int x1_1]) (rest := []) ⟨hx, hb, hml, hown, hg⟩ (c_Signs_isBehindEnd l g cs ka a_names a a_tape a_tape_items H.size x1_1 a_kind a_place a_behind a_passed a_name a_number a_tape_size a_tape_items_n a_tape_items_f r21 hc21) (cwV (C := R_Signs) 1 hg (gw_V wd_489 wd_490 wd_491 wd_467 wd_488) rfl rfl rfl (by decide +kernel) ⟨Nat.le_of_ble_eq_true rfl, Nat.le_of_ble_eq_true rfl⟩) ⟨gP_blind, va_recv (q0 := 0) (ci := 6) (q := (R_Signs, F_Signs, 8)) hK hP rfl rfl, gP_pre hPc hDc hK hgl hkn hkr hS hFc⟩ rfl rfl hl.1 rfl (lv_room (Nat.le_of_ble_eq_true rfl)) d_Signs_takeSymbols_64 ⟨show cells1 + 0 + 0 + 0 + 0 + 0 ≤ mc from by omega, show slots1 + 0 + 0 + 0 + 0 + 0 ≤ ms from by omega⟩) hS (fun q _ h => hFc q h) hFc (fun r21' u t H locs ht hvm hr21 hB hz1 hk1 hS => ?_)
              subst hr21
              rw [ht] at hB
              obtain ⟨hP1, hD1⟩ := hB
              obtain ⟨hP, hD⟩ := jn_A hP hD [0, 8, 9] [1, 2, 3, 4, 5, 6, 7] rfl rfl (by decide) (by decide) hk1 hFc hP1 hD1
              obtain ⟨hP, hD⟩ : PD g A H [(a_names, .inr (2, [.ref a_names_texts, .int a_names_textsSize, .ref a_names_ends, .ref a_names_older, .ref a_names_newest, .int a_names_sizeBefore])), (a_names_texts, .inl (cs 1, a_names_texts_n, .inl a_names_texts_f)), (a_names_ends, .inr (1, [.ref a_names_ends_items, .int a_names_ends_size])), (a_names_ends_items, .inl (cs 0, a_names_ends_items_n, .inl a_names_ends_items_f)), (a_names_older, .inr (1, [.ref a_names_older_items, .int a_names_older_size])), (a_names_older_items, .inl (cs 0, a_names_older_items_n, .inl a_names_older_items_f)), (a_names_newest, .inl (cs 0, a_names_newest_n, .inl a_names_newest_f)), (a, .inr (6, [.ref a_tape, .ref a_names, .int a_kind, .int a_place, .int a_behind, .int a_passed, .int a_name, .long a_number])), (a_tape, .inr (0, [.ref a_tape_items, .int a_tape_size])), (a_tape_items, .inl (cs 1, a_tape_items_n, .inl a_tape_items_f))] := ⟨hP, hD⟩
              refine lv_if_eq hx hb d_Signs_takeSymbols_67 rfl (fun h22 => ?_) (fun h22 => ?_)
              · rw [if_pos h22] at hok
                refine lv_aload_n hx hb d_Signs_takeSymbols_79 rfl (lv_at hl 1 rfl) ?_
                refine lv_iload_n hx hb d_Signs_takeSymbols_80 rfl (lv_at hl 0 rfl) ?_
                obtain ⟨⟨⟨a_kind_23, a_behind_23, a_name_23, a_names_textsSize_23, a_names_texts_n_23, a_names_texts_f_23, a_names_ends_size_23, a_names_ends_items_n_23, a_names_ends_items_f_23, a_names_older_size_23, a_names_older_items_n_23, a_names_older_items_f_23, a_names_newest_f_23⟩, mk23, sk23⟩, hc23, hok⟩ := bd_some hok
                dsimp only at hok
                obtain ⟨m23, s23, hok, hmc23, hms23⟩ := al_some hok
                obtain ⟨hPc, hDc, hFc⟩ := cut0 (wc := [(a, .inr (6, [.ref a_tape, .ref a_names, .int a_kind, .int a_place, .int a_behind, .int a_passed, .int a_name, .long a_number])), (a_tape, .inr (0, [.ref a_tape_items, .int a_tape_size])), (a_tape_items, .inl (cs 1, a_tape_items_n, .inl a_tape_items_f)), (a_names, .inr (2, [.ref a_names_texts, .int a_names_textsSize, .ref a_names_ends, .ref a_names_older, .ref a_names_newest, .int a_names_sizeBefore])), (a_names_texts, .inl (cs 1, a_names_texts_n, .inl a_names_texts_f)), (a_names_ends, .inr (1, [.ref a_names_ends_items, .int a_names_ends_size])), (a_names_ends_items, .inl (cs 0, a_names_ends_items_n, .inl a_names_ends_items_f)), (a_names_older, .inr (1, [.ref a_names_older_items, .int a_names_older_size])), (a_names_older_items, .inl (cs 0, a_names_older_items_n, .inl a_names_older_items_f)), (a_names_newest, .inl (cs 0, a_names_newest_n, .inl a_names_newest_f))]) hP hD hS hA [7, 8, 9, 0, 1, 2, 3, 4, 5, 6] (by decide) rfl
                refine va_callv (va_runV (As := [.int x1_1]) (rest := []) ⟨hx, hb, hml, hown, hg⟩ (c_Signs_takeName l g cs ka a a_tape a_tape_items a_names a_names_texts a_names_ends a_names_ends_items a_names_older a_names_older_items a_names_newest H.size n x1_1 a_kind a_place a_behind a_passed a_name a_number a_tape_size a_tape_items_n a_tape_items_f a_names_textsSize a_names_sizeBefore a_names_texts_n a_names_texts_f a_names_ends_size a_names_ends_items_n a_names_ends_items_f a_names_older_size a_names_older_items_n a_names_older_items_f a_names_newest_n a_names_newest_f a_kind_23 a_behind_23 a_name_23 a_names_textsSize_23 a_names_texts_n_23 a_names_texts_f_23 a_names_ends_size_23 a_names_ends_items_n_23 a_names_ends_items_f_23 a_names_older_size_23 a_names_older_items_n_23 a_names_older_items_f_23 a_names_newest_f_23 mk23 sk23 hc23) (cwV (C := R_Signs) 1 hg (gw_V wd_477 wd_478 wd_479 wd_467 wd_476) rfl rfl rfl (by decide +kernel) ⟨Nat.le_of_ble_eq_true rfl, Nat.le_of_ble_eq_true rfl⟩) ⟨gP_blind, va_recv (q0 := 7) (ci := 6) (q := (R_Signs, F_Signs, 8)) hK hP rfl rfl, gP_pre hPc hDc hK hgl hkn hkr hS hFc⟩ rfl rfl hl.1 rfl (lv_room (Nat.le_of_ble_eq_true rfl)) d_Signs_takeSymbols_81 ⟨show cells1 + 0 + 0 + 0 + 0 + 0 + mk23 ≤ mc from by omega, show slots1 + 0 + 0 + 0 + 0 + 0 + sk23 ≤ ms from by omega⟩) hS (fun q _ h => hFc q h) hFc (fun u t H locs ht hvm hr23 hB hz1 hk1 hS => ?_)
                rw [ht] at hB
                obtain ⟨a_names_texts_23, a_names_ends_items_23, a_names_older_items_23, hP1, hD1⟩ := hB
                obtain ⟨hP, hD⟩ := jn_A hP hD [7, 8, 9, 0, 1, 2, 3, 4, 5, 6] [] rfl rfl (by decide) (by decide) hk1 hFc hP1 hD1
                obtain ⟨hP, hD⟩ : PD g A H [(a, .inr (6, [.ref a_tape, .ref a_names, .int a_kind_23, .int a_place, .int a_behind_23, .int a_passed, .int a_name_23, .long a_number])), (a_tape, .inr (0, [.ref a_tape_items, .int a_tape_size])), (a_tape_items, .inl (cs 1, a_tape_items_n, .inl a_tape_items_f)), (a_names, .inr (2, [.ref a_names_texts_23, .int a_names_textsSize_23, .ref a_names_ends, .ref a_names_older, .ref a_names_newest, .int a_names_sizeBefore])), (a_names_texts_23, .inl (cs 1, a_names_texts_n_23, .inl a_names_texts_f_23)), (a_names_ends, .inr (1, [.ref a_names_ends_items_23, .int a_names_ends_size_23])), (a_names_ends_items_23, .inl (cs 0, a_names_ends_items_n_23, .inl a_names_ends_items_f_23)), (a_names_older, .inr (1, [.ref a_names_older_items_23, .int a_names_older_size_23])), (a_names_older_items_23, .inl (cs 0, a_names_older_items_n_23, .inl a_names_older_items_f_23)), (a_names_newest, .inl (cs 0, a_names_newest_n, .inl a_names_newest_f_23))] := ⟨hP, hD⟩
                obtain ⟨hq, hw⟩ := Prod.mk.inj (Option.some.inj hok)
                obtain ⟨hmc0, hms0⟩ := Prod.mk.inj hw
                obtain ⟨hq0, hq⟩ := Prod.mk.inj hq
                obtain ⟨hq1, hq⟩ := Prod.mk.inj hq
                obtain ⟨hq2, hq⟩ := Prod.mk.inj hq
                obtain ⟨hq3, hq⟩ := Prod.mk.inj hq
                obtain ⟨hq4, hq⟩ := Prod.mk.inj hq
                obtain ⟨hq5, hq⟩ := Prod.mk.inj hq
                obtain ⟨hq6, hq⟩ := Prod.mk.inj hq
                obtain ⟨hq7, hq⟩ := Prod.mk.inj hq
                obtain ⟨hq8, hq⟩ := Prod.mk.inj hq
                obtain ⟨hq9, hq⟩ := Prod.mk.inj hq
                obtain ⟨hq10, hq⟩ := Prod.mk.inj hq
                obtain ⟨hq11, hq⟩ := Prod.mk.inj hq
                have hq12 := hq
                subst hq0
                subst hq1
                subst hq2
                subst hq3
                subst hq4
                subst hq5
                subst hq6
                subst hq7
                subst hq8
                subst hq9
                subst hq10
                subst hq11
                subst hq12
                obtain ⟨hP9, hD9⟩ := sub2 (ws' := [(a, .inr (6, [.ref a_tape, .ref a_names, .int a_kind_23, .int a_place, .int a_behind_23, .int a_passed, .int a_name_23, .long a_number])), (a_tape, .inr (0, [.ref a_tape_items, .int a_tape_size])), (a_tape_items, .inl (cs 1, a_tape_items_n, .inl a_tape_items_f)), (a_names, .inr (2, [.ref a_names_texts_23, .int a_names_textsSize_23, .ref a_names_ends, .ref a_names_older, .ref a_names_newest, .int a_names_sizeBefore])), (a_names_texts_23, .inl (cs 1, a_names_texts_n_23, .inl a_names_texts_f_23)), (a_names_ends, .inr (1, [.ref a_names_ends_items_23, .int a_names_ends_size_23])), (a_names_ends_items_23, .inl (cs 0, a_names_ends_items_n_23, .inl a_names_ends_items_f_23)), (a_names_older, .inr (1, [.ref a_names_older_items_23, .int a_names_older_size_23])), (a_names_older_items_23, .inl (cs 0, a_names_older_items_n_23, .inl a_names_older_items_f_23)), (a_names_newest, .inl (cs 0, a_names_newest_n, .inl a_names_newest_f_23))]) hP hD [0, 1, 2, 3, 4, 5, 6, 7, 8, 9] rfl (by decide) rfl
                refine W.widen (k := mc) (n := ms) (by omega) (by omega) ?_
                rw [hQ]
                exact W.vret hx hb hr (fun t ht hW => ⟨⟨(), rfl, trivial, a_names_texts_23, a_names_ends_items_23, a_names_older_items_23, by rw [ht]; exact hP9, hD9⟩, hS.F ht⟩) hS.2.2 d_Signs_takeSymbols_84
              · rw [if_neg h22] at hok
                refine lv_aload_n hx hb d_Signs_takeSymbols_70 rfl (lv_at hl 1 rfl) ?_
                refine lv_iconst (v := 4) hx hb d_Signs_takeSymbols_71 (by decide) ?_
                refine lv_iload_n hx hb d_Signs_takeSymbols_72 rfl (lv_at hl 0 rfl) ?_
                obtain ⟨⟨a_kind_24, a_behind_24⟩, hc24, hok⟩ := bd_some hok
                dsimp only at hok
                obtain ⟨hPc, hDc, hFc⟩ := cut0 (wc := [(a, .inr (6, [.ref a_tape, .ref a_names, .int a_kind, .int a_place, .int a_behind, .int a_passed, .int a_name, .long a_number]))]) hP hD hS hA [7] (by decide) rfl
                refine va_callv (va_runV (As := [.int 4, .int x1_1]) (rest := []) ⟨hx, hb, hml, hown, hg⟩ (c_Signs_takeTo l g cs ka a_tape a_names a H.size (4 : Int32) x1_1 a_kind a_place a_behind a_passed a_name a_number a_kind_24 a_behind_24 hc24) (cwV (C := R_Signs) 2 hg (gw_V wd_468 wd_469 wd_470 wd_467 wd_466) rfl rfl rfl (by decide +kernel) ⟨Nat.le_of_ble_eq_true rfl, Nat.le_of_ble_eq_true rfl⟩) ⟨gP_blind, va_recv (q0 := 7) (ci := 6) (q := (R_Signs, F_Signs, 8)) hK hP rfl rfl, gP_pre hPc hDc hK hgl hkn hkr hS hFc⟩ rfl rfl hl.1 rfl (lv_room (Nat.le_of_ble_eq_true rfl)) d_Signs_takeSymbols_73 ⟨show cells1 + 0 + 0 + 0 + 0 + 0 + 0 ≤ mc from by omega, show slots1 + 0 + 0 + 0 + 0 + 0 + 0 ≤ ms from by omega⟩) hS (fun q _ h => hFc q h) hFc (fun u t H locs ht hvm hr24 hB hz1 hk1 hS => ?_)
                rw [ht] at hB
                obtain ⟨hP1, hD1⟩ := hB
                obtain ⟨hP, hD⟩ := jn_A hP hD [7] [0, 1, 2, 3, 4, 5, 6, 8, 9] rfl rfl (by decide) (by decide) hk1 hFc hP1 hD1
                obtain ⟨hP, hD⟩ : PD g A H [(a_names, .inr (2, [.ref a_names_texts, .int a_names_textsSize, .ref a_names_ends, .ref a_names_older, .ref a_names_newest, .int a_names_sizeBefore])), (a_names_texts, .inl (cs 1, a_names_texts_n, .inl a_names_texts_f)), (a_names_ends, .inr (1, [.ref a_names_ends_items, .int a_names_ends_size])), (a_names_ends_items, .inl (cs 0, a_names_ends_items_n, .inl a_names_ends_items_f)), (a_names_older, .inr (1, [.ref a_names_older_items, .int a_names_older_size])), (a_names_older_items, .inl (cs 0, a_names_older_items_n, .inl a_names_older_items_f)), (a_names_newest, .inl (cs 0, a_names_newest_n, .inl a_names_newest_f)), (a_tape, .inr (0, [.ref a_tape_items, .int a_tape_size])), (a_tape_items, .inl (cs 1, a_tape_items_n, .inl a_tape_items_f)), (a, .inr (6, [.ref a_tape, .ref a_names, .int a_kind_24, .int a_place, .int a_behind_24, .int a_passed, .int a_name, .long a_number]))] := ⟨hP, hD⟩
                refine lv_goto hx hb d_Signs_takeSymbols_76 rfl ?_
                obtain ⟨hq, hw⟩ := Prod.mk.inj (Option.some.inj hok)
                obtain ⟨hmc0, hms0⟩ := Prod.mk.inj hw
                obtain ⟨hq0, hq⟩ := Prod.mk.inj hq
                obtain ⟨hq1, hq⟩ := Prod.mk.inj hq
                obtain ⟨hq2, hq⟩ := Prod.mk.inj hq
                obtain ⟨hq3, hq⟩ := Prod.mk.inj hq
                obtain ⟨hq4, hq⟩ := Prod.mk.inj hq
                obtain ⟨hq5, hq⟩ := Prod.mk.inj hq
                obtain ⟨hq6, hq⟩ := Prod.mk.inj hq
                obtain ⟨hq7, hq⟩ := Prod.mk.inj hq
                obtain ⟨hq8, hq⟩ := Prod.mk.inj hq
                obtain ⟨hq9, hq⟩ := Prod.mk.inj hq
                obtain ⟨hq10, hq⟩ := Prod.mk.inj hq
                obtain ⟨hq11, hq⟩ := Prod.mk.inj hq
                have hq12 := hq
                subst hq0
                subst hq1
                subst hq2
                subst hq3
                subst hq4
                subst hq5
                subst hq6
                subst hq7
                subst hq8
                subst hq9
                subst hq10
                subst hq11
                subst hq12
                obtain ⟨hP9, hD9⟩ := sub2 (ws' := [(a, .inr (6, [.ref a_tape, .ref a_names, .int a_kind_24, .int a_place, .int a_behind_24, .int a_passed, .int a_name, .long a_number])), (a_tape, .inr (0, [.ref a_tape_items, .int a_tape_size])), (a_tape_items, .inl (cs 1, a_tape_items_n, .inl a_tape_items_f)), (a_names, .inr (2, [.ref a_names_texts, .int a_names_textsSize, .ref a_names_ends, .ref a_names_older, .ref a_names_newest, .int a_names_sizeBefore])), (a_names_texts, .inl (cs 1, a_names_texts_n, .inl a_names_texts_f)), (a_names_ends, .inr (1, [.ref a_names_ends_items, .int a_names_ends_size])), (a_names_ends_items, .inl (cs 0, a_names_ends_items_n, .inl a_names_ends_items_f)), (a_names_older, .inr (1, [.ref a_names_older_items, .int a_names_older_size])), (a_names_older_items, .inl (cs 0, a_names_older_items_n, .inl a_names_older_items_f)), (a_names_newest, .inl (cs 0, a_names_newest_n, .inl a_names_newest_f))]) hP hD [9, 7, 8, 0, 1, 2, 3, 4, 5, 6] rfl (by decide) rfl
                refine W.widen (k := mc) (n := ms) (by omega) (by omega) ?_
                rw [hQ]
                exact W.vret hx hb hr (fun t ht hW => ⟨⟨(), rfl, trivial, a_names_texts, a_names_ends_items, a_names_older_items, by rw [ht]; exact hP9, hD9⟩, hS.F ht⟩) hS.2.2 d_Signs_takeSymbols_84
        · rw [if_neg h15] at hok
          refine lv_iinc (k := 0) (v := x1_1 + 1) hx hb d_Signs_takeSymbols_30 hl rfl rfl (by decide) rfl (fun ls hl => ?_)
          have hl : lv_has ls 2 [(1, .int (x1_1 + 1)), (0, .ref a)] := hl
          refine lv_goto hx hb d_Signs_takeSymbols_33 rfl ?_
          exact ih1 _ _ _ _ _ _ _ (x1_1 + 1) (lv_sub hl [0, 1] rfl) (sub3 hP hD [0, 8, 9, 1, 2, 3, 4, 5, 6, 7] (by decide)) hS (by omega) (by omega) hok
  exact J1 n H locs ls _ _ _ _ a_place hl ⟨hP, hD⟩ hS (by omega) (by omega) hok

theorem d_Signs_takeQuoted_0 : decode b_Signs_takeQuoted 0 = .ok (.aload_n 0, 1) := by decide +kernel
theorem d_Signs_takeQuoted_1 : decode b_Signs_takeQuoted 1 = .ok (.getfield 34, 3) := by decide +kernel
theorem d_Signs_takeQuoted_4 : decode b_Signs_takeQuoted 4 = .ok (.invokevirtual 98, 3) := by decide +kernel
theorem d_Signs_takeQuoted_7 : decode b_Signs_takeQuoted 7 = .ok (.aload_n 0, 1) := by decide +kernel
theorem d_Signs_takeQuoted_8 : decode b_Signs_takeQuoted 8 = .ok (.bipush 6, 2) := by decide +kernel
theorem d_Signs_takeQuoted_10 : decode b_Signs_takeQuoted 10 = .ok (.aload_n 0, 1) := by decide +kernel
theorem d_Signs_takeQuoted_11 : decode b_Signs_takeQuoted 11 = .ok (.getfield 13, 3) := by decide +kernel
theorem d_Signs_takeQuoted_14 : decode b_Signs_takeQuoted 14 = .ok (.iconst 1, 1) := by decide +kernel
theorem d_Signs_takeQuoted_15 : decode b_Signs_takeQuoted 15 = .ok (.iadd, 1) := by decide +kernel
theorem d_Signs_takeQuoted_16 : decode b_Signs_takeQuoted 16 = .ok (.invokevirtual 51, 3) := by decide +kernel
theorem d_Signs_takeQuoted_19 : decode b_Signs_takeQuoted 19 = .ok (.aload_n 0, 1) := by decide +kernel
theorem d_Signs_takeQuoted_20 : decode b_Signs_takeQuoted 20 = .ok (.getfield 13, 3) := by decide +kernel
theorem d_Signs_takeQuoted_23 : decode b_Signs_takeQuoted 23 = .ok (.iconst 1, 1) := by decide +kernel
theorem d_Signs_takeQuoted_24 : decode b_Signs_takeQuoted 24 = .ok (.iadd, 1) := by decide +kernel
theorem d_Signs_takeQuoted_25 : decode b_Signs_takeQuoted 25 = .ok (.istore_n 1, 1) := by decide +kernel
theorem d_Signs_takeQuoted_26 : decode b_Signs_takeQuoted 26 = .ok (.iload_n 1, 1) := by decide +kernel
theorem d_Signs_takeQuoted_27 : decode b_Signs_takeQuoted 27 = .ok (.aload_n 0, 1) := by decide +kernel
theorem d_Signs_takeQuoted_28 : decode b_Signs_takeQuoted 28 = .ok (.getfield 30, 3) := by decide +kernel
theorem d_Signs_takeQuoted_31 : decode b_Signs_takeQuoted 31 = .ok (.invokevirtual 47, 3) := by decide +kernel
theorem d_Signs_takeQuoted_34 : decode b_Signs_takeQuoted 34 = .ok (.if_icmp .ge 85, 3) := by decide +kernel
theorem d_Signs_takeQuoted_37 : decode b_Signs_takeQuoted 37 = .ok (.aload_n 0, 1) := by decide +kernel
theorem d_Signs_takeQuoted_38 : decode b_Signs_takeQuoted 38 = .ok (.getfield 30, 3) := by decide +kernel
theorem d_Signs_takeQuoted_41 : decode b_Signs_takeQuoted 41 = .ok (.iload_n 1, 1) := by decide +kernel
theorem d_Signs_takeQuoted_42 : decode b_Signs_takeQuoted 42 = .ok (.invokevirtual 42, 3) := by decide +kernel
theorem d_Signs_takeQuoted_45 : decode b_Signs_takeQuoted 45 = .ok (.invokestatic 126, 3) := by decide +kernel
theorem d_Signs_takeQuoted_48 : decode b_Signs_takeQuoted 48 = .ok (.ifCond .eq 71, 3) := by decide +kernel
theorem d_Signs_takeQuoted_51 : decode b_Signs_takeQuoted 51 = .ok (.aload_n 0, 1) := by decide +kernel
theorem d_Signs_takeQuoted_52 : decode b_Signs_takeQuoted 52 = .ok (.getfield 30, 3) := by decide +kernel
theorem d_Signs_takeQuoted_55 : decode b_Signs_takeQuoted 55 = .ok (.iload_n 1, 1) := by decide +kernel
theorem d_Signs_takeQuoted_56 : decode b_Signs_takeQuoted 56 = .ok (.invokevirtual 42, 3) := by decide +kernel
theorem d_Signs_takeQuoted_59 : decode b_Signs_takeQuoted 59 = .ok (.bipush 39, 2) := by decide +kernel
theorem d_Signs_takeQuoted_61 : decode b_Signs_takeQuoted 61 = .ok (.if_icmp .ne 37, 3) := by decide +kernel
theorem d_Signs_takeQuoted_64 : decode b_Signs_takeQuoted 64 = .ok (.iinc 1 1, 3) := by decide +kernel
theorem d_Signs_takeQuoted_67 : decode b_Signs_takeQuoted 67 = .ok (.aload_n 0, 1) := by decide +kernel
theorem d_Signs_takeQuoted_68 : decode b_Signs_takeQuoted 68 = .ok (.getfield 30, 3) := by decide +kernel
theorem d_Signs_takeQuoted_71 : decode b_Signs_takeQuoted 71 = .ok (.iload_n 1, 1) := by decide +kernel
theorem d_Signs_takeQuoted_72 : decode b_Signs_takeQuoted 72 = .ok (.invokevirtual 42, 3) := by decide +kernel
theorem d_Signs_takeQuoted_75 : decode b_Signs_takeQuoted 75 = .ok (.bipush 39, 2) := by decide +kernel
theorem d_Signs_takeQuoted_77 : decode b_Signs_takeQuoted 77 = .ok (.if_icmp .eq 21, 3) := by decide +kernel
theorem d_Signs_takeQuoted_80 : decode b_Signs_takeQuoted 80 = .ok (.aload_n 0, 1) := by decide +kernel
theorem d_Signs_takeQuoted_81 : decode b_Signs_takeQuoted 81 = .ok (.aload_n 0, 1) := by decide +kernel
theorem d_Signs_takeQuoted_82 : decode b_Signs_takeQuoted 82 = .ok (.getfield 34, 3) := by decide +kernel
theorem d_Signs_takeQuoted_85 : decode b_Signs_takeQuoted 85 = .ok (.invokevirtual 106, 3) := by decide +kernel
theorem d_Signs_takeQuoted_88 : decode b_Signs_takeQuoted 88 = .ok (.putfield 23, 3) := by decide +kernel
theorem d_Signs_takeQuoted_91 : decode b_Signs_takeQuoted 91 = .ok (.aload_n 0, 1) := by decide +kernel
theorem d_Signs_takeQuoted_92 : decode b_Signs_takeQuoted 92 = .ok (.iconst 3, 1) := by decide +kernel
theorem d_Signs_takeQuoted_93 : decode b_Signs_takeQuoted 93 = .ok (.iload_n 1, 1) := by decide +kernel
theorem d_Signs_takeQuoted_94 : decode b_Signs_takeQuoted 94 = .ok (.invokevirtual 51, 3) := by decide +kernel
theorem d_Signs_takeQuoted_97 : decode b_Signs_takeQuoted 97 = .ok (.return_, 1) := by decide +kernel
theorem d_Signs_takeQuoted_98 : decode b_Signs_takeQuoted 98 = .ok (.aload_n 0, 1) := by decide +kernel
theorem d_Signs_takeQuoted_99 : decode b_Signs_takeQuoted 99 = .ok (.getfield 34, 3) := by decide +kernel
theorem d_Signs_takeQuoted_102 : decode b_Signs_takeQuoted 102 = .ok (.aload_n 0, 1) := by decide +kernel
theorem d_Signs_takeQuoted_103 : decode b_Signs_takeQuoted 103 = .ok (.getfield 30, 3) := by decide +kernel
theorem d_Signs_takeQuoted_106 : decode b_Signs_takeQuoted 106 = .ok (.iload_n 1, 1) := by decide +kernel
theorem d_Signs_takeQuoted_107 : decode b_Signs_takeQuoted 107 = .ok (.invokevirtual 42, 3) := by decide +kernel
theorem d_Signs_takeQuoted_110 : decode b_Signs_takeQuoted 110 = .ok (.invokevirtual 103, 3) := by decide +kernel
theorem d_Signs_takeQuoted_113 : decode b_Signs_takeQuoted 113 = .ok (.iinc 1 1, 3) := by decide +kernel
theorem d_Signs_takeQuoted_116 : decode b_Signs_takeQuoted 116 = .ok (.goto (-90), 3) := by decide +kernel
theorem d_Signs_takeQuoted_119 : decode b_Signs_takeQuoted 119 = .ok (.return_, 1) := by decide +kernel
def p_Signs_takeQuoted_26 (n : Nat) (a_place : Int32) (a_passed : Int32) (a_name : Int32) (a_number : Int64) (a_tape_size : Int32) (a_tape_items_n : Nat) (a_tape_items_f : Nat → Int32) (a_names_sizeBefore : Int32) (a_names_ends_size : Int32) (a_names_ends_items_n : Nat) (a_names_ends_items_f : Nat → Int32) (a_names_older_size : Int32) (a_names_older_items_n : Nat) (a_names_older_items_f : Nat → Int32) (a_names_newest_n : Nat) (a_names_newest_f : Nat → Int32) (a_kind_2 : Int32) (a_behind_2 : Int32) (kf3 : Nat) (x1_3 : Int32) (a_names_textsSize_3 : Int32) (a_names_texts_3n : Nat) (a_names_texts_3f : Nat → Int32) : Option ((Int32 × Int32 × Int32 × Int32 × Nat × (Nat → Int32) × Int32 × Nat × (Nat → Int32) × Int32 × Nat × (Nat → Int32) × (Nat → Int32)) × Nat × Nat) := match kf3 with
  | 0 => none
  | kf3 + 1 => (p_Bytes_size a_tape_size).bind (fun r4 => if r4 ≤ x1_3 then (some ((a_kind_2, a_behind_2, a_name, a_names_textsSize_3, a_names_texts_3n, a_names_texts_3f, a_names_ends_size, a_names_ends_items_n, a_names_ends_items_f, a_names_older_size, a_names_older_items_n, a_names_older_items_f, a_names_newest_f), 0, 0)) else ((p_Bytes_at x1_3 a_tape_size a_tape_items_n a_tape_items_f).bind (fun r6 => (p_Letters_isQuotable r6).bind (fun r7 => if r7 = 0 then (some ((a_kind_2, a_behind_2, a_name, a_names_textsSize_3, a_names_texts_3n, a_names_texts_3f, a_names_ends_size, a_names_ends_items_n, a_names_ends_items_f, a_names_older_size, a_names_older_items_n, a_names_older_items_f, a_names_newest_f), 0, 0)) else ((p_Bytes_at x1_3 a_tape_size a_tape_items_n a_tape_items_f).bind (fun r9 => if r9 = 39 then ((p_Bytes_at (x1_3 + 1) a_tape_size a_tape_items_n a_tape_items_f).bind (fun r13 => if r13 = 39 then ((p_Bytes_at (x1_3 + 1) a_tape_size a_tape_items_n a_tape_items_f).bind (fun r15 => (p_Names_addToText r15 a_names_textsSize_3 a_names_sizeBefore a_names_texts_3n a_names_texts_3f).bind (fun ((a_textsSize_16, a_texts_n_16, a_texts_f_16), mk16, sk16) => al mk16 sk16 (p_Signs_takeQuoted_26 n a_place a_passed a_name a_number a_tape_size a_tape_items_n a_tape_items_f a_names_sizeBefore a_names_ends_size a_names_ends_items_n a_names_ends_items_f a_names_older_size a_names_older_items_n a_names_older_items_f a_names_newest_n a_names_newest_f a_kind_2 a_behind_2 kf3 ((x1_3 + 1) + 1) a_textsSize_16 a_texts_n_16 a_texts_f_16)))) else ((p_Names_numberOfText n a_names_textsSize_3 a_names_sizeBefore a_names_texts_3n a_names_texts_3f a_names_ends_size a_names_ends_items_n a_names_ends_items_f a_names_older_size a_names_older_items_n a_names_older_items_f a_names_newest_n a_names_newest_f).bind (fun ((r17, a_ends_size_17, a_ends_items_n_17, a_ends_items_f_17, a_older_size_17, a_older_items_n_17, a_older_items_f_17, a_newest_f_17), mk17, sk17) => al mk17 sk17 ((p_Signs_takeTo (3 : Int32) (x1_3 + 1) a_kind_2 a_place a_behind_2 a_passed r17 a_number).bind (fun (a_kind_18, a_behind_18) => some ((a_kind_18, a_behind_18, r17, a_names_textsSize_3, a_names_texts_3n, a_names_texts_3f, a_ends_size_17, a_ends_items_n_17, a_ends_items_f_17, a_older_size_17, a_older_items_n_17, a_older_items_f_17, a_newest_f_17), 0, 0))))))) else ((p_Bytes_at x1_3 a_tape_size a_tape_items_n a_tape_items_f).bind (fun r11 => (p_Names_addToText r11 a_names_textsSize_3 a_names_sizeBefore a_names_texts_3n a_names_texts_3f).bind (fun ((a_textsSize_12, a_texts_n_12, a_texts_f_12), mk12, sk12) => al mk12 sk12 (p_Signs_takeQuoted_26 n a_place a_passed a_name a_number a_tape_size a_tape_items_n a_tape_items_f a_names_sizeBefore a_names_ends_size a_names_ends_items_n a_names_ends_items_f a_names_older_size a_names_older_items_n a_names_older_items_f a_names_newest_n a_names_newest_f a_kind_2 a_behind_2 kf3 (x1_3 + 1) a_textsSize_12 a_texts_n_12 a_texts_f_12))))))))))
def p_Signs_takeQuoted (n : Nat) (a_kind : Int32) (a_place : Int32) (a_behind : Int32) (a_passed : Int32) (a_name : Int32) (a_number : Int64) (a_tape_size : Int32) (a_tape_items_n : Nat) (a_tape_items_f : Nat → Int32) (a_names_textsSize : Int32) (a_names_sizeBefore : Int32) (a_names_texts_n : Nat) (a_names_texts_f : Nat → Int32) (a_names_ends_size : Int32) (a_names_ends_items_n : Nat) (a_names_ends_items_f : Nat → Int32) (a_names_older_size : Int32) (a_names_older_items_n : Nat) (a_names_older_items_f : Nat → Int32) (a_names_newest_n : Nat) (a_names_newest_f : Nat → Int32) : Option ((Int32 × Int32 × Int32 × Int32 × Nat × (Nat → Int32) × Int32 × Nat × (Nat → Int32) × Int32 × Nat × (Nat → Int32) × (Nat → Int32)) × Nat × Nat) := (p_Names_startText a_names_textsSize a_names_sizeBefore a_names_ends_size a_names_ends_items_n a_names_ends_items_f).bind (fun a_textsSize_1 => (p_Signs_takeTo (6 : Int32) (a_place + 1) a_kind a_place a_behind a_passed a_name a_number).bind (fun (a_kind_2, a_behind_2) => p_Signs_takeQuoted_26 n a_place a_passed a_name a_number a_tape_size a_tape_items_n a_tape_items_f a_names_sizeBefore a_names_ends_size a_names_ends_items_n a_names_ends_items_f a_names_older_size a_names_older_items_n a_names_older_items_f a_names_newest_n a_names_newest_f a_kind_2 a_behind_2 n (a_place + 1) a_textsSize_1 a_names_texts_n a_names_texts_f))
set_option maxHeartbeats 4000000 in
set_option maxRecDepth 100000 in
theorem c_Signs_takeQuoted (l : Launch) (g : va_G) (cs : Nat → ClassId) (ka : Nat → Nat) (a a_tape a_tape_items a_names a_names_texts a_names_ends a_names_ends_items a_names_older a_names_older_items a_names_newest : Nat) (sz : Nat) (n : Nat) (a_kind : Int32) (a_place : Int32) (a_behind : Int32) (a_passed : Int32) (a_name : Int32) (a_number : Int64) (a_tape_size : Int32) (a_tape_items_n : Nat) (a_tape_items_f : Nat → Int32) (a_names_textsSize : Int32) (a_names_sizeBefore : Int32) (a_names_texts_n : Nat) (a_names_texts_f : Nat → Int32) (a_names_ends_size : Int32) (a_names_ends_items_n : Nat) (a_names_ends_items_f : Nat → Int32) (a_names_older_size : Int32) (a_names_older_items_n : Nat) (a_names_older_items_f : Nat → Int32) (a_names_newest_n : Nat) (a_names_newest_f : Nat → Int32) (o_a_kind : Int32) (o_a_behind : Int32) (o_a_name : Int32) (o_a_names_textsSize : Int32) (o_a_names_texts_n : Nat) (o_a_names_texts_f : Nat → Int32) (o_a_names_ends_size : Int32) (o_a_names_ends_items_n : Nat) (o_a_names_ends_items_f : Nat → Int32) (o_a_names_older_size : Int32) (o_a_names_older_items_n : Nat) (o_a_names_older_items_f : Nat → Int32) (o_a_names_newest_f : Nat → Int32) (mc ms : Nat) (hok : p_Signs_takeQuoted n a_kind a_place a_behind a_passed a_name a_number a_tape_size a_tape_items_n a_tape_items_f a_names_textsSize a_names_sizeBefore a_names_texts_n a_names_texts_f a_names_ends_size a_names_ends_items_n a_names_ends_items_f a_names_older_size a_names_older_items_n a_names_older_items_f a_names_newest_n a_names_newest_f = some ((o_a_kind, o_a_behind, o_a_name, o_a_names_textsSize, o_a_names_texts_n, o_a_names_texts_f, o_a_names_ends_size, o_a_names_ends_items_n, o_a_names_ends_items_f, o_a_names_older_size, o_a_names_older_items_n, o_a_names_older_items_f, o_a_names_newest_f), mc, ms)) : Met l y_Signs_takeQuoted (.code y_Signs_takeQuoted b_Signs_takeQuoted 2 none :: GW) { frames := 4, cells := mc, slots := ms, locals := 167 } (va_Pc [.ref a] (gP g cs ka [(a, .inr (6, [.ref a_tape, .ref a_names, .int a_kind, .int a_place, .int a_behind, .int a_passed, .int a_name, .long a_number])), (a_tape, .inr (0, [.ref a_tape_items, .int a_tape_size])), (a_tape_items, .inl (cs 1, a_tape_items_n, .inl a_tape_items_f)), (a_names, .inr (2, [.ref a_names_texts, .int a_names_textsSize, .ref a_names_ends, .ref a_names_older, .ref a_names_newest, .int a_names_sizeBefore])), (a_names_texts, .inl (cs 1, a_names_texts_n, .inl a_names_texts_f)), (a_names_ends, .inr (1, [.ref a_names_ends_items, .int a_names_ends_size])), (a_names_ends_items, .inl (cs 0, a_names_ends_items_n, .inl a_names_ends_items_f)), (a_names_older, .inr (1, [.ref a_names_older_items, .int a_names_older_size])), (a_names_older_items, .inl (cs 0, a_names_older_items_n, .inl a_names_older_items_f)), (a_names_newest, .inl (cs 0, a_names_newest_n, .inl a_names_newest_f))] sz)) (va_Qv (fun _ : Unit => True) (fun _ t => ∃ b_a_names_texts b_a_names_ends_items b_a_names_older_items : Nat, va_P g classes [(a, .inr (6, [.ref a_tape, .ref a_names, .int o_a_kind, .int a_place, .int o_a_behind, .int a_passed, .int o_a_name, .long a_number])), (a_tape, .inr (0, [.ref a_tape_items, .int a_tape_size])), (a_tape_items, .inl (cs 1, a_tape_items_n, .inl a_tape_items_f)), (a_names, .inr (2, [.ref b_a_names_texts, .int o_a_names_textsSize, .ref a_names_ends, .ref a_names_older, .ref a_names_newest, .int a_names_sizeBefore])), (b_a_names_texts, .inl (cs 1, o_a_names_texts_n, .inl o_a_names_texts_f)), (a_names_ends, .inr (1, [.ref b_a_names_ends_items, .int o_a_names_ends_size])), (b_a_names_ends_items, .inl (cs 0, o_a_names_ends_items_n, .inl o_a_names_ends_items_f)), (a_names_older, .inr (1, [.ref b_a_names_older_items, .int o_a_names_older_size])), (b_a_names_older_items, .inl (cs 0, o_a_names_older_items_n, .inl o_a_names_older_items_f)), (a_names_newest, .inl (cs 0, a_names_newest_n, .inl o_a_names_newest_f))] t.heap ∧ va_D (va_A [(a, .inr (6, [.ref a_tape, .ref a_names, .int a_kind, .int a_place, .int a_behind, .int a_passed, .int a_name, .long a_number])), (a_tape, .inr (0, [.ref a_tape_items, .int a_tape_size])), (a_tape_items, .inl (cs 1, a_tape_items_n, .inl a_tape_items_f)), (a_names, .inr (2, [.ref a_names_texts, .int a_names_textsSize, .ref a_names_ends, .ref a_names_older, .ref a_names_newest, .int a_names_sizeBefore])), (a_names_texts, .inl (cs 1, a_names_texts_n, .inl a_names_texts_f)), (a_names_ends, .inr (1, [.ref a_names_ends_items, .int a_names_ends_size])), (a_names_ends_items, .inl (cs 0, a_names_ends_items_n, .inl a_names_ends_items_f)), (a_names_older, .inr (1, [.ref a_names_older_items, .int a_names_older_size])), (a_names_older_items, .inl (cs 0, a_names_older_items_n, .inl a_names_older_items_f)), (a_names_newest, .inl (cs 0, a_names_newest_n, .inl a_names_newest_f))] sz) [(a, .inr (6, [.ref a_tape, .ref a_names, .int o_a_kind, .int a_place, .int o_a_behind, .int a_passed, .int o_a_name, .long a_number])), (a_tape, .inr (0, [.ref a_tape_items, .int a_tape_size])), (a_tape_items, .inl (cs 1, a_tape_items_n, .inl a_tape_items_f)), (a_names, .inr (2, [.ref b_a_names_texts, .int o_a_names_textsSize, .ref a_names_ends, .ref a_names_older, .ref a_names_newest, .int a_names_sizeBefore])), (b_a_names_texts, .inl (cs 1, o_a_names_texts_n, .inl o_a_names_texts_f)), (a_names_ends, .inr (1, [.ref b_a_names_ends_items, .int o_a_names_ends_size])), (b_a_names_ends_items, .inl (cs 0, o_a_names_ends_items_n, .inl o_a_names_ends_items_f)), (a_names_older, .inr (1, [.ref b_a_names_older_items, .int o_a_names_older_size])), (b_a_names_older_items, .inl (cs 0, o_a_names_older_items_n, .inl o_a_names_older_items_f)), (a_names_newest, .inl (cs 0, a_names_newest_n, .inl o_a_names_newest_f))]) (va_A [(a, .inr (6, [.ref a_tape, .ref a_names, .int a_kind, .int a_place, .int a_behind, .int a_passed, .int a_name, .long a_number])), (a_tape, .inr (0, [.ref a_tape_items, .int a_tape_size])), (a_tape_items, .inl (cs 1, a_tape_items_n, .inl a_tape_items_f)), (a_names, .inr (2, [.ref a_names_texts, .int a_names_textsSize, .ref a_names_ends, .ref a_names_older, .ref a_names_newest, .int a_names_sizeBefore])), (a_names_texts, .inl (cs 1, a_names_texts_n, .inl a_names_texts_f)), (a_names_ends, .inr (1, [.ref a_names_ends_items, .int a_names_ends_size])), (a_names_ends_items, .inl (cs 0, a_names_ends_items_n, .inl a_names_ends_items_f)), (a_names_older, .inr (1, [.ref a_names_older_items, .int a_names_older_size])), (a_names_older_items, .inl (cs 0, a_names_older_items_n, .inl a_names_older_items_f)), (a_names_newest, .inl (cs 0, a_names_newest_n, .inl a_names_newest_f))] sz)) mc ms (va_A [(a, .inr (6, [.ref a_tape, .ref a_names, .int a_kind, .int a_place, .int a_behind, .int a_passed, .int a_name, .long a_number])), (a_tape, .inr (0, [.ref a_tape_items, .int a_tape_size])), (a_tape_items, .inl (cs 1, a_tape_items_n, .inl a_tape_items_f)), (a_names, .inr (2, [.ref a_names_texts, .int a_names_textsSize, .ref a_names_ends, .ref a_names_older, .ref a_names_newest, .int a_names_sizeBefore])), (a_names_texts, .inl (cs 1, a_names_texts_n, .inl a_names_texts_f)), (a_names_ends, .inr (1, [.ref a_names_ends_items, .int a_names_ends_size])), (a_names_ends_items, .inl (cs 0, a_names_ends_items_n, .inl a_names_ends_items_f)), (a_names_older, .inr (1, [.ref a_names_older_items, .int a_names_older_size])), (a_names_older_items, .inl (cs 0, a_names_older_items_n, .inl a_names_older_items_f)), (a_names_newest, .inl (cs 0, a_names_newest_n, .inl a_names_newest_f))] sz) := by
  refine Met.ofW (cc := b_Signs_takeQuoted) (maxL := 2) (ret := none) (by decide) rfl ?_
  intro p e s m args below meth c s₁ B hml hv
  obtain ⟨rfl, hsz, hP, hK, hD0, hgl, hkn, hkr⟩ := hv
  have hx := B.exec
  have hb := B.bytes
  have hr := B.returns
  have hg : ∀ w ∈ GW, w.before ([.ref a] : List Value).toArray s = true := fun w hw => atoms_spec (ws := .code y_Signs_takeQuoted b_Signs_takeQuoted 2 none :: GW) B.pre w (List.mem_cons_of_mem _ hw)
  have hown : s.vm.findClass R_Signs = some m.cls := findClass_of_methodNamed B.named
  have hlocks := B.notSynchronized
  subst hsz
  have hD := hD0.self (sz := s.heap.size)
  generalize hAe : va_A [(a, .inr (6, [.ref a_tape, .ref a_names, .int a_kind, .int a_place, .int a_behind, .int a_passed, .int a_name, .long a_number])), (a_tape, .inr (0, [.ref a_tape_items, .int a_tape_size])), (a_tape_items, .inl (cs 1, a_tape_items_n, .inl a_tape_items_f)), (a_names, .inr (2, [.ref a_names_texts, .int a_names_textsSize, .ref a_names_ends, .ref a_names_older, .ref a_names_newest, .int a_names_sizeBefore])), (a_names_texts, .inl (cs 1, a_names_texts_n, .inl a_names_texts_f)), (a_names_ends, .inr (1, [.ref a_names_ends_items, .int a_names_ends_size])), (a_names_ends_items, .inl (cs 0, a_names_ends_items_n, .inl a_names_ends_items_f)), (a_names_older, .inr (1, [.ref a_names_older_items, .int a_names_older_size])), (a_names_older_items, .inl (cs 0, a_names_older_items_n, .inl a_names_older_items_f)), (a_names_newest, .inl (cs 0, a_names_newest_n, .inl a_names_newest_f))] s.heap.size = A at hD hkn ⊢
  have hA : ∀ q : Nat, s.heap.size ≤ q → A q := fun q h => by rw [← hAe]; exact Or.inr h
  have hS : va_S A s.heap s.heap [] := va_S.rf
  have hP : va_P g classes [(a, .inr (6, [.ref a_tape, .ref a_names, .int a_kind, .int a_place, .int a_behind, .int a_passed, .int a_name, .long a_number])), (a_tape, .inr (0, [.ref a_tape_items, .int a_tape_size])), (a_tape_items, .inl (cs 1, a_tape_items_n, .inl a_tape_items_f)), (a_names, .inr (2, [.ref a_names_texts, .int a_names_textsSize, .ref a_names_ends, .ref a_names_older, .ref a_names_newest, .int a_names_sizeBefore])), (a_names_texts, .inl (cs 1, a_names_texts_n, .inl a_names_texts_f)), (a_names_ends, .inr (1, [.ref a_names_ends_items, .int a_names_ends_size])), (a_names_ends_items, .inl (cs 0, a_names_ends_items_n, .inl a_names_ends_items_f)), (a_names_older, .inr (1, [.ref a_names_older_items, .int a_names_older_size])), (a_names_older_items, .inl (cs 0, a_names_older_items_n, .inl a_names_older_items_f)), (a_names_newest, .inl (cs 0, a_names_newest_n, .inl a_names_newest_f))] s.heap := hP
  have hl := lv_entry ([.ref a]) (n := 2) (Nat.le_of_ble_eq_true rfl)
  rw [lg_entry_eq]
  generalize (lg_sl ([.ref a]) ++ List.replicate (2 - (lg_sl ([.ref a])).length) Slot.unset).toArray = ls at hl ⊢
  have hl : lv_has ls 2 [(0, .ref a)] := hl
  refine gq (fun Q hQ => ?_)
  obtain ⟨H, hH⟩ : ∃ H : Heap, H = s.heap := ⟨_, rfl⟩
  rw [← hH] at hP
  have hS : va_S A s.heap H [] := by rw [hH]; exact hS
  refine W.eqH hH ?_
  obtain ⟨locs, hlc⟩ : ∃ L : List Loc, L = [] := ⟨_, rfl⟩
  rw [← hlc] at hS ⊢
  unfold p_Signs_takeQuoted at hok
  refine lv_aload_n hx hb d_Signs_takeQuoted_0 rfl (lv_at hl 0 rfl) ?_
  refine va_get (D := g) (ci := 6) (v := .ref a_names) (C := R_Signs) (T := F_Signs) (N := 8) hx hb hg ul_Signs hown hK hP 0 rfl rfl 1 (by decide) (hg _ wd_448) (fun _ h9 => h9) rfl d_Signs_takeQuoted_1 ?_
  obtain ⟨a_textsSize_1, hc1, hok⟩ := bd_some hok
  obtain ⟨hPc, hDc, hFc⟩ := cut0 (wc := [(a_names, .inr (2, [.ref a_names_texts, .int a_names_textsSize, .ref a_names_ends, .ref a_names_older, .ref a_names_newest, .int a_names_sizeBefore])), (a_names_ends, .inr (1, [.ref a_names_ends_items, .int a_names_ends_size])), (a_names_ends_items, .inl (cs 0, a_names_ends_items_n, .inl a_names_ends_items_f))]) hP hD hS hA [3, 5, 6] (by decide) rfl
  refine va_callv (va_runV (As := []) (rest := []) ⟨hx, hb, hml, hown, hg⟩ (c_Names_startText l g cs ka a_names_texts a_names_older a_names_newest a_names a_names_ends a_names_ends_items H.size a_names_textsSize a_names_sizeBefore a_names_ends_size a_names_ends_items_n a_names_ends_items_f a_textsSize_1 hc1) (cwV (C := R_Names) 0 hg (gw_V wd_464 wd_418 wd_419 wd_287 wd_416) rfl rfl rfl (by decide +kernel) ⟨Nat.le_of_ble_eq_true rfl, Nat.le_of_ble_eq_true rfl⟩) ⟨gP_blind, va_recv (q0 := 3) (ci := 2) (q := (R_Names, F_Names, 6)) hK hP rfl rfl, gP_pre hPc hDc hK hgl hkn hkr hS hFc⟩ rfl rfl hl.1 rfl (lv_room (Nat.le_of_ble_eq_true rfl)) d_Signs_takeQuoted_4 ⟨show 0 + 0 ≤ mc from by omega, show 0 + 0 ≤ ms from by omega⟩) hS (fun q _ h => hFc q h) hFc (fun u t H locs ht hvm hr1 hB hz1 hk1 hS => ?_)
  rw [ht] at hB
  obtain ⟨hP1, hD1⟩ := hB
  obtain ⟨hP, hD⟩ := jn_A hP hD [3, 5, 6] [0, 1, 2, 4, 7, 8, 9] rfl rfl (by decide) (by decide) hk1 hFc hP1 hD1
  obtain ⟨hP, hD⟩ : PD g A H [(a, .inr (6, [.ref a_tape, .ref a_names, .int a_kind, .int a_place, .int a_behind, .int a_passed, .int a_name, .long a_number])), (a_tape, .inr (0, [.ref a_tape_items, .int a_tape_size])), (a_tape_items, .inl (cs 1, a_tape_items_n, .inl a_tape_items_f)), (a_names_texts, .inl (cs 1, a_names_texts_n, .inl a_names_texts_f)), (a_names_older, .inr (1, [.ref a_names_older_items, .int a_names_older_size])), (a_names_older_items, .inl (cs 0, a_names_older_items_n, .inl a_names_older_items_f)), (a_names_newest, .inl (cs 0, a_names_newest_n, .inl a_names_newest_f)), (a_names, .inr (2, [.ref a_names_texts, .int a_textsSize_1, .ref a_names_ends, .ref a_names_older, .ref a_names_newest, .int a_names_sizeBefore])), (a_names_ends, .inr (1, [.ref a_names_ends_items, .int a_names_ends_size])), (a_names_ends_items, .inl (cs 0, a_names_ends_items_n, .inl a_names_ends_items_f))] := ⟨hP, hD⟩
  refine lv_aload_n hx hb d_Signs_takeQuoted_7 rfl (lv_at hl 0 rfl) ?_
  refine lv_bipush (v := 6) hx hb d_Signs_takeQuoted_8 (by decide) ?_
  refine lv_aload_n hx hb d_Signs_takeQuoted_10 rfl (lv_at hl 0 rfl) ?_
  refine va_get (D := g) (ci := 6) (v := .int a_place) (C := R_Signs) (T := F_Signs) (N := 8) hx hb hg ul_Signs hown hK hP 0 rfl rfl 3 (by decide) (hg _ wd_442) (fun _ h9 => h9) rfl d_Signs_takeQuoted_11 ?_
  refine lv_iconst (v := 1) hx hb d_Signs_takeQuoted_14 (by decide) ?_
  refine lv_iadd hx hb d_Signs_takeQuoted_15 ?_
  obtain ⟨⟨a_kind_2, a_behind_2⟩, hc2, hok⟩ := bd_some hok
  dsimp only at hok
  obtain ⟨hPc, hDc, hFc⟩ := cut0 (wc := [(a, .inr (6, [.ref a_tape, .ref a_names, .int a_kind, .int a_place, .int a_behind, .int a_passed, .int a_name, .long a_number]))]) hP hD hS hA [0] (by decide) rfl
  refine va_callv (va_runV (As := [.int 6, .int (a_place + 1)]) (rest := []) ⟨hx, hb, hml, hown, hg⟩ (c_Signs_takeTo l g cs ka a_tape a_names a H.size (6 : Int32) (a_place + 1) a_kind a_place a_behind a_passed a_name a_number a_kind_2 a_behind_2 hc2) (cwV (C := R_Signs) 2 hg (gw_V wd_468 wd_469 wd_470 wd_467 wd_466) rfl rfl rfl (by decide +kernel) ⟨Nat.le_of_ble_eq_true rfl, Nat.le_of_ble_eq_true rfl⟩) ⟨gP_blind, va_recv (q0 := 0) (ci := 6) (q := (R_Signs, F_Signs, 8)) hK hP rfl rfl, gP_pre hPc hDc hK hgl hkn hkr hS hFc⟩ rfl rfl hl.1 rfl (lv_room (Nat.le_of_ble_eq_true rfl)) d_Signs_takeQuoted_16 ⟨show 0 + 0 + 0 ≤ mc from by omega, show 0 + 0 + 0 ≤ ms from by omega⟩) hS (fun q _ h => hFc q h) hFc (fun u t H locs ht hvm hr2 hB hz1 hk1 hS => ?_)
  rw [ht] at hB
  obtain ⟨hP1, hD1⟩ := hB
  obtain ⟨hP, hD⟩ := jn_A hP hD [0] [1, 2, 3, 4, 5, 6, 7, 8, 9] rfl rfl (by decide) (by decide) hk1 hFc hP1 hD1
  obtain ⟨hP, hD⟩ : PD g A H [(a_tape, .inr (0, [.ref a_tape_items, .int a_tape_size])), (a_tape_items, .inl (cs 1, a_tape_items_n, .inl a_tape_items_f)), (a_names_texts, .inl (cs 1, a_names_texts_n, .inl a_names_texts_f)), (a_names_older, .inr (1, [.ref a_names_older_items, .int a_names_older_size])), (a_names_older_items, .inl (cs 0, a_names_older_items_n, .inl a_names_older_items_f)), (a_names_newest, .inl (cs 0, a_names_newest_n, .inl a_names_newest_f)), (a_names, .inr (2, [.ref a_names_texts, .int a_textsSize_1, .ref a_names_ends, .ref a_names_older, .ref a_names_newest, .int a_names_sizeBefore])), (a_names_ends, .inr (1, [.ref a_names_ends_items, .int a_names_ends_size])), (a_names_ends_items, .inl (cs 0, a_names_ends_items_n, .inl a_names_ends_items_f)), (a, .inr (6, [.ref a_tape, .ref a_names, .int a_kind_2, .int a_place, .int a_behind_2, .int a_passed, .int a_name, .long a_number]))] := ⟨hP, hD⟩
  refine lv_aload_n hx hb d_Signs_takeQuoted_19 rfl (lv_at hl 0 rfl) ?_
  refine va_get (D := g) (ci := 6) (v := .int a_place) (C := R_Signs) (T := F_Signs) (N := 8) hx hb hg ul_Signs hown hK hP 9 rfl rfl 3 (by decide) (hg _ wd_442) (fun _ h9 => h9) rfl d_Signs_takeQuoted_20 ?_
  refine lv_iconst (v := 1) hx hb d_Signs_takeQuoted_23 (by decide) ?_
  refine lv_iadd hx hb d_Signs_takeQuoted_24 ?_
  refine lv_istore_n hx hb d_Signs_takeQuoted_25 rfl hl (by decide) rfl (fun ls hl => ?_)
  have hl : lv_has ls 2 [(1, .int (a_place + 1)), (0, .ref a)] := hl
  have J3 : ∀ (kf3 : Nat) (H : Heap) (locs : List Loc) (ls : Array Slot) (cells3 slots3 mr3 sr3 : Nat) (a_names_texts_3 : Nat) (x1_3 : Int32) (a_names_textsSize_3 : Int32) (a_names_texts_3n : Nat) (a_names_texts_3f : Nat → Int32), lv_has ls 2 [(1, .int x1_3), (0, .ref a)] → PD g A H [(a_tape, .inr (0, [.ref a_tape_items, .int a_tape_size])), (a_tape_items, .inl (cs 1, a_tape_items_n, .inl a_tape_items_f)), (a_names_texts_3, .inl (cs 1, a_names_texts_3n, .inl a_names_texts_3f)), (a_names_older, .inr (1, [.ref a_names_older_items, .int a_names_older_size])), (a_names_older_items, .inl (cs 0, a_names_older_items_n, .inl a_names_older_items_f)), (a_names_newest, .inl (cs 0, a_names_newest_n, .inl a_names_newest_f)), (a_names, .inr (2, [.ref a_names_texts_3, .int a_names_textsSize_3, .ref a_names_ends, .ref a_names_older, .ref a_names_newest, .int a_names_sizeBefore])), (a_names_ends, .inr (1, [.ref a_names_ends_items, .int a_names_ends_size])), (a_names_ends_items, .inl (cs 0, a_names_ends_items_n, .inl a_names_ends_items_f)), (a, .inr (6, [.ref a_tape, .ref a_names, .int a_kind_2, .int a_place, .int a_behind_2, .int a_passed, .int a_name, .long a_number]))] → va_S A s.heap H locs → cells3 + mr3 = mc → slots3 + sr3 = ms → p_Signs_takeQuoted_26 n a_place a_passed a_name a_number a_tape_size a_tape_items_n a_tape_items_f a_names_sizeBefore a_names_ends_size a_names_ends_items_n a_names_ends_items_f a_names_older_size a_names_older_items_n a_names_older_items_f a_names_newest_n a_names_newest_f a_kind_2 a_behind_2 kf3 x1_3 a_names_textsSize_3 a_names_texts_3n a_names_texts_3f = some ((o_a_kind, o_a_behind, o_a_name, o_a_names_textsSize, o_a_names_texts_n, o_a_names_texts_f, o_a_names_ends_size, o_a_names_ends_items_n, o_a_names_ends_items_f, o_a_names_older_size, o_a_names_older_items_n, o_a_names_older_items_f, o_a_names_newest_f), mr3, sr3) → W p l e (headSpec (.code y_Signs_takeQuoted b_Signs_takeQuoted 2 none :: GW) { frames := 4, cells := mc, slots := ms, locals := 167 }).room s m ([.ref a] : List Value).toArray below meth c H locs cells3 slots3 Q (F0 m 26 ls []) := by
    intro kf3
    induction kf3 with
    | zero => intro H locs ls cells3 slots3 mr3 sr3 a_names_texts_3 x1_3 a_names_textsSize_3 a_names_texts_3n a_names_texts_3f hl ⟨hP, hD⟩ hS hmr3 hsr3 hok; rw [p_Signs_takeQuoted_26] at hok; cases hok
    | succ kf3 ih3 =>
      intro H locs ls cells3 slots3 mr3 sr3 a_names_texts_3 x1_3 a_names_textsSize_3 a_names_texts_3n a_names_texts_3f hl ⟨hP, hD⟩ hS hmr3 hsr3 hok
      rw [p_Signs_takeQuoted_26] at hok
      refine lv_iload_n hx hb d_Signs_takeQuoted_26 rfl (lv_at hl 0 rfl) ?_
      refine lv_aload_n hx hb d_Signs_takeQuoted_27 rfl (lv_at hl 1 rfl) ?_
      refine va_get (D := g) (ci := 6) (v := .ref a_tape) (C := R_Signs) (T := F_Signs) (N := 8) hx hb hg ul_Signs hown hK hP 9 rfl rfl 0 (by decide) (hg _ wd_447) (fun _ h9 => h9) rfl d_Signs_takeQuoted_28 ?_
      obtain ⟨r4, hc4, hok⟩ := bd_some hok
      obtain ⟨hPc, hDc, hFc⟩ := cut0 (wc := [(a_tape, .inr (0, [.ref a_tape_items, .int a_tape_size]))]) hP hD hS hA [0] (by decide) rfl
      refine va_calli (va_runV (As := []) (rest := [.int x1_3]) ⟨hx, hb, hml, hown, hg⟩ (c_Bytes_size l g cs ka a_tape_items a_tape H.size a_tape_size r4 hc4) (cwV (C := R_Bytes) 0 hg (gw_V wd_451 wd_452 wd_453 wd_450 wd_449) rfl rfl rfl (by decide +kernel) ⟨Nat.le_of_ble_eq_true rfl, Nat.le_of_ble_eq_true rfl⟩) ⟨gP_blind, va_recv (q0 := 0) (ci := 0) (q := (R_Bytes, F_Bytes, 2)) hK hP rfl rfl, gP_pre hPc hDc hK hgl hkn hkr hS hFc⟩ rfl rfl hl.1 rfl (lv_room (Nat.le_of_ble_eq_true rfl)) d_Signs_takeQuoted_31 ⟨show cells3 + 0 ≤ mc from by omega, show slots3 + 0 ≤ ms from by omega⟩) hS (fun q _ h => hFc q h) hFc (fun r4' u t H locs ht hvm hr4 hB hz1 hk1 hS => ?_)
      subst hr4
      rw [ht] at hB
      obtain ⟨hP1, hD1⟩ := hB
      obtain ⟨hP, hD⟩ := jn_A hP hD [0] [1, 2, 3, 4, 5, 6, 7, 8, 9] rfl rfl (by decide) (by decide) hk1 hFc hP1 hD1
      obtain ⟨hP, hD⟩ : PD g A H [(a_tape_items, .inl (cs 1, a_tape_items_n, .inl a_tape_items_f)), (a_names_texts_3, .inl (cs 1, a_names_texts_3n, .inl a_names_texts_3f)), (a_names_older, .inr (1, [.ref a_names_older_items, .int a_names_older_size])), (a_names_older_items, .inl (cs 0, a_names_older_items_n, .inl a_names_older_items_f)), (a_names_newest, .inl (cs 0, a_names_newest_n, .inl a_names_newest_f)), (a_names, .inr (2, [.ref a_names_texts_3, .int a_names_textsSize_3, .ref a_names_ends, .ref a_names_older, .ref a_names_newest, .int a_names_sizeBefore])), (a_names_ends, .inr (1, [.ref a_names_ends_items, .int a_names_ends_size])), (a_names_ends_items, .inl (cs 0, a_names_ends_items_n, .inl a_names_ends_items_f)), (a, .inr (6, [.ref a_tape, .ref a_names, .int a_kind_2, .int a_place, .int a_behind_2, .int a_passed, .int a_name, .long a_number])), (a_tape, .inr (0, [.ref a_tape_items, .int a_tape_size]))] := ⟨hP, hD⟩
      refine lv_icmp_ge hx hb d_Signs_takeQuoted_34 rfl (fun h5 => ?_) (fun h5 => ?_)
      · rw [if_pos h5] at hok
        obtain ⟨hq, hw⟩ := Prod.mk.inj (Option.some.inj hok)
        obtain ⟨hmc0, hms0⟩ := Prod.mk.inj hw
        obtain ⟨hq0, hq⟩ := Prod.mk.inj hq
        obtain ⟨hq1, hq⟩ := Prod.mk.inj hq
        obtain ⟨hq2, hq⟩ := Prod.mk.inj hq
        obtain ⟨hq3, hq⟩ := Prod.mk.inj hq
        obtain ⟨hq4, hq⟩ := Prod.mk.inj hq
        obtain ⟨hq5, hq⟩ := Prod.mk.inj hq
        obtain ⟨hq6, hq⟩ := Prod.mk.inj hq
        obtain ⟨hq7, hq⟩ := Prod.mk.inj hq
        obtain ⟨hq8, hq⟩ := Prod.mk.inj hq
        obtain ⟨hq9, hq⟩ := Prod.mk.inj hq
        obtain ⟨hq10, hq⟩ := Prod.mk.inj hq
        obtain ⟨hq11, hq⟩ := Prod.mk.inj hq
        have hq12 := hq
        subst hq0
        subst hq1
        subst hq2
        subst hq3
        subst hq4
        subst hq5
        subst hq6
        subst hq7
        subst hq8
        subst hq9
        subst hq10
        subst hq11
        subst hq12
        obtain ⟨hP9, hD9⟩ := sub2 (ws' := [(a, .inr (6, [.ref a_tape, .ref a_names, .int a_kind_2, .int a_place, .int a_behind_2, .int a_passed, .int a_name, .long a_number])), (a_tape, .inr (0, [.ref a_tape_items, .int a_tape_size])), (a_tape_items, .inl (cs 1, a_tape_items_n, .inl a_tape_items_f)), (a_names, .inr (2, [.ref a_names_texts_3, .int a_names_textsSize_3, .ref a_names_ends, .ref a_names_older, .ref a_names_newest, .int a_names_sizeBefore])), (a_names_texts_3, .inl (cs 1, a_names_texts_3n, .inl a_names_texts_3f)), (a_names_ends, .inr (1, [.ref a_names_ends_items, .int a_names_ends_size])), (a_names_ends_items, .inl (cs 0, a_names_ends_items_n, .inl a_names_ends_items_f)), (a_names_older, .inr (1, [.ref a_names_older_items, .int a_names_older_size])), (a_names_older_items, .inl (cs 0, a_names_older_items_n, .inl a_names_older_items_f)), (a_names_newest, .inl (cs 0, a_names_newest_n, .inl a_names_newest_f))]) hP hD [8, 9, 0, 5, 1, 6, 7, 2, 3, 4] rfl (by decide) rfl
        refine W.widen (k := mc) (n := ms) (by omega) (by omega) ?_
        rw [hQ]
        exact W.vret hx hb hr (fun t ht hW => ⟨⟨(), rfl, trivial, a_names_texts_3, a_names_ends_items, a_names_older_items, by rw [ht]; exact hP9, hD9⟩, hS.F ht⟩) hS.2.2 d_Signs_takeQuoted_119
      · rw [if_neg h5] at hok
        refine lv_aload_n hx hb d_Signs_takeQuoted_37 rfl (lv_at hl 1 rfl) ?_
        refine va_get (D := g) (ci := 6) (v := .ref a_tape) (C := R_Signs) (T := F_Signs) (N := 8) hx hb hg ul_Signs hown hK hP 8 rfl rfl 0 (by decide) (hg _ wd_447) (fun _ h9 => h9) rfl d_Signs_takeQuoted_38 ?_
        refine lv_iload_n hx hb d_Signs_takeQuoted_41 rfl (lv_at hl 0 rfl) ?_
        obtain ⟨r6, hc6, hok⟩ := bd_some hok
        obtain ⟨hPc, hDc, hFc⟩ := cut0 (wc := [(a_tape, .inr (0, [.ref a_tape_items, .int a_tape_size])), (a_tape_items, .inl (cs 1, a_tape_items_n, .inl a_tape_items_f))]) hP hD hS hA [9, 0] (by decide) rfl
        refine va_calli (va_runV (As := [.int x1_3]) (rest := []) ⟨hx, hb, hml, hown, hg⟩ (c_Bytes_at l g cs ka a_tape a_tape_items H.size x1_3 a_tape_size a_tape_items_n a_tape_items_f r6 hc6) (cwV (C := R_Bytes) 1 hg (gw_V wd_455 wd_456 wd_457 wd_450 wd_454) rfl rfl rfl (by decide +kernel) ⟨Nat.le_of_ble_eq_true rfl, Nat.le_of_ble_eq_true rfl⟩) ⟨gP_blind, va_recv (q0 := 9) (ci := 0) (q := (R_Bytes, F_Bytes, 2)) hK hP rfl rfl, gP_pre hPc hDc hK hgl hkn hkr hS hFc⟩ rfl rfl hl.1 rfl (lv_room (Nat.le_of_ble_eq_true rfl)) d_Signs_takeQuoted_42 ⟨show cells3 + 0 + 0 ≤ mc from by omega, show slots3 + 0 + 0 ≤ ms from by omega⟩) hS (fun q _ h => hFc q h) hFc (fun r6' u t H locs ht hvm hr6 hB hz1 hk1 hS => ?_)
        subst hr6
        rw [ht] at hB
        obtain ⟨hP1, hD1⟩ := hB
        obtain ⟨hP, hD⟩ := jn_A hP hD [9, 0] [1, 2, 3, 4, 5, 6, 7, 8] rfl rfl (by decide) (by decide) hk1 hFc hP1 hD1
        obtain ⟨hP, hD⟩ : PD g A H [(a_names_texts_3, .inl (cs 1, a_names_texts_3n, .inl a_names_texts_3f)), (a_names_older, .inr (1, [.ref a_names_older_items, .int a_names_older_size])), (a_names_older_items, .inl (cs 0, a_names_older_items_n, .inl a_names_older_items_f)), (a_names_newest, .inl (cs 0, a_names_newest_n, .inl a_names_newest_f)), (a_names, .inr (2, [.ref a_names_texts_3, .int a_names_textsSize_3, .ref a_names_ends, .ref a_names_older, .ref a_names_newest, .int a_names_sizeBefore])), (a_names_ends, .inr (1, [.ref a_names_ends_items, .int a_names_ends_size])), (a_names_ends_items, .inl (cs 0, a_names_ends_items_n, .inl a_names_ends_items_f)), (a, .inr (6, [.ref a_tape, .ref a_names, .int a_kind_2, .int a_place, .int a_behind_2, .int a_passed, .int a_name, .long a_number])), (a_tape, .inr (0, [.ref a_tape_items, .int a_tape_size])), (a_tape_items, .inl (cs 1, a_tape_items_n, .inl a_tape_items_f))] := ⟨hP, hD⟩
        obtain ⟨r7, hc7, hok⟩ := bd_some hok
        obtain ⟨hPc, hDc, hFc⟩ := cut0 (wc := []) hP hD hS hA [] (by decide) rfl
        refine va_calli (va_runS (As := [.int r6]) (rest := []) ⟨hx, hb, hml, hown, hg⟩ (c_Letters_isQuotable l g cs ka H.size r6 r7 hc7) (va_cwS 1 hg (gw_S wd_496 wd_497 wd_217 wd_495) rfl rfl rfl (by decide +kernel) ⟨Nat.le_of_ble_eq_true rfl, Nat.le_of_ble_eq_true rfl⟩) ⟨gP_blind, gP_pre hPc hDc hK hgl hkn hkr hS hFc⟩ rfl rfl hl.1 rfl (lv_room (Nat.le_of_ble_eq_true rfl)) d_Signs_takeQuoted_45 ⟨show cells3 + 0 + 0 + 0 ≤ mc from by omega, show slots3 + 0 + 0 + 0 ≤ ms from by omega⟩) hS (fun q _ h => hFc q h) hFc (fun r7' u t H locs ht hvm hr7 hB hz1 hk1 hS => ?_)
        subst hr7
        rw [ht] at hB
        obtain ⟨hP1, hD1⟩ := hB
        obtain ⟨hP, hD⟩ := jn_A hP hD [] [0, 1, 2, 3, 4, 5, 6, 7, 8, 9] rfl rfl (by decide) (by decide) hk1 hFc hP1 hD1
        obtain ⟨hP, hD⟩ : PD g A H [(a_names_texts_3, .inl (cs 1, a_names_texts_3n, .inl a_names_texts_3f)), (a_names_older, .inr (1, [.ref a_names_older_items, .int a_names_older_size])), (a_names_older_items, .inl (cs 0, a_names_older_items_n, .inl a_names_older_items_f)), (a_names_newest, .inl (cs 0, a_names_newest_n, .inl a_names_newest_f)), (a_names, .inr (2, [.ref a_names_texts_3, .int a_names_textsSize_3, .ref a_names_ends, .ref a_names_older, .ref a_names_newest, .int a_names_sizeBefore])), (a_names_ends, .inr (1, [.ref a_names_ends_items, .int a_names_ends_size])), (a_names_ends_items, .inl (cs 0, a_names_ends_items_n, .inl a_names_ends_items_f)), (a, .inr (6, [.ref a_tape, .ref a_names, .int a_kind_2, .int a_place, .int a_behind_2, .int a_passed, .int a_name, .long a_number])), (a_tape, .inr (0, [.ref a_tape_items, .int a_tape_size])), (a_tape_items, .inl (cs 1, a_tape_items_n, .inl a_tape_items_f))] := ⟨hP, hD⟩
        refine lv_if_eq hx hb d_Signs_takeQuoted_48 rfl (fun h8 => ?_) (fun h8 => ?_)
        · rw [if_pos h8] at hok
          obtain ⟨hq, hw⟩ := Prod.mk.inj (Option.some.inj hok)
          obtain ⟨hmc0, hms0⟩ := Prod.mk.inj hw
          obtain ⟨hq0, hq⟩ := Prod.mk.inj hq
          obtain ⟨hq1, hq⟩ := Prod.mk.inj hq
          obtain ⟨hq2, hq⟩ := Prod.mk.inj hq
          obtain ⟨hq3, hq⟩ := Prod.mk.inj hq
          obtain ⟨hq4, hq⟩ := Prod.mk.inj hq
          obtain ⟨hq5, hq⟩ := Prod.mk.inj hq
          obtain ⟨hq6, hq⟩ := Prod.mk.inj hq
          obtain ⟨hq7, hq⟩ := Prod.mk.inj hq
          obtain ⟨hq8, hq⟩ := Prod.mk.inj hq
          obtain ⟨hq9, hq⟩ := Prod.mk.inj hq
          obtain ⟨hq10, hq⟩ := Prod.mk.inj hq
          obtain ⟨hq11, hq⟩ := Prod.mk.inj hq
          have hq12 := hq
          subst hq0
          subst hq1
          subst hq2
          subst hq3
          subst hq4
          subst hq5
          subst hq6
          subst hq7
          subst hq8
          subst hq9
          subst hq10
          subst hq11
          subst hq12
          obtain ⟨hP9, hD9⟩ := sub2 (ws' := [(a, .inr (6, [.ref a_tape, .ref a_names, .int a_kind_2, .int a_place, .int a_behind_2, .int a_passed, .int a_name, .long a_number])), (a_tape, .inr (0, [.ref a_tape_items, .int a_tape_size])), (a_tape_items, .inl (cs 1, a_tape_items_n, .inl a_tape_items_f)), (a_names, .inr (2, [.ref a_names_texts_3, .int a_names_textsSize_3, .ref a_names_ends, .ref a_names_older, .ref a_names_newest, .int a_names_sizeBefore])), (a_names_texts_3, .inl (cs 1, a_names_texts_3n, .inl a_names_texts_3f)), (a_names_ends, .inr (1, [.ref a_names_ends_items, .int a_names_ends_size])), (a_names_ends_items, .inl (cs 0, a_names_ends_items_n, .inl a_names_ends_items_f)), (a_names_older, .inr (1, [.ref a_names_older_items, .int a_names_older_size])), (a_names_older_items, .inl (cs 0, a_names_older_items_n, .inl a_names_older_items_f)), (a_names_newest, .inl (cs 0, a_names_newest_n, .inl a_names_newest_f))]) hP hD [7, 8, 9, 4, 0, 5, 6, 1, 2, 3] rfl (by decide) rfl
          refine W.widen (k := mc) (n := ms) (by omega) (by omega) ?_
          rw [hQ]
          exact W.vret hx hb hr (fun t ht hW => ⟨⟨(), rfl, trivial, a_names_texts_3, a_names_ends_items, a_names_older_items, by rw [ht]; exact hP9, hD9⟩, hS.F ht⟩) hS.2.2 d_Signs_takeQuoted_119
        · rw [if_neg h8] at hok
          refine lv_aload_n hx hb d_Signs_takeQuoted_51 rfl (lv_at hl 1 rfl) ?_
          refine va_get (D := g) (ci := 6) (v := .ref a_tape) (C := R_Signs) (T := F_Signs) (N := 8) hx hb hg ul_Signs hown hK hP 7 rfl rfl 0 (by decide) (hg _ wd_447) (fun _ h9 => h9) rfl d_Signs_takeQuoted_52 ?_
          refine lv_iload_n hx hb d_Signs_takeQuoted_55 rfl (lv_at hl 0 rfl) ?_
          obtain ⟨r9, hc9, hok⟩ := bd_some hok
          obtain ⟨hPc, hDc, hFc⟩ := cut0 (wc := [(a_tape, .inr (0, [.ref a_tape_items, .int a_tape_size])), (a_tape_items, .inl (cs 1, a_tape_items_n, .inl a_tape_items_f))]) hP hD hS hA [8, 9] (by decide) rfl
          refine va_calli (va_runV (As := [.int x1_3]) (rest := []) ⟨hx, hb, hml, hown, hg⟩ (c_Bytes_at l g cs ka a_tape a_tape_items H.size x1_3 a_tape_size a_tape_items_n a_tape_items_f r9 hc9) (cwV (C := R_Bytes) 1 hg (gw_V wd_455 wd_456 wd_457 wd_450 wd_454) rfl rfl rfl (by decide +kernel) ⟨Nat.le_of_ble_eq_true rfl, Nat.le_of_ble_eq_true rfl⟩) ⟨gP_blind, va_recv (q0 := 8) (ci := 0) (q := (R_Bytes, F_Bytes, 2)) hK hP rfl rfl, gP_pre hPc hDc hK hgl hkn hkr hS hFc⟩ rfl rfl hl.1 rfl (lv_room (Nat.le_of_ble_eq_true rfl)) d_Signs_takeQuoted_56 ⟨show cells3 + 0 + 0 + 0 + 0 ≤ mc from by omega, show slots3 + 0 + 0 + 0 + 0 ≤ ms from by omega⟩) hS (fun q _ h => hFc q h) hFc (fun r9' u t H locs ht hvm hr9 hB hz1 hk1 hS => ?_)
          subst hr9
          rw [ht] at hB
          obtain ⟨hP1, hD1⟩ := hB
          obtain ⟨hP, hD⟩ := jn_A hP hD [8, 9] [0, 1, 2, 3, 4, 5, 6, 7] rfl rfl (by decide) (by decide) hk1 hFc hP1 hD1
          obtain ⟨hP, hD⟩ : PD g A H [(a_names_texts_3, .inl (cs 1, a_names_texts_3n, .inl a_names_texts_3f)), (a_names_older, .inr (1, [.ref a_names_older_items, .int a_names_older_size])), (a_names_older_items, .inl (cs 0, a_names_older_items_n, .inl a_names_older_items_f)), (a_names_newest, .inl (cs 0, a_names_newest_n, .inl a_names_newest_f)), (a_names, .inr (2, [.ref a_names_texts_3, .int a_names_textsSize_3, .ref a_names_ends, .ref a_names_older, .ref a_names_newest, .int a_names_sizeBefore])), (a_names_ends, .inr (1, [.ref a_names_ends_items, .int a_names_ends_size])), (a_names_ends_items, .inl (cs 0, a_names_ends_items_n, .inl a_names_ends_items_f)), (a, .inr (6, [.ref a_tape, .ref a_names, .int a_kind_2, .int a_place, .int a_behind_2, .int a_passed, .int a_name, .long a_number])), (a_tape, .inr (0, [.ref a_tape_items, .int a_tape_size])), (a_tape_items, .inl (cs 1, a_tape_items_n, .inl a_tape_items_f))] := ⟨hP, hD⟩
          refine lv_bipush (v := 39) hx hb d_Signs_takeQuoted_59 (by decide) ?_
          refine lv_icmp_ne hx hb d_Signs_takeQuoted_61 rfl (fun h10 => ?_) (fun h10 => ?_)
          · rw [if_neg h10] at hok
            refine lv_aload_n hx hb d_Signs_takeQuoted_98 rfl (lv_at hl 1 rfl) ?_
            refine va_get (D := g) (ci := 6) (v := .ref a_names) (C := R_Signs) (T := F_Signs) (N := 8) hx hb hg ul_Signs hown hK hP 7 rfl rfl 1 (by decide) (hg _ wd_448) (fun _ h9 => h9) rfl d_Signs_takeQuoted_99 ?_
            refine lv_aload_n hx hb d_Signs_takeQuoted_102 rfl (lv_at hl 1 rfl) ?_
            refine va_get (D := g) (ci := 6) (v := .ref a_tape) (C := R_Signs) (T := F_Signs) (N := 8) hx hb hg ul_Signs hown hK hP 7 rfl rfl 0 (by decide) (hg _ wd_447) (fun _ h9 => h9) rfl d_Signs_takeQuoted_103 ?_
            refine lv_iload_n hx hb d_Signs_takeQuoted_106 rfl (lv_at hl 0 rfl) ?_
            obtain ⟨r11, hc11, hok⟩ := bd_some hok
            obtain ⟨hPc, hDc, hFc⟩ := cut0 (wc := [(a_tape, .inr (0, [.ref a_tape_items, .int a_tape_size])), (a_tape_items, .inl (cs 1, a_tape_items_n, .inl a_tape_items_f))]) hP hD hS hA [8, 9] (by decide) rfl
            refine va_calli (va_runV (As := [.int x1_3]) (rest := [.ref a_names]) ⟨hx, hb, hml, hown, hg⟩ (c_Bytes_at l g cs ka a_tape a_tape_items H.size x1_3 a_tape_size a_tape_items_n a_tape_items_f r11 hc11) (cwV (C := R_Bytes) 1 hg (gw_V wd_455 wd_456 wd_457 wd_450 wd_454) rfl rfl rfl (by decide +kernel) ⟨Nat.le_of_ble_eq_true rfl, Nat.le_of_ble_eq_true rfl⟩) ⟨gP_blind, va_recv (q0 := 8) (ci := 0) (q := (R_Bytes, F_Bytes, 2)) hK hP rfl rfl, gP_pre hPc hDc hK hgl hkn hkr hS hFc⟩ rfl rfl hl.1 rfl (lv_room (Nat.le_of_ble_eq_true rfl)) d_Signs_takeQuoted_107 ⟨show cells3 + 0 + 0 + 0 + 0 + 0 ≤ mc from by omega, show slots3 + 0 + 0 + 0 + 0 + 0 ≤ ms from by omega⟩) hS (fun q _ h => hFc q h) hFc (fun r11' u t H locs ht hvm hr11 hB hz1 hk1 hS => ?_)
            subst hr11
            rw [ht] at hB
            obtain ⟨hP1, hD1⟩ := hB
            obtain ⟨hP, hD⟩ := jn_A hP hD [8, 9] [0, 1, 2, 3, 4, 5, 6, 7] rfl rfl (by decide) (by decide) hk1 hFc hP1 hD1
            obtain ⟨hP, hD⟩ : PD g A H [(a_names_texts_3, .inl (cs 1, a_names_texts_3n, .inl a_names_texts_3f)), (a_names_older, .inr (1, [.ref a_names_older_items, .int a_names_older_size])), (a_names_older_items, .inl (cs 0, a_names_older_items_n, .inl a_names_older_items_f)), (a_names_newest, .inl (cs 0, a_names_newest_n, .inl a_names_newest_f)), (a_names, .inr (2, [.ref a_names_texts_3, .int a_names_textsSize_3, .ref a_names_ends, .ref a_names_older, .ref a_names_newest, .int a_names_sizeBefore])), (a_names_ends, .inr (1, [.ref a_names_ends_items, .int a_names_ends_size])), (a_names_ends_items, .inl (cs 0, a_names_ends_items_n, .inl a_names_ends_items_f)), (a, .inr (6, [.ref a_tape, .ref a_names, .int a_kind_2, .int a_place, .int a_behind_2, .int a_passed, .int a_name, .long a_number])), (a_tape, .inr (0, [.ref a_tape_items, .int a_tape_size])), (a_tape_items, .inl (cs 1, a_tape_items_n, .inl a_tape_items_f))] := ⟨hP, hD⟩
            obtain ⟨⟨⟨a_textsSize_12, a_texts_n_12, a_texts_f_12⟩, mk12, sk12⟩, hc12, hok⟩ := bd_some hok
            dsimp only at hok
            obtain ⟨m12, s12, hok, hmc12, hms12⟩ := al_some hok
            obtain ⟨hPc, hDc, hFc⟩ := cut0 (wc := [(a_names, .inr (2, [.ref a_names_texts_3, .int a_names_textsSize_3, .ref a_names_ends, .ref a_names_older, .ref a_names_newest, .int a_names_sizeBefore])), (a_names_texts_3, .inl (cs 1, a_names_texts_3n, .inl a_names_texts_3f))]) hP hD hS hA [4, 0] (by decide) rfl
            refine va_callv (va_runV (As := [.int r11]) (rest := []) ⟨hx, hb, hml, hown, hg⟩ (c_Names_addToText l g cs ka a_names_ends a_names_older a_names_newest a_names a_names_texts_3 H.size r11 a_names_textsSize_3 a_names_sizeBefore a_names_texts_3n a_names_texts_3f a_textsSize_12 a_texts_n_12 a_texts_f_12 mk12 sk12 hc12) (cwV (C := R_Names) 1 hg (gw_V wd_471 wd_431 wd_432 wd_287 wd_429) rfl rfl rfl (by decide +kernel) ⟨Nat.le_of_ble_eq_true rfl, Nat.le_of_ble_eq_true rfl⟩) ⟨gP_blind, va_recv (q0 := 4) (ci := 2) (q := (R_Names, F_Names, 6)) hK hP rfl rfl, gP_pre hPc hDc hK hgl hkn hkr hS hFc⟩ rfl rfl hl.1 rfl (lv_room (Nat.le_of_ble_eq_true rfl)) d_Signs_takeQuoted_110 ⟨show cells3 + 0 + 0 + 0 + 0 + 0 + mk12 ≤ mc from by omega, show slots3 + 0 + 0 + 0 + 0 + 0 + sk12 ≤ ms from by omega⟩) hS (fun q _ h => hFc q h) hFc (fun u t H locs ht hvm hr12 hB hz1 hk1 hS => ?_)
            rw [ht] at hB
            obtain ⟨a_texts_12, hP1, hD1⟩ := hB
            obtain ⟨hP, hD⟩ := jn_A hP hD [4, 0] [1, 2, 3, 5, 6, 7, 8, 9] rfl rfl (by decide) (by decide) hk1 hFc hP1 hD1
            obtain ⟨hP, hD⟩ : PD g A H [(a_names_older, .inr (1, [.ref a_names_older_items, .int a_names_older_size])), (a_names_older_items, .inl (cs 0, a_names_older_items_n, .inl a_names_older_items_f)), (a_names_newest, .inl (cs 0, a_names_newest_n, .inl a_names_newest_f)), (a_names_ends, .inr (1, [.ref a_names_ends_items, .int a_names_ends_size])), (a_names_ends_items, .inl (cs 0, a_names_ends_items_n, .inl a_names_ends_items_f)), (a, .inr (6, [.ref a_tape, .ref a_names, .int a_kind_2, .int a_place, .int a_behind_2, .int a_passed, .int a_name, .long a_number])), (a_tape, .inr (0, [.ref a_tape_items, .int a_tape_size])), (a_tape_items, .inl (cs 1, a_tape_items_n, .inl a_tape_items_f)), (a_names, .inr (2, [.ref a_texts_12, .int a_textsSize_12, .ref a_names_ends, .ref a_names_older, .ref a_names_newest, .int a_names_sizeBefore])), (a_texts_12, .inl (cs 1, a_texts_n_12, .inl a_texts_f_12))] := ⟨hP, hD⟩
            refine lv_iinc (k := 0) (v := x1_3 + 1) hx hb d_Signs_takeQuoted_113 hl rfl rfl (by decide) rfl (fun ls hl => ?_)
            have hl : lv_has ls 2 [(1, .int (x1_3 + 1)), (0, .ref a)] := hl
            refine lv_goto hx hb d_Signs_takeQuoted_116 rfl ?_
            exact ih3 _ _ _ _ _ _ _ a_texts_12 (x1_3 + 1) a_textsSize_12 a_texts_n_12 a_texts_f_12 (lv_sub hl [0, 1] rfl) (sub3 hP hD [6, 7, 9, 0, 1, 2, 8, 3, 4, 5] (by decide)) hS (by omega) (by omega) hok
          · rw [if_pos h10] at hok
            refine lv_iinc (k := 0) (v := x1_3 + 1) hx hb d_Signs_takeQuoted_64 hl rfl rfl (by decide) rfl (fun ls hl => ?_)
            have hl : lv_has ls 2 [(1, .int (x1_3 + 1)), (0, .ref a)] := hl
            refine lv_aload_n hx hb d_Signs_takeQuoted_67 rfl (lv_at hl 1 rfl) ?_
            refine va_get (D := g) (ci := 6) (v := .ref a_tape) (C := R_Signs) (T := F_Signs) (N := 8) hx hb hg ul_Signs hown hK hP 7 rfl rfl 0 (by decide) (hg _ wd_447) (fun _ h9 => h9) rfl d_Signs_takeQuoted_68 ?_
            refine lv_iload_n hx hb d_Signs_takeQuoted_71 rfl (lv_at hl 0 rfl) ?_
            obtain ⟨r13, hc13, hok⟩ := bd_some hok
            obtain ⟨hPc, hDc, hFc⟩ := cut0 (wc := [(a_tape, .inr (0, [.ref a_tape_items, .int a_tape_size])), (a_tape_items, .inl (cs 1, a_tape_items_n, .inl a_tape_items_f))]) hP hD hS hA [8, 9] (by decide) rfl
            refine va_calli (va_runV (As := [.int (x1_3 + 1)]) (rest := []) ⟨hx, hb, hml, hown, hg⟩ (c_Bytes_at l g cs ka a_tape a_tape_items H.size (x1_3 + 1) a_tape_size a_tape_items_n a_tape_items_f r13 hc13) (cwV (C := R_Bytes) 1 hg (gw_V wd_455 wd_456 wd_457 wd_450 wd_454) rfl rfl rfl (by decide +kernel) ⟨Nat.le_of_ble_eq_true rfl, Nat.le_of_ble_eq_true rfl⟩) ⟨gP_blind, va_recv (q0 := 8) (ci := 0) (q := (R_Bytes, F_Bytes, 2)) hK hP rfl rfl, gP_pre hPc hDc hK hgl hkn hkr hS hFc⟩ rfl rfl hl.1 rfl (lv_room (Nat.le_of_ble_eq_true rfl)) d_Signs_takeQuoted_72 ⟨show cells3 + 0 + 0 + 0 + 0 + 0 ≤ mc from by omega, show slots3 + 0 + 0 + 0 + 0 + 0 ≤ ms from by omega⟩) hS (fun q _ h => hFc q h) hFc (fun r13' u t H locs ht hvm hr13 hB hz1 hk1 hS => ?_)
            subst hr13
            rw [ht] at hB
            obtain ⟨hP1, hD1⟩ := hB
            obtain ⟨hP, hD⟩ := jn_A hP hD [8, 9] [0, 1, 2, 3, 4, 5, 6, 7] rfl rfl (by decide) (by decide) hk1 hFc hP1 hD1
            obtain ⟨hP, hD⟩ : PD g A H [(a_names_texts_3, .inl (cs 1, a_names_texts_3n, .inl a_names_texts_3f)), (a_names_older, .inr (1, [.ref a_names_older_items, .int a_names_older_size])), (a_names_older_items, .inl (cs 0, a_names_older_items_n, .inl a_names_older_items_f)), (a_names_newest, .inl (cs 0, a_names_newest_n, .inl a_names_newest_f)), (a_names, .inr (2, [.ref a_names_texts_3, .int a_names_textsSize_3, .ref a_names_ends, .ref a_names_older, .ref a_names_newest, .int a_names_sizeBefore])), (a_names_ends, .inr (1, [.ref a_names_ends_items, .int a_names_ends_size])), (a_names_ends_items, .inl (cs 0, a_names_ends_items_n, .inl a_names_ends_items_f)), (a, .inr (6, [.ref a_tape, .ref a_names, .int a_kind_2, .int a_place, .int a_behind_2, .int a_passed, .int a_name, .long a_number])), (a_tape, .inr (0, [.ref a_tape_items, .int a_tape_size])), (a_tape_items, .inl (cs 1, a_tape_items_n, .inl a_tape_items_f))] := ⟨hP, hD⟩
            refine lv_bipush (v := 39) hx hb d_Signs_takeQuoted_75 (by decide) ?_
            refine lv_icmp_eq hx hb d_Signs_takeQuoted_77 rfl (fun h14 => ?_) (fun h14 => ?_)
            · rw [if_pos h14] at hok
              refine lv_aload_n hx hb d_Signs_takeQuoted_98 rfl (lv_at hl 1 rfl) ?_
              refine va_get (D := g) (ci := 6) (v := .ref a_names) (C := R_Signs) (T := F_Signs) (N := 8) hx hb hg ul_Signs hown hK hP 7 rfl rfl 1 (by decide) (hg _ wd_448) (fun _ h9 => h9) rfl d_Signs_takeQuoted_99 ?_
              refine lv_aload_n hx hb d_Signs_takeQuoted_102 rfl (lv_at hl 1 rfl) ?_
              refine va_get (D := g) (ci := 6) (v := .ref a_tape) (C := R_Signs) (T := F_Signs) (N := 8) hx hb hg ul_Signs hown hK hP 7 rfl rfl 0 (by decide) (hg _ wd_447) (fun _ h9 => h9) rfl d_Signs_takeQuoted_103 ?_
              refine lv_iload_n hx hb d_Signs_takeQuoted_106 rfl (lv_at hl 0 rfl) ?_
              obtain ⟨r15, hc15, hok⟩ := bd_some hok
              obtain ⟨hPc, hDc, hFc⟩ := cut0 (wc := [(a_tape, .inr (0, [.ref a_tape_items, .int a_tape_size])), (a_tape_items, .inl (cs 1, a_tape_items_n, .inl a_tape_items_f))]) hP hD hS hA [8, 9] (by decide) rfl
              refine va_calli (va_runV (As := [.int (x1_3 + 1)]) (rest := [.ref a_names]) ⟨hx, hb, hml, hown, hg⟩ (c_Bytes_at l g cs ka a_tape a_tape_items H.size (x1_3 + 1) a_tape_size a_tape_items_n a_tape_items_f r15 hc15) (cwV (C := R_Bytes) 1 hg (gw_V wd_455 wd_456 wd_457 wd_450 wd_454) rfl rfl rfl (by decide +kernel) ⟨Nat.le_of_ble_eq_true rfl, Nat.le_of_ble_eq_true rfl⟩) ⟨gP_blind, va_recv (q0 := 8) (ci := 0) (q := (R_Bytes, F_Bytes, 2)) hK hP rfl rfl, gP_pre hPc hDc hK hgl hkn hkr hS hFc⟩ rfl rfl hl.1 rfl (lv_room (Nat.le_of_ble_eq_true rfl)) d_Signs_takeQuoted_107 ⟨show cells3 + 0 + 0 + 0 + 0 + 0 + 0 ≤ mc from by omega, show slots3 + 0 + 0 + 0 + 0 + 0 + 0 ≤ ms from by omega⟩) hS (fun q _ h => hFc q h) hFc (fun r15' u t H locs ht hvm hr15 hB hz1 hk1 hS => ?_)
              subst hr15
              rw [ht] at hB
              obtain ⟨hP1, hD1⟩ := hB
              obtain ⟨hP, hD⟩ := jn_A hP hD [8, 9] [0, 1, 2, 3, 4, 5, 6, 7] rfl rfl (by decide) (by decide) hk1 hFc hP1 hD1
              obtain ⟨hP, hD⟩ : PD g A H [(a_names_texts_3, .inl (cs 1, a_names_texts_3n, .inl a_names_texts_3f)), (a_names_older, .inr (1, [.ref a_names_older_items, .int a_names_older_size])), (a_names_older_items, .inl (cs 0, a_names_older_items_n, .inl a_names_older_items_f)), (a_names_newest, .inl (cs 0, a_names_newest_n, .inl a_names_newest_f)), (a_names, .inr (2, [.ref a_names_texts_3, .int a_names_textsSize_3, .ref a_names_ends, .ref a_names_older, .ref a_names_newest, .int a_names_sizeBefore])), (a_names_ends, .inr (1, [.ref a_names_ends_items, .int a_names_ends_size])), (a_names_ends_items, .inl (cs 0, a_names_ends_items_n, .inl a_names_ends_items_f)), (a, .inr (6, [.ref a_tape, .ref a_names, .int a_kind_2, .int a_place, .int a_behind_2, .int a_passed, .int a_name, .long a_number])), (a_tape, .inr (0, [.ref a_tape_items, .int a_tape_size])), (a_tape_items, .inl (cs 1, a_tape_items_n, .inl a_tape_items_f))] := ⟨hP, hD⟩
              obtain ⟨⟨⟨a_textsSize_16, a_texts_n_16, a_texts_f_16⟩, mk16, sk16⟩, hc16, hok⟩ := bd_some hok
              dsimp only at hok
              obtain ⟨m16, s16, hok, hmc16, hms16⟩ := al_some hok
              obtain ⟨hPc, hDc, hFc⟩ := cut0 (wc := [(a_names, .inr (2, [.ref a_names_texts_3, .int a_names_textsSize_3, .ref a_names_ends, .ref a_names_older, .ref a_names_newest, .int a_names_sizeBefore])), (a_names_texts_3, .inl (cs 1, a_names_texts_3n, .inl a_names_texts_3f))]) hP hD hS hA [4, 0] (by decide) rfl
              refine va_callv (va_runV (As := [.int r15]) (rest := []) ⟨hx, hb, hml, hown, hg⟩ (c_Names_addToText l g cs ka a_names_ends a_names_older a_names_newest a_names a_names_texts_3 H.size r15 a_names_textsSize_3 a_names_sizeBefore a_names_texts_3n a_names_texts_3f a_textsSize_16 a_texts_n_16 a_texts_f_16 mk16 sk16 hc16) (cwV (C := R_Names) 1 hg (gw_V wd_471 wd_431 wd_432 wd_287 wd_429) rfl rfl rfl (by decide +kernel) ⟨Nat.le_of_ble_eq_true rfl, Nat.le_of_ble_eq_true rfl⟩) ⟨gP_blind, va_recv (q0 := 4) (ci := 2) (q := (R_Names, F_Names, 6)) hK hP rfl rfl, gP_pre hPc hDc hK hgl hkn hkr hS hFc⟩ rfl rfl hl.1 rfl (lv_room (Nat.le_of_ble_eq_true rfl)) d_Signs_takeQuoted_110 ⟨show cells3 + 0 + 0 + 0 + 0 + 0 + 0 + mk16 ≤ mc from by omega, show slots3 + 0 + 0 + 0 + 0 + 0 + 0 + sk16 ≤ ms from by omega⟩) hS (fun q _ h => hFc q h) hFc (fun u t H locs ht hvm hr16 hB hz1 hk1 hS => ?_)
              rw [ht] at hB
              obtain ⟨a_texts_16, hP1, hD1⟩ := hB
              obtain ⟨hP, hD⟩ := jn_A hP hD [4, 0] [1, 2, 3, 5, 6, 7, 8, 9] rfl rfl (by decide) (by decide) hk1 hFc hP1 hD1
              obtain ⟨hP, hD⟩ : PD g A H [(a_names_older, .inr (1, [.ref a_names_older_items, .int a_names_older_size])), (a_names_older_items, .inl (cs 0, a_names_older_items_n, .inl a_names_older_items_f)), (a_names_newest, .inl (cs 0, a_names_newest_n, .inl a_names_newest_f)), (a_names_ends, .inr (1, [.ref a_names_ends_items, .int a_names_ends_size])), (a_names_ends_items, .inl (cs 0, a_names_ends_items_n, .inl a_names_ends_items_f)), (a, .inr (6, [.ref a_tape, .ref a_names, .int a_kind_2, .int a_place, .int a_behind_2, .int a_passed, .int a_name, .long a_number])), (a_tape, .inr (0, [.ref a_tape_items, .int a_tape_size])), (a_tape_items, .inl (cs 1, a_tape_items_n, .inl a_tape_items_f)), (a_names, .inr (2, [.ref a_texts_16, .int a_textsSize_16, .ref a_names_ends, .ref a_names_older, .ref a_names_newest, .int a_names_sizeBefore])), (a_texts_16, .inl (cs 1, a_texts_n_16, .inl a_texts_f_16))] := ⟨hP, hD⟩
              refine lv_iinc (k := 0) (v := (x1_3 + 1) + 1) hx hb d_Signs_takeQuoted_113 hl rfl rfl (by decide) rfl (fun ls hl => ?_)
              have hl : lv_has ls 2 [(1, .int ((x1_3 + 1) + 1)), (0, .ref a)] := hl
              refine lv_goto hx hb d_Signs_takeQuoted_116 rfl ?_
              exact ih3 _ _ _ _ _ _ _ a_texts_16 ((x1_3 + 1) + 1) a_textsSize_16 a_texts_n_16 a_texts_f_16 (lv_sub hl [0, 1] rfl) (sub3 hP hD [6, 7, 9, 0, 1, 2, 8, 3, 4, 5] (by decide)) hS (by omega) (by omega) hok
            · rw [if_neg h14] at hok
              refine lv_aload_n hx hb d_Signs_takeQuoted_80 rfl (lv_at hl 1 rfl) ?_
              refine lv_aload_n hx hb d_Signs_takeQuoted_81 rfl (lv_at hl 1 rfl) ?_
              refine va_get (D := g) (ci := 6) (v := .ref a_names) (C := R_Signs) (T := F_Signs) (N := 8) hx hb hg ul_Signs hown hK hP 7 rfl rfl 1 (by decide) (hg _ wd_448) (fun _ h9 => h9) rfl d_Signs_takeQuoted_82 ?_
              obtain ⟨⟨⟨r17, a_ends_size_17, a_ends_items_n_17, a_ends_items_f_17, a_older_size_17, a_older_items_n_17, a_older_items_f_17, a_newest_f_17⟩, mk17, sk17⟩, hc17, hok⟩ := bd_some hok
              dsimp only at hok
              obtain ⟨m17, s17, hok, hmc17, hms17⟩ := al_some hok
              obtain ⟨hPc, hDc, hFc⟩ := cut0 (wc := [(a_names, .inr (2, [.ref a_names_texts_3, .int a_names_textsSize_3, .ref a_names_ends, .ref a_names_older, .ref a_names_newest, .int a_names_sizeBefore])), (a_names_texts_3, .inl (cs 1, a_names_texts_3n, .inl a_names_texts_3f)), (a_names_ends, .inr (1, [.ref a_names_ends_items, .int a_names_ends_size])), (a_names_ends_items, .inl (cs 0, a_names_ends_items_n, .inl a_names_ends_items_f)), (a_names_older, .inr (1, [.ref a_names_older_items, .int a_names_older_size])), (a_names_older_items, .inl (cs 0, a_names_older_items_n, .inl a_names_older_items_f)), (a_names_newest, .inl (cs 0, a_names_newest_n, .inl a_names_newest_f))]) hP hD hS hA [4, 0, 5, 6, 1, 2, 3] (by decide) rfl
              refine va_calli (va_runV (As := []) (rest := [.ref a]) ⟨hx, hb, hml, hown, hg⟩ (c_Names_numberOfText l g cs ka a_names a_names_texts_3 a_names_ends a_names_ends_items a_names_older a_names_older_items a_names_newest H.size n a_names_textsSize_3 a_names_sizeBefore a_names_texts_3n a_names_texts_3f a_names_ends_size a_names_ends_items_n a_names_ends_items_f a_names_older_size a_names_older_items_n a_names_older_items_f a_names_newest_n a_names_newest_f r17 a_ends_size_17 a_ends_items_n_17 a_ends_items_f_17 a_older_size_17 a_older_items_n_17 a_older_items_f_17 a_newest_f_17 mk17 sk17 hc17) (cwV (C := R_Names) 0 hg (gw_V wd_465 wd_423 wd_424 wd_287 wd_421) rfl rfl rfl (by decide +kernel) ⟨Nat.le_of_ble_eq_true rfl, Nat.le_of_ble_eq_true rfl⟩) ⟨gP_blind, va_recv (q0 := 4) (ci := 2) (q := (R_Names, F_Names, 6)) hK hP rfl rfl, gP_pre hPc hDc hK hgl hkn hkr hS hFc⟩ rfl rfl hl.1 rfl (lv_room (Nat.le_of_ble_eq_true rfl)) d_Signs_takeQuoted_85 ⟨show cells3 + 0 + 0 + 0 + 0 + 0 + mk17 ≤ mc from by omega, show slots3 + 0 + 0 + 0 + 0 + 0 + sk17 ≤ ms from by omega⟩) hS (fun q _ h => hFc q h) hFc (fun r17' u t H locs ht hvm hr17 hB hz1 hk1 hS => ?_)
              subst hr17
              rw [ht] at hB
              obtain ⟨a_ends_items_17, a_older_items_17, hP1, hD1⟩ := hB
              obtain ⟨hP, hD⟩ := jn_A hP hD [4, 0, 5, 6, 1, 2, 3] [7, 8, 9] rfl rfl (by decide) (by decide) hk1 hFc hP1 hD1
              obtain ⟨hP, hD⟩ : PD g A H [(a, .inr (6, [.ref a_tape, .ref a_names, .int a_kind_2, .int a_place, .int a_behind_2, .int a_passed, .int a_name, .long a_number])), (a_tape, .inr (0, [.ref a_tape_items, .int a_tape_size])), (a_tape_items, .inl (cs 1, a_tape_items_n, .inl a_tape_items_f)), (a_names, .inr (2, [.ref a_names_texts_3, .int a_names_textsSize_3, .ref a_names_ends, .ref a_names_older, .ref a_names_newest, .int a_names_sizeBefore])), (a_names_texts_3, .inl (cs 1, a_names_texts_3n, .inl a_names_texts_3f)), (a_names_ends, .inr (1, [.ref a_ends_items_17, .int a_ends_size_17])), (a_ends_items_17, .inl (cs 0, a_ends_items_n_17, .inl a_ends_items_f_17)), (a_names_older, .inr (1, [.ref a_older_items_17, .int a_older_size_17])), (a_older_items_17, .inl (cs 0, a_older_items_n_17, .inl a_older_items_f_17)), (a_names_newest, .inl (cs 0, a_names_newest_n, .inl a_newest_f_17))] := ⟨hP, hD⟩
              refine va_put (D := g) (ci := 6) (v := .int r17) (ty := .int) (C := R_Signs) (T := F_Signs) (N := 8) hx hb hg ul_Signs t_Signs tk_Signs n_Signs hown hK hP hD hS 0 rfl rfl 6 (by decide) (hg _ wd_445) (fun _ h9 => h9) rfl (by decide +kernel) rfl rfl (Nat.le_of_ble_eq_true rfl) d_Signs_takeQuoted_88 (fun H locs hP hD hS => ?_)
              obtain ⟨hP, hD⟩ : PD g A H [(a, .inr (6, [.ref a_tape, .ref a_names, .int a_kind_2, .int a_place, .int a_behind_2, .int a_passed, .int r17, .long a_number])), (a_tape, .inr (0, [.ref a_tape_items, .int a_tape_size])), (a_tape_items, .inl (cs 1, a_tape_items_n, .inl a_tape_items_f)), (a_names, .inr (2, [.ref a_names_texts_3, .int a_names_textsSize_3, .ref a_names_ends, .ref a_names_older, .ref a_names_newest, .int a_names_sizeBefore])), (a_names_texts_3, .inl (cs 1, a_names_texts_3n, .inl a_names_texts_3f)), (a_names_ends, .inr (1, [.ref a_ends_items_17, .int a_ends_size_17])), (a_ends_items_17, .inl (cs 0, a_ends_items_n_17, .inl a_ends_items_f_17)), (a_names_older, .inr (1, [.ref a_older_items_17, .int a_older_size_17])), (a_older_items_17, .inl (cs 0, a_older_items_n_17, .inl a_older_items_f_17)), (a_names_newest, .inl (cs 0, a_names_newest_n, .inl a_newest_f_17))] := ⟨hP, hD⟩
              refine lv_aload_n hx hb d_Signs_takeQuoted_91 rfl (lv_at hl 1 rfl) ?_
              refine lv_iconst (v := 3) hx hb d_Signs_takeQuoted_92 (by decide) ?_
              refine lv_iload_n hx hb d_Signs_takeQuoted_93 rfl (lv_at hl 0 rfl) ?_
              obtain ⟨⟨a_kind_18, a_behind_18⟩, hc18, hok⟩ := bd_some hok
              dsimp only at hok
              obtain ⟨hPc, hDc, hFc⟩ := cut0 (wc := [(a, .inr (6, [.ref a_tape, .ref a_names, .int a_kind_2, .int a_place, .int a_behind_2, .int a_passed, .int r17, .long a_number]))]) hP hD hS hA [0] (by decide) rfl
              refine va_callv (va_runV (As := [.int 3, .int (x1_3 + 1)]) (rest := []) ⟨hx, hb, hml, hown, hg⟩ (c_Signs_takeTo l g cs ka a_tape a_names a H.size (3 : Int32) (x1_3 + 1) a_kind_2 a_place a_behind_2 a_passed r17 a_number a_kind_18 a_behind_18 hc18) (cwV (C := R_Signs) 2 hg (gw_V wd_468 wd_469 wd_470 wd_467 wd_466) rfl rfl rfl (by decide +kernel) ⟨Nat.le_of_ble_eq_true rfl, Nat.le_of_ble_eq_true rfl⟩) ⟨gP_blind, va_recv (q0 := 0) (ci := 6) (q := (R_Signs, F_Signs, 8)) hK hP rfl rfl, gP_pre hPc hDc hK hgl hkn hkr hS hFc⟩ rfl rfl hl.1 rfl (lv_room (Nat.le_of_ble_eq_true rfl)) d_Signs_takeQuoted_94 ⟨show cells3 + 0 + 0 + 0 + 0 + 0 + mk17 + 0 ≤ mc from by omega, show slots3 + 0 + 0 + 0 + 0 + 0 + sk17 + 0 ≤ ms from by omega⟩) hS (fun q _ h => hFc q h) hFc (fun u t H locs ht hvm hr18 hB hz1 hk1 hS => ?_)
              rw [ht] at hB
              obtain ⟨hP1, hD1⟩ := hB
              obtain ⟨hP, hD⟩ := jn_A hP hD [0] [1, 2, 3, 4, 5, 6, 7, 8, 9] rfl rfl (by decide) (by decide) hk1 hFc hP1 hD1
              obtain ⟨hP, hD⟩ : PD g A H [(a_tape, .inr (0, [.ref a_tape_items, .int a_tape_size])), (a_tape_items, .inl (cs 1, a_tape_items_n, .inl a_tape_items_f)), (a_names, .inr (2, [.ref a_names_texts_3, .int a_names_textsSize_3, .ref a_names_ends, .ref a_names_older, .ref a_names_newest, .int a_names_sizeBefore])), (a_names_texts_3, .inl (cs 1, a_names_texts_3n, .inl a_names_texts_3f)), (a_names_ends, .inr (1, [.ref a_ends_items_17, .int a_ends_size_17])), (a_ends_items_17, .inl (cs 0, a_ends_items_n_17, .inl a_ends_items_f_17)), (a_names_older, .inr (1, [.ref a_older_items_17, .int a_older_size_17])), (a_older_items_17, .inl (cs 0, a_older_items_n_17, .inl a_older_items_f_17)), (a_names_newest, .inl (cs 0, a_names_newest_n, .inl a_newest_f_17)), (a, .inr (6, [.ref a_tape, .ref a_names, .int a_kind_18, .int a_place, .int a_behind_18, .int a_passed, .int r17, .long a_number]))] := ⟨hP, hD⟩
              obtain ⟨hq, hw⟩ := Prod.mk.inj (Option.some.inj hok)
              obtain ⟨hmc0, hms0⟩ := Prod.mk.inj hw
              obtain ⟨hq0, hq⟩ := Prod.mk.inj hq
              obtain ⟨hq1, hq⟩ := Prod.mk.inj hq
              obtain ⟨hq2, hq⟩ := Prod.mk.inj hq
              obtain ⟨hq3, hq⟩ := Prod.mk.inj hq
              obtain ⟨hq4, hq⟩ := Prod.mk.inj hq
              obtain ⟨hq5, hq⟩ := Prod.mk.inj hq
              obtain ⟨hq6, hq⟩ := Prod.mk.inj hq
              obtain ⟨hq7, hq⟩ := Prod.mk.inj hq
              obtain ⟨hq8, hq⟩ := Prod.mk.inj hq
              obtain ⟨hq9, hq⟩ := Prod.mk.inj hq
              obtain ⟨hq10, hq⟩ := Prod.mk.inj hq
              obtain ⟨hq11, hq⟩ := Prod.mk.inj hq
              have hq12 := hq
              subst hq0
              subst hq1
              subst hq2
              subst hq3
              subst hq4
              subst hq5
              subst hq6
              subst hq7
              subst hq8
              subst hq9
              subst hq10
              subst hq11
              subst hq12
              obtain ⟨hP9, hD9⟩ := sub2 (ws' := [(a, .inr (6, [.ref a_tape, .ref a_names, .int a_kind_18, .int a_place, .int a_behind_18, .int a_passed, .int r17, .long a_number])), (a_tape, .inr (0, [.ref a_tape_items, .int a_tape_size])), (a_tape_items, .inl (cs 1, a_tape_items_n, .inl a_tape_items_f)), (a_names, .inr (2, [.ref a_names_texts_3, .int a_names_textsSize_3, .ref a_names_ends, .ref a_names_older, .ref a_names_newest, .int a_names_sizeBefore])), (a_names_texts_3, .inl (cs 1, a_names_texts_3n, .inl a_names_texts_3f)), (a_names_ends, .inr (1, [.ref a_ends_items_17, .int a_ends_size_17])), (a_ends_items_17, .inl (cs 0, a_ends_items_n_17, .inl a_ends_items_f_17)), (a_names_older, .inr (1, [.ref a_older_items_17, .int a_older_size_17])), (a_older_items_17, .inl (cs 0, a_older_items_n_17, .inl a_older_items_f_17)), (a_names_newest, .inl (cs 0, a_names_newest_n, .inl a_newest_f_17))]) hP hD [9, 0, 1, 2, 3, 4, 5, 6, 7, 8] rfl (by decide) rfl
              refine W.widen (k := mc) (n := ms) (by omega) (by omega) ?_
              rw [hQ]
              exact W.vret hx hb hr (fun t ht hW => ⟨⟨(), rfl, trivial, a_names_texts_3, a_ends_items_17, a_older_items_17, by rw [ht]; exact hP9, hD9⟩, hS.F ht⟩) hS.2.2 d_Signs_takeQuoted_97
  exact J3 n H locs ls _ _ _ _ a_names_texts (a_place + 1) a_textsSize_1 a_names_texts_n a_names_texts_f hl ⟨hP, hD⟩ hS (by omega) (by omega) hok

theorem d_Signs_look_0 : decode b_Signs_look 0 = .ok (.aload_n 0, 1) := by decide +kernel
theorem d_Signs_look_1 : decode b_Signs_look 1 = .ok (.getfield 19, 3) := by decide +kernel
theorem d_Signs_look_4 : decode b_Signs_look 4 = .ok (.ifCond .ne 4, 3) := by decide +kernel
theorem d_Signs_look_7 : decode b_Signs_look 7 = .ok (.return_, 1) := by decide +kernel
theorem d_Signs_look_8 : decode b_Signs_look 8 = .ok (.aload_n 0, 1) := by decide +kernel
theorem d_Signs_look_9 : decode b_Signs_look 9 = .ok (.iconst 0, 1) := by decide +kernel
theorem d_Signs_look_10 : decode b_Signs_look 10 = .ok (.putfield 19, 3) := by decide +kernel
theorem d_Signs_look_13 : decode b_Signs_look 13 = .ok (.aload_n 0, 1) := by decide +kernel
theorem d_Signs_look_14 : decode b_Signs_look 14 = .ok (.aload_n 0, 1) := by decide +kernel
theorem d_Signs_look_15 : decode b_Signs_look 15 = .ok (.aload_n 0, 1) := by decide +kernel
theorem d_Signs_look_16 : decode b_Signs_look 16 = .ok (.getfield 16, 3) := by decide +kernel
theorem d_Signs_look_19 : decode b_Signs_look 19 = .ok (.invokevirtual 38, 3) := by decide +kernel
theorem d_Signs_look_22 : decode b_Signs_look 22 = .ok (.putfield 13, 3) := by decide +kernel
theorem d_Signs_look_25 : decode b_Signs_look 25 = .ok (.aload_n 0, 1) := by decide +kernel
theorem d_Signs_look_26 : decode b_Signs_look 26 = .ok (.getfield 30, 3) := by decide +kernel
theorem d_Signs_look_29 : decode b_Signs_look 29 = .ok (.aload_n 0, 1) := by decide +kernel
theorem d_Signs_look_30 : decode b_Signs_look 30 = .ok (.getfield 13, 3) := by decide +kernel
theorem d_Signs_look_33 : decode b_Signs_look 33 = .ok (.invokevirtual 42, 3) := by decide +kernel
theorem d_Signs_look_36 : decode b_Signs_look 36 = .ok (.istore_n 1, 1) := by decide +kernel
theorem d_Signs_look_37 : decode b_Signs_look 37 = .ok (.aload_n 0, 1) := by decide +kernel
theorem d_Signs_look_38 : decode b_Signs_look 38 = .ok (.getfield 13, 3) := by decide +kernel
theorem d_Signs_look_41 : decode b_Signs_look 41 = .ok (.aload_n 0, 1) := by decide +kernel
theorem d_Signs_look_42 : decode b_Signs_look 42 = .ok (.getfield 30, 3) := by decide +kernel
theorem d_Signs_look_45 : decode b_Signs_look 45 = .ok (.invokevirtual 47, 3) := by decide +kernel
theorem d_Signs_look_48 : decode b_Signs_look 48 = .ok (.if_icmp .lt 15, 3) := by decide +kernel
theorem d_Signs_look_51 : decode b_Signs_look 51 = .ok (.aload_n 0, 1) := by decide +kernel
theorem d_Signs_look_52 : decode b_Signs_look 52 = .ok (.iconst 5, 1) := by decide +kernel
theorem d_Signs_look_53 : decode b_Signs_look 53 = .ok (.aload_n 0, 1) := by decide +kernel
theorem d_Signs_look_54 : decode b_Signs_look 54 = .ok (.getfield 13, 3) := by decide +kernel
theorem d_Signs_look_57 : decode b_Signs_look 57 = .ok (.invokevirtual 51, 3) := by decide +kernel
theorem d_Signs_look_60 : decode b_Signs_look 60 = .ok (.goto 161, 3) := by decide +kernel
theorem d_Signs_look_63 : decode b_Signs_look 63 = .ok (.iload_n 1, 1) := by decide +kernel
theorem d_Signs_look_64 : decode b_Signs_look 64 = .ok (.invokestatic 55, 3) := by decide +kernel
theorem d_Signs_look_67 : decode b_Signs_look 67 = .ok (.ifCond .eq 10, 3) := by decide +kernel
theorem d_Signs_look_70 : decode b_Signs_look 70 = .ok (.aload_n 0, 1) := by decide +kernel
theorem d_Signs_look_71 : decode b_Signs_look 71 = .ok (.invokevirtual 61, 3) := by decide +kernel
theorem d_Signs_look_74 : decode b_Signs_look 74 = .ok (.goto 147, 3) := by decide +kernel
theorem d_Signs_look_77 : decode b_Signs_look 77 = .ok (.iload_n 1, 1) := by decide +kernel
theorem d_Signs_look_78 : decode b_Signs_look 78 = .ok (.invokestatic 64, 3) := by decide +kernel
theorem d_Signs_look_81 : decode b_Signs_look 81 = .ok (.ifCond .eq 14, 3) := by decide +kernel
theorem d_Signs_look_84 : decode b_Signs_look 84 = .ok (.aload_n 0, 1) := by decide +kernel
theorem d_Signs_look_85 : decode b_Signs_look 85 = .ok (.aload_n 0, 1) := by decide +kernel
theorem d_Signs_look_86 : decode b_Signs_look 86 = .ok (.invokevirtual 67, 3) := by decide +kernel
theorem d_Signs_look_89 : decode b_Signs_look 89 = .ok (.invokevirtual 70, 3) := by decide +kernel
theorem d_Signs_look_92 : decode b_Signs_look 92 = .ok (.goto 129, 3) := by decide +kernel
theorem d_Signs_look_95 : decode b_Signs_look 95 = .ok (.iload_n 1, 1) := by decide +kernel
theorem d_Signs_look_96 : decode b_Signs_look 96 = .ok (.invokestatic 74, 3) := by decide +kernel
theorem d_Signs_look_99 : decode b_Signs_look 99 = .ok (.ifCond .eq 10, 3) := by decide +kernel
theorem d_Signs_look_102 : decode b_Signs_look 102 = .ok (.aload_n 0, 1) := by decide +kernel
theorem d_Signs_look_103 : decode b_Signs_look 103 = .ok (.invokevirtual 77, 3) := by decide +kernel
theorem d_Signs_look_106 : decode b_Signs_look 106 = .ok (.goto 115, 3) := by decide +kernel
theorem d_Signs_look_109 : decode b_Signs_look 109 = .ok (.iload_n 1, 1) := by decide +kernel
theorem d_Signs_look_110 : decode b_Signs_look 110 = .ok (.bipush 39, 2) := by decide +kernel
theorem d_Signs_look_112 : decode b_Signs_look 112 = .ok (.if_icmp .ne 10, 3) := by decide +kernel
theorem d_Signs_look_115 : decode b_Signs_look 115 = .ok (.aload_n 0, 1) := by decide +kernel
theorem d_Signs_look_116 : decode b_Signs_look 116 = .ok (.invokevirtual 80, 3) := by decide +kernel
theorem d_Signs_look_119 : decode b_Signs_look 119 = .ok (.goto 102, 3) := by decide +kernel
theorem d_Signs_look_122 : decode b_Signs_look 122 = .ok (.iload_n 1, 1) := by decide +kernel
theorem d_Signs_look_123 : decode b_Signs_look 123 = .ok (.invokestatic 83, 3) := by decide +kernel
theorem d_Signs_look_126 : decode b_Signs_look 126 = .ok (.ifCond .eq 10, 3) := by decide +kernel
theorem d_Signs_look_129 : decode b_Signs_look 129 = .ok (.aload_n 0, 1) := by decide +kernel
theorem d_Signs_look_130 : decode b_Signs_look 130 = .ok (.invokevirtual 86, 3) := by decide +kernel
theorem d_Signs_look_133 : decode b_Signs_look 133 = .ok (.goto 88, 3) := by decide +kernel
theorem d_Signs_look_136 : decode b_Signs_look 136 = .ok (.iload_n 1, 1) := by decide +kernel
theorem d_Signs_look_137 : decode b_Signs_look 137 = .ok (.bipush 33, 2) := by decide +kernel
theorem d_Signs_look_139 : decode b_Signs_look 139 = .ok (.if_icmp .eq 9, 3) := by decide +kernel
theorem d_Signs_look_142 : decode b_Signs_look 142 = .ok (.iload_n 1, 1) := by decide +kernel
theorem d_Signs_look_143 : decode b_Signs_look 143 = .ok (.bipush 59, 2) := by decide +kernel
theorem d_Signs_look_145 : decode b_Signs_look 145 = .ok (.if_icmp .ne 16, 3) := by decide +kernel
theorem d_Signs_look_148 : decode b_Signs_look 148 = .ok (.aload_n 0, 1) := by decide +kernel
theorem d_Signs_look_149 : decode b_Signs_look 149 = .ok (.aload_n 0, 1) := by decide +kernel
theorem d_Signs_look_150 : decode b_Signs_look 150 = .ok (.getfield 13, 3) := by decide +kernel
theorem d_Signs_look_153 : decode b_Signs_look 153 = .ok (.iconst 1, 1) := by decide +kernel
theorem d_Signs_look_154 : decode b_Signs_look 154 = .ok (.iadd, 1) := by decide +kernel
theorem d_Signs_look_155 : decode b_Signs_look 155 = .ok (.invokevirtual 70, 3) := by decide +kernel
theorem d_Signs_look_158 : decode b_Signs_look 158 = .ok (.goto 63, 3) := by decide +kernel
theorem d_Signs_look_161 : decode b_Signs_look 161 = .ok (.iload_n 1, 1) := by decide +kernel
theorem d_Signs_look_162 : decode b_Signs_look 162 = .ok (.bipush 91, 2) := by decide +kernel
theorem d_Signs_look_164 : decode b_Signs_look 164 = .ok (.if_icmp .ne 34, 3) := by decide +kernel
theorem d_Signs_look_167 : decode b_Signs_look 167 = .ok (.aload_n 0, 1) := by decide +kernel
theorem d_Signs_look_168 : decode b_Signs_look 168 = .ok (.getfield 30, 3) := by decide +kernel
theorem d_Signs_look_171 : decode b_Signs_look 171 = .ok (.aload_n 0, 1) := by decide +kernel
theorem d_Signs_look_172 : decode b_Signs_look 172 = .ok (.getfield 13, 3) := by decide +kernel
theorem d_Signs_look_175 : decode b_Signs_look 175 = .ok (.iconst 1, 1) := by decide +kernel
theorem d_Signs_look_176 : decode b_Signs_look 176 = .ok (.iadd, 1) := by decide +kernel
theorem d_Signs_look_177 : decode b_Signs_look 177 = .ok (.invokevirtual 42, 3) := by decide +kernel
theorem d_Signs_look_180 : decode b_Signs_look 180 = .ok (.bipush 93, 2) := by decide +kernel
theorem d_Signs_look_182 : decode b_Signs_look 182 = .ok (.if_icmp .ne 16, 3) := by decide +kernel
theorem d_Signs_look_185 : decode b_Signs_look 185 = .ok (.aload_n 0, 1) := by decide +kernel
theorem d_Signs_look_186 : decode b_Signs_look 186 = .ok (.aload_n 0, 1) := by decide +kernel
theorem d_Signs_look_187 : decode b_Signs_look 187 = .ok (.getfield 13, 3) := by decide +kernel
theorem d_Signs_look_190 : decode b_Signs_look 190 = .ok (.iconst 2, 1) := by decide +kernel
theorem d_Signs_look_191 : decode b_Signs_look 191 = .ok (.iadd, 1) := by decide +kernel
theorem d_Signs_look_192 : decode b_Signs_look 192 = .ok (.invokevirtual 70, 3) := by decide +kernel
theorem d_Signs_look_195 : decode b_Signs_look 195 = .ok (.goto 26, 3) := by decide +kernel
theorem d_Signs_look_198 : decode b_Signs_look 198 = .ok (.aload_n 0, 1) := by decide +kernel
theorem d_Signs_look_199 : decode b_Signs_look 199 = .ok (.iload_n 1, 1) := by decide +kernel
theorem d_Signs_look_200 : decode b_Signs_look 200 = .ok (.invokestatic 89, 3) := by decide +kernel
theorem d_Signs_look_203 : decode b_Signs_look 203 = .ok (.ifCond .eq 7, 3) := by decide +kernel
theorem d_Signs_look_206 : decode b_Signs_look 206 = .ok (.iload_n 1, 1) := by decide +kernel
theorem d_Signs_look_207 : decode b_Signs_look 207 = .ok (.goto 5, 3) := by decide +kernel
theorem d_Signs_look_210 : decode b_Signs_look 210 = .ok (.bipush 6, 2) := by decide +kernel
theorem d_Signs_look_212 : decode b_Signs_look 212 = .ok (.aload_n 0, 1) := by decide +kernel
theorem d_Signs_look_213 : decode b_Signs_look 213 = .ok (.getfield 13, 3) := by decide +kernel
theorem d_Signs_look_216 : decode b_Signs_look 216 = .ok (.iconst 1, 1) := by decide +kernel
theorem d_Signs_look_217 : decode b_Signs_look 217 = .ok (.iadd, 1) := by decide +kernel
theorem d_Signs_look_218 : decode b_Signs_look 218 = .ok (.invokevirtual 51, 3) := by decide +kernel
theorem d_Signs_look_221 : decode b_Signs_look 221 = .ok (.return_, 1) := by decide +kernel
def p_Signs_look (n : Nat) (a_kind : Int32) (a_place : Int32) (a_behind : Int32) (a_passed : Int32) (a_name : Int32) (a_number : Int64) (a_tape_size : Int32) (a_tape_items_n : Nat) (a_tape_items_f : Nat → Int32) (a_names_textsSize : Int32) (a_names_sizeBefore : Int32) (a_names_texts_n : Nat) (a_names_texts_f : Nat → Int32) (a_names_ends_size : Int32) (a_names_ends_items_n : Nat) (a_names_ends_items_f : Nat → Int32) (a_names_older_size : Int32) (a_names_older_items_n : Nat) (a_names_older_items_f : Nat → Int32) (a_names_newest_n : Nat) (a_names_newest_f : Nat → Int32) : Option ((Int32 × Int32 × Int32 × Int32 × Int32 × Int64 × Int32 × Nat × (Nat → Int32) × Int32 × Nat × (Nat → Int32) × Int32 × Nat × (Nat → Int32) × (Nat → Int32)) × Nat × Nat) := if a_passed = 0 then (some ((a_kind, a_place, a_behind, a_passed, a_name, a_number, a_names_textsSize, a_names_texts_n, a_names_texts_f, a_names_ends_size, a_names_ends_items_n, a_names_ends_items_f, a_names_older_size, a_names_older_items_n, a_names_older_items_f, a_names_newest_f), 0, 0)) else ((p_Signs_firstNotBlank n a_behind a_kind a_place a_behind (0 : Int32) a_name a_number a_tape_size a_tape_items_n a_tape_items_f).bind (fun r2 => (p_Bytes_at r2 a_tape_size a_tape_items_n a_tape_items_f).bind (fun r3 => (p_Bytes_size a_tape_size).bind (fun r4 => if r2 < r4 then ((p_Letters_beginsVariable r3).bind (fun r6 => if r6 = 0 then ((p_Letters_isSmall r3).bind (fun r8 => if r8 = 0 then ((p_Letters_isDigit r3).bind (fun r10 => if r10 = 0 then (if r3 = 39 then ((p_Signs_takeQuoted n a_kind r2 a_behind (0 : Int32) a_name a_number a_tape_size a_tape_items_n a_tape_items_f a_names_textsSize a_names_sizeBefore a_names_texts_n a_names_texts_f a_names_ends_size a_names_ends_items_n a_names_ends_items_f a_names_older_size a_names_older_items_n a_names_older_items_f a_names_newest_n a_names_newest_f).bind (fun ((a_kind_32, a_behind_32, a_name_32, a_names_textsSize_32, a_names_texts_n_32, a_names_texts_f_32, a_names_ends_size_32, a_names_ends_items_n_32, a_names_ends_items_f_32, a_names_older_size_32, a_names_older_items_n_32, a_names_older_items_f_32, a_names_newest_f_32), mk32, sk32) => al mk32 sk32 (some ((a_kind_32, r2, a_behind_32, (0 : Int32), a_name_32, a_number, a_names_textsSize_32, a_names_texts_n_32, a_names_texts_f_32, a_names_ends_size_32, a_names_ends_items_n_32, a_names_ends_items_f_32, a_names_older_size_32, a_names_older_items_n_32, a_names_older_items_f_32, a_names_newest_f_32), 0, 0)))) else ((p_Letters_isSymbol n r3).bind (fun r13 => if r13 = 0 then (if r3 = 33 then ((p_Signs_takeName n (r2 + 1) a_kind r2 a_behind (0 : Int32) a_name a_number a_tape_size a_tape_items_n a_tape_items_f a_names_textsSize a_names_sizeBefore a_names_texts_n a_names_texts_f a_names_ends_size a_names_ends_items_n a_names_ends_items_f a_names_older_size a_names_older_items_n a_names_older_items_f a_names_newest_n a_names_newest_f).bind (fun ((a_kind_16, a_behind_16, a_name_16, a_names_textsSize_16, a_names_texts_n_16, a_names_texts_f_16, a_names_ends_size_16, a_names_ends_items_n_16, a_names_ends_items_f_16, a_names_older_size_16, a_names_older_items_n_16, a_names_older_items_f_16, a_names_newest_f_16), mk16, sk16) => al mk16 sk16 (some ((a_kind_16, r2, a_behind_16, (0 : Int32), a_name_16, a_number, a_names_textsSize_16, a_names_texts_n_16, a_names_texts_f_16, a_names_ends_size_16, a_names_ends_items_n_16, a_names_ends_items_f_16, a_names_older_size_16, a_names_older_items_n_16, a_names_older_items_f_16, a_names_newest_f_16), 0, 0)))) else (if r3 = 59 then ((p_Signs_takeName n (r2 + 1) a_kind r2 a_behind (0 : Int32) a_name a_number a_tape_size a_tape_items_n a_tape_items_f a_names_textsSize a_names_sizeBefore a_names_texts_n a_names_texts_f a_names_ends_size a_names_ends_items_n a_names_ends_items_f a_names_older_size a_names_older_items_n a_names_older_items_f a_names_newest_n a_names_newest_f).bind (fun ((a_kind_30, a_behind_30, a_name_30, a_names_textsSize_30, a_names_texts_n_30, a_names_texts_f_30, a_names_ends_size_30, a_names_ends_items_n_30, a_names_ends_items_f_30, a_names_older_size_30, a_names_older_items_n_30, a_names_older_items_f_30, a_names_newest_f_30), mk30, sk30) => al mk30 sk30 (some ((a_kind_30, r2, a_behind_30, (0 : Int32), a_name_30, a_number, a_names_textsSize_30, a_names_texts_n_30, a_names_texts_f_30, a_names_ends_size_30, a_names_ends_items_n_30, a_names_ends_items_f_30, a_names_older_size_30, a_names_older_items_n_30, a_names_older_items_f_30, a_names_newest_f_30), 0, 0)))) else (if r3 = 91 then ((p_Bytes_at (r2 + 1) a_tape_size a_tape_items_n a_tape_items_f).bind (fun r23 => if r23 = 93 then ((p_Signs_takeName n (r2 + 2) a_kind r2 a_behind (0 : Int32) a_name a_number a_tape_size a_tape_items_n a_tape_items_f a_names_textsSize a_names_sizeBefore a_names_texts_n a_names_texts_f a_names_ends_size a_names_ends_items_n a_names_ends_items_f a_names_older_size a_names_older_items_n a_names_older_items_f a_names_newest_n a_names_newest_f).bind (fun ((a_kind_29, a_behind_29, a_name_29, a_names_textsSize_29, a_names_texts_n_29, a_names_texts_f_29, a_names_ends_size_29, a_names_ends_items_n_29, a_names_ends_items_f_29, a_names_older_size_29, a_names_older_items_n_29, a_names_older_items_f_29, a_names_newest_f_29), mk29, sk29) => al mk29 sk29 (some ((a_kind_29, r2, a_behind_29, (0 : Int32), a_name_29, a_number, a_names_textsSize_29, a_names_texts_n_29, a_names_texts_f_29, a_names_ends_size_29, a_names_ends_items_n_29, a_names_ends_items_f_29, a_names_older_size_29, a_names_older_items_n_29, a_names_older_items_f_29, a_names_newest_f_29), 0, 0)))) else ((p_Letters_isMark n r3).bind (fun r25 => if r25 = 0 then ((p_Signs_takeTo (6 : Int32) (r2 + 1) a_kind r2 a_behind (0 : Int32) a_name a_number).bind (fun (a_kind_27, a_behind_27) => some ((a_kind_27, r2, a_behind_27, (0 : Int32), a_name, a_number, a_names_textsSize, a_names_texts_n, a_names_texts_f, a_names_ends_size, a_names_ends_items_n, a_names_ends_items_f, a_names_older_size, a_names_older_items_n, a_names_older_items_f, a_names_newest_f), 0, 0))) else ((p_Signs_takeTo r3 (r2 + 1) a_kind r2 a_behind (0 : Int32) a_name a_number).bind (fun (a_kind_28, a_behind_28) => some ((a_kind_28, r2, a_behind_28, (0 : Int32), a_name, a_number, a_names_textsSize, a_names_texts_n, a_names_texts_f, a_names_ends_size, a_names_ends_items_n, a_names_ends_items_f, a_names_older_size, a_names_older_items_n, a_names_older_items_f, a_names_newest_f), 0, 0))))))) else ((p_Letters_isMark n r3).bind (fun r19 => if r19 = 0 then ((p_Signs_takeTo (6 : Int32) (r2 + 1) a_kind r2 a_behind (0 : Int32) a_name a_number).bind (fun (a_kind_21, a_behind_21) => some ((a_kind_21, r2, a_behind_21, (0 : Int32), a_name, a_number, a_names_textsSize, a_names_texts_n, a_names_texts_f, a_names_ends_size, a_names_ends_items_n, a_names_ends_items_f, a_names_older_size, a_names_older_items_n, a_names_older_items_f, a_names_newest_f), 0, 0))) else ((p_Signs_takeTo r3 (r2 + 1) a_kind r2 a_behind (0 : Int32) a_name a_number).bind (fun (a_kind_22, a_behind_22) => some ((a_kind_22, r2, a_behind_22, (0 : Int32), a_name, a_number, a_names_textsSize, a_names_texts_n, a_names_texts_f, a_names_ends_size, a_names_ends_items_n, a_names_ends_items_f, a_names_older_size, a_names_older_items_n, a_names_older_items_f, a_names_newest_f), 0, 0)))))))) else ((p_Signs_takeSymbols n a_kind r2 a_behind (0 : Int32) a_name a_number a_tape_size a_tape_items_n a_tape_items_f a_names_textsSize a_names_sizeBefore a_names_texts_n a_names_texts_f a_names_ends_size a_names_ends_items_n a_names_ends_items_f a_names_older_size a_names_older_items_n a_names_older_items_f a_names_newest_n a_names_newest_f).bind (fun ((a_kind_31, a_behind_31, a_name_31, a_names_textsSize_31, a_names_texts_n_31, a_names_texts_f_31, a_names_ends_size_31, a_names_ends_items_n_31, a_names_ends_items_f_31, a_names_older_size_31, a_names_older_items_n_31, a_names_older_items_f_31, a_names_newest_f_31), mk31, sk31) => al mk31 sk31 (some ((a_kind_31, r2, a_behind_31, (0 : Int32), a_name_31, a_number, a_names_textsSize_31, a_names_texts_n_31, a_names_texts_f_31, a_names_ends_size_31, a_names_ends_items_n_31, a_names_ends_items_f_31, a_names_older_size_31, a_names_older_items_n_31, a_names_older_items_f_31, a_names_newest_f_31), 0, 0))))))) else ((p_Signs_takeInteger n a_kind r2 a_behind (0 : Int32) a_name a_number a_tape_size a_tape_items_n a_tape_items_f).bind (fun (a_kind_33, a_behind_33, a_number_33) => some ((a_kind_33, r2, a_behind_33, (0 : Int32), a_name, a_number_33, a_names_textsSize, a_names_texts_n, a_names_texts_f, a_names_ends_size, a_names_ends_items_n, a_names_ends_items_f, a_names_older_size, a_names_older_items_n, a_names_older_items_f, a_names_newest_f), 0, 0))))) else ((p_Signs_wordEnd n a_kind r2 a_behind (0 : Int32) a_name a_number a_tape_size a_tape_items_n a_tape_items_f).bind (fun r34 => (p_Signs_takeName n r34 a_kind r2 a_behind (0 : Int32) a_name a_number a_tape_size a_tape_items_n a_tape_items_f a_names_textsSize a_names_sizeBefore a_names_texts_n a_names_texts_f a_names_ends_size a_names_ends_items_n a_names_ends_items_f a_names_older_size a_names_older_items_n a_names_older_items_f a_names_newest_n a_names_newest_f).bind (fun ((a_kind_35, a_behind_35, a_name_35, a_names_textsSize_35, a_names_texts_n_35, a_names_texts_f_35, a_names_ends_size_35, a_names_ends_items_n_35, a_names_ends_items_f_35, a_names_older_size_35, a_names_older_items_n_35, a_names_older_items_f_35, a_names_newest_f_35), mk35, sk35) => al mk35 sk35 (some ((a_kind_35, r2, a_behind_35, (0 : Int32), a_name_35, a_number, a_names_textsSize_35, a_names_texts_n_35, a_names_texts_f_35, a_names_ends_size_35, a_names_ends_items_n_35, a_names_ends_items_f_35, a_names_older_size_35, a_names_older_items_n_35, a_names_older_items_f_35, a_names_newest_f_35), 0, 0))))))) else ((p_Signs_takeVariable n a_kind r2 a_behind (0 : Int32) a_name a_number a_tape_size a_tape_items_n a_tape_items_f a_names_textsSize a_names_sizeBefore a_names_texts_n a_names_texts_f a_names_ends_size a_names_ends_items_n a_names_ends_items_f a_names_older_size a_names_older_items_n a_names_older_items_f a_names_newest_n a_names_newest_f).bind (fun ((a_kind_36, a_behind_36, a_name_36, a_names_textsSize_36, a_names_texts_n_36, a_names_texts_f_36, a_names_ends_size_36, a_names_ends_items_n_36, a_names_ends_items_f_36, a_names_older_size_36, a_names_older_items_n_36, a_names_older_items_f_36, a_names_newest_f_36), mk36, sk36) => al mk36 sk36 (some ((a_kind_36, r2, a_behind_36, (0 : Int32), a_name_36, a_number, a_names_textsSize_36, a_names_texts_n_36, a_names_texts_f_36, a_names_ends_size_36, a_names_ends_items_n_36, a_names_ends_items_f_36, a_names_older_size_36, a_names_older_items_n_36, a_names_older_items_f_36, a_names_newest_f_36), 0, 0)))))) else ((p_Signs_takeTo (5 : Int32) r2 a_kind r2 a_behind (0 : Int32) a_name a_number).bind (fun (a_kind_37, a_behind_37) => some ((a_kind_37, r2, a_behind_37, (0 : Int32), a_name, a_number, a_names_textsSize, a_names_texts_n, a_names_texts_f, a_names_ends_size, a_names_ends_items_n, a_names_ends_items_f, a_names_older_size, a_names_older_items_n, a_names_older_items_f, a_names_newest_f), 0, 0)))))))
set_option maxHeartbeats 4000000 in
set_option maxRecDepth 100000 in
theorem c_Signs_look (l : Launch) (g : va_G) (cs : Nat → ClassId) (ka : Nat → Nat) (a a_tape a_tape_items a_names a_names_texts a_names_ends a_names_ends_items a_names_older a_names_older_items a_names_newest : Nat) (sz : Nat) (n : Nat) (a_kind : Int32) (a_place : Int32) (a_behind : Int32) (a_passed : Int32) (a_name : Int32) (a_number : Int64) (a_tape_size : Int32) (a_tape_items_n : Nat) (a_tape_items_f : Nat → Int32) (a_names_textsSize : Int32) (a_names_sizeBefore : Int32) (a_names_texts_n : Nat) (a_names_texts_f : Nat → Int32) (a_names_ends_size : Int32) (a_names_ends_items_n : Nat) (a_names_ends_items_f : Nat → Int32) (a_names_older_size : Int32) (a_names_older_items_n : Nat) (a_names_older_items_f : Nat → Int32) (a_names_newest_n : Nat) (a_names_newest_f : Nat → Int32) (o_a_kind : Int32) (o_a_place : Int32) (o_a_behind : Int32) (o_a_passed : Int32) (o_a_name : Int32) (o_a_number : Int64) (o_a_names_textsSize : Int32) (o_a_names_texts_n : Nat) (o_a_names_texts_f : Nat → Int32) (o_a_names_ends_size : Int32) (o_a_names_ends_items_n : Nat) (o_a_names_ends_items_f : Nat → Int32) (o_a_names_older_size : Int32) (o_a_names_older_items_n : Nat) (o_a_names_older_items_f : Nat → Int32) (o_a_names_newest_f : Nat → Int32) (mc ms : Nat) (hok : p_Signs_look n a_kind a_place a_behind a_passed a_name a_number a_tape_size a_tape_items_n a_tape_items_f a_names_textsSize a_names_sizeBefore a_names_texts_n a_names_texts_f a_names_ends_size a_names_ends_items_n a_names_ends_items_f a_names_older_size a_names_older_items_n a_names_older_items_f a_names_newest_n a_names_newest_f = some ((o_a_kind, o_a_place, o_a_behind, o_a_passed, o_a_name, o_a_number, o_a_names_textsSize, o_a_names_texts_n, o_a_names_texts_f, o_a_names_ends_size, o_a_names_ends_items_n, o_a_names_ends_items_f, o_a_names_older_size, o_a_names_older_items_n, o_a_names_older_items_f, o_a_names_newest_f), mc, ms)) : Met l y_Signs_look (.code y_Signs_look b_Signs_look 2 none :: GW) { frames := 6, cells := mc, slots := ms, locals := 210 } (va_Pc [.ref a] (gP g cs ka [(a, .inr (6, [.ref a_tape, .ref a_names, .int a_kind, .int a_place, .int a_behind, .int a_passed, .int a_name, .long a_number])), (a_tape, .inr (0, [.ref a_tape_items, .int a_tape_size])), (a_tape_items, .inl (cs 1, a_tape_items_n, .inl a_tape_items_f)), (a_names, .inr (2, [.ref a_names_texts, .int a_names_textsSize, .ref a_names_ends, .ref a_names_older, .ref a_names_newest, .int a_names_sizeBefore])), (a_names_texts, .inl (cs 1, a_names_texts_n, .inl a_names_texts_f)), (a_names_ends, .inr (1, [.ref a_names_ends_items, .int a_names_ends_size])), (a_names_ends_items, .inl (cs 0, a_names_ends_items_n, .inl a_names_ends_items_f)), (a_names_older, .inr (1, [.ref a_names_older_items, .int a_names_older_size])), (a_names_older_items, .inl (cs 0, a_names_older_items_n, .inl a_names_older_items_f)), (a_names_newest, .inl (cs 0, a_names_newest_n, .inl a_names_newest_f))] sz)) (va_Qv (fun _ : Unit => True) (fun _ t => ∃ b_a_names_texts b_a_names_ends_items b_a_names_older_items : Nat, va_P g classes [(a, .inr (6, [.ref a_tape, .ref a_names, .int o_a_kind, .int o_a_place, .int o_a_behind, .int o_a_passed, .int o_a_name, .long o_a_number])), (a_tape, .inr (0, [.ref a_tape_items, .int a_tape_size])), (a_tape_items, .inl (cs 1, a_tape_items_n, .inl a_tape_items_f)), (a_names, .inr (2, [.ref b_a_names_texts, .int o_a_names_textsSize, .ref a_names_ends, .ref a_names_older, .ref a_names_newest, .int a_names_sizeBefore])), (b_a_names_texts, .inl (cs 1, o_a_names_texts_n, .inl o_a_names_texts_f)), (a_names_ends, .inr (1, [.ref b_a_names_ends_items, .int o_a_names_ends_size])), (b_a_names_ends_items, .inl (cs 0, o_a_names_ends_items_n, .inl o_a_names_ends_items_f)), (a_names_older, .inr (1, [.ref b_a_names_older_items, .int o_a_names_older_size])), (b_a_names_older_items, .inl (cs 0, o_a_names_older_items_n, .inl o_a_names_older_items_f)), (a_names_newest, .inl (cs 0, a_names_newest_n, .inl o_a_names_newest_f))] t.heap ∧ va_D (va_A [(a, .inr (6, [.ref a_tape, .ref a_names, .int a_kind, .int a_place, .int a_behind, .int a_passed, .int a_name, .long a_number])), (a_tape, .inr (0, [.ref a_tape_items, .int a_tape_size])), (a_tape_items, .inl (cs 1, a_tape_items_n, .inl a_tape_items_f)), (a_names, .inr (2, [.ref a_names_texts, .int a_names_textsSize, .ref a_names_ends, .ref a_names_older, .ref a_names_newest, .int a_names_sizeBefore])), (a_names_texts, .inl (cs 1, a_names_texts_n, .inl a_names_texts_f)), (a_names_ends, .inr (1, [.ref a_names_ends_items, .int a_names_ends_size])), (a_names_ends_items, .inl (cs 0, a_names_ends_items_n, .inl a_names_ends_items_f)), (a_names_older, .inr (1, [.ref a_names_older_items, .int a_names_older_size])), (a_names_older_items, .inl (cs 0, a_names_older_items_n, .inl a_names_older_items_f)), (a_names_newest, .inl (cs 0, a_names_newest_n, .inl a_names_newest_f))] sz) [(a, .inr (6, [.ref a_tape, .ref a_names, .int o_a_kind, .int o_a_place, .int o_a_behind, .int o_a_passed, .int o_a_name, .long o_a_number])), (a_tape, .inr (0, [.ref a_tape_items, .int a_tape_size])), (a_tape_items, .inl (cs 1, a_tape_items_n, .inl a_tape_items_f)), (a_names, .inr (2, [.ref b_a_names_texts, .int o_a_names_textsSize, .ref a_names_ends, .ref a_names_older, .ref a_names_newest, .int a_names_sizeBefore])), (b_a_names_texts, .inl (cs 1, o_a_names_texts_n, .inl o_a_names_texts_f)), (a_names_ends, .inr (1, [.ref b_a_names_ends_items, .int o_a_names_ends_size])), (b_a_names_ends_items, .inl (cs 0, o_a_names_ends_items_n, .inl o_a_names_ends_items_f)), (a_names_older, .inr (1, [.ref b_a_names_older_items, .int o_a_names_older_size])), (b_a_names_older_items, .inl (cs 0, o_a_names_older_items_n, .inl o_a_names_older_items_f)), (a_names_newest, .inl (cs 0, a_names_newest_n, .inl o_a_names_newest_f))]) (va_A [(a, .inr (6, [.ref a_tape, .ref a_names, .int a_kind, .int a_place, .int a_behind, .int a_passed, .int a_name, .long a_number])), (a_tape, .inr (0, [.ref a_tape_items, .int a_tape_size])), (a_tape_items, .inl (cs 1, a_tape_items_n, .inl a_tape_items_f)), (a_names, .inr (2, [.ref a_names_texts, .int a_names_textsSize, .ref a_names_ends, .ref a_names_older, .ref a_names_newest, .int a_names_sizeBefore])), (a_names_texts, .inl (cs 1, a_names_texts_n, .inl a_names_texts_f)), (a_names_ends, .inr (1, [.ref a_names_ends_items, .int a_names_ends_size])), (a_names_ends_items, .inl (cs 0, a_names_ends_items_n, .inl a_names_ends_items_f)), (a_names_older, .inr (1, [.ref a_names_older_items, .int a_names_older_size])), (a_names_older_items, .inl (cs 0, a_names_older_items_n, .inl a_names_older_items_f)), (a_names_newest, .inl (cs 0, a_names_newest_n, .inl a_names_newest_f))] sz)) mc ms (va_A [(a, .inr (6, [.ref a_tape, .ref a_names, .int a_kind, .int a_place, .int a_behind, .int a_passed, .int a_name, .long a_number])), (a_tape, .inr (0, [.ref a_tape_items, .int a_tape_size])), (a_tape_items, .inl (cs 1, a_tape_items_n, .inl a_tape_items_f)), (a_names, .inr (2, [.ref a_names_texts, .int a_names_textsSize, .ref a_names_ends, .ref a_names_older, .ref a_names_newest, .int a_names_sizeBefore])), (a_names_texts, .inl (cs 1, a_names_texts_n, .inl a_names_texts_f)), (a_names_ends, .inr (1, [.ref a_names_ends_items, .int a_names_ends_size])), (a_names_ends_items, .inl (cs 0, a_names_ends_items_n, .inl a_names_ends_items_f)), (a_names_older, .inr (1, [.ref a_names_older_items, .int a_names_older_size])), (a_names_older_items, .inl (cs 0, a_names_older_items_n, .inl a_names_older_items_f)), (a_names_newest, .inl (cs 0, a_names_newest_n, .inl a_names_newest_f))] sz) := by
  refine Met.ofW (cc := b_Signs_look) (maxL := 2) (ret := none) (by decide) rfl ?_
  intro p e s m args below meth c s₁ B hml hv
  obtain ⟨rfl, hsz, hP, hK, hD0, hgl, hkn, hkr⟩ := hv
  have hx := B.exec
  have hb := B.bytes
  have hr := B.returns
  have hg : ∀ w ∈ GW, w.before ([.ref a] : List Value).toArray s = true := fun w hw => atoms_spec (ws := .code y_Signs_look b_Signs_look 2 none :: GW) B.pre w (List.mem_cons_of_mem _ hw)
  have hown : s.vm.findClass R_Signs = some m.cls := findClass_of_methodNamed B.named
  have hlocks := B.notSynchronized
  subst hsz
  have hD := hD0.self (sz := s.heap.size)
  generalize hAe : va_A [(a, .inr (6, [.ref a_tape, .ref a_names, .int a_kind, .int a_place, .int a_behind, .int a_passed, .int a_name, .long a_number])), (a_tape, .inr (0, [.ref a_tape_items, .int a_tape_size])), (a_tape_items, .inl (cs 1, a_tape_items_n, .inl a_tape_items_f)), (a_names, .inr (2, [.ref a_names_texts, .int a_names_textsSize, .ref a_names_ends, .ref a_names_older, .ref a_names_newest, .int a_names_sizeBefore])), (a_names_texts, .inl (cs 1, a_names_texts_n, .inl a_names_texts_f)), (a_names_ends, .inr (1, [.ref a_names_ends_items, .int a_names_ends_size])), (a_names_ends_items, .inl (cs 0, a_names_ends_items_n, .inl a_names_ends_items_f)), (a_names_older, .inr (1, [.ref a_names_older_items, .int a_names_older_size])), (a_names_older_items, .inl (cs 0, a_names_older_items_n, .inl a_names_older_items_f)), (a_names_newest, .inl (cs 0, a_names_newest_n, .inl a_names_newest_f))] s.heap.size = A at hD hkn ⊢
  have hA : ∀ q : Nat, s.heap.size ≤ q → A q := fun q h => by rw [← hAe]; exact Or.inr h
  have hS : va_S A s.heap s.heap [] := va_S.rf
  have hP : va_P g classes [(a, .inr (6, [.ref a_tape, .ref a_names, .int a_kind, .int a_place, .int a_behind, .int a_passed, .int a_name, .long a_number])), (a_tape, .inr (0, [.ref a_tape_items, .int a_tape_size])), (a_tape_items, .inl (cs 1, a_tape_items_n, .inl a_tape_items_f)), (a_names, .inr (2, [.ref a_names_texts, .int a_names_textsSize, .ref a_names_ends, .ref a_names_older, .ref a_names_newest, .int a_names_sizeBefore])), (a_names_texts, .inl (cs 1, a_names_texts_n, .inl a_names_texts_f)), (a_names_ends, .inr (1, [.ref a_names_ends_items, .int a_names_ends_size])), (a_names_ends_items, .inl (cs 0, a_names_ends_items_n, .inl a_names_ends_items_f)), (a_names_older, .inr (1, [.ref a_names_older_items, .int a_names_older_size])), (a_names_older_items, .inl (cs 0, a_names_older_items_n, .inl a_names_older_items_f)), (a_names_newest, .inl (cs 0, a_names_newest_n, .inl a_names_newest_f))] s.heap := hP
  have hl := lv_entry ([.ref a]) (n := 2) (Nat.le_of_ble_eq_true rfl)
  rw [lg_entry_eq]
  generalize (lg_sl ([.ref a]) ++ List.replicate (2 - (lg_sl ([.ref a])).length) Slot.unset).toArray = ls at hl ⊢
  have hl : lv_has ls 2 [(0, .ref a)] := hl
  refine gq (fun Q hQ => ?_)
  obtain ⟨H, hH⟩ : ∃ H : Heap, H = s.heap := ⟨_, rfl⟩
  rw [← hH] at hP
  have hS : va_S A s.heap H [] := by rw [hH]; exact hS
  refine W.eqH hH ?_
  obtain ⟨locs, hlc⟩ : ∃ L : List Loc, L = [] := ⟨_, rfl⟩
  rw [← hlc] at hS ⊢
  unfold p_Signs_look at hok
  refine lv_aload_n hx hb d_Signs_look_0 rfl (lv_at hl 0 rfl) ?_
  refine va_get (D := g) (ci := 6) (v := .int a_passed) (C := R_Signs) (T := F_Signs) (N := 8) hx hb hg ul_Signs hown hK hP 0 rfl rfl 5 (by decide) (hg _ wd_444) (fun _ h9 => h9) rfl d_Signs_look_1 ?_
  refine lv_if_ne hx hb d_Signs_look_4 rfl (fun h1 => ?_) (fun h1 => ?_)
  · rw [if_neg h1] at hok
    refine lv_aload_n hx hb d_Signs_look_8 rfl (lv_at hl 0 rfl) ?_
    refine lv_iconst (v := 0) hx hb d_Signs_look_9 (by decide) ?_
    refine va_put (D := g) (ci := 6) (v := .int 0) (ty := .boolean) (C := R_Signs) (T := F_Signs) (N := 8) hx hb hg ul_Signs t_Signs tk_Signs n_Signs hown hK hP hD hS 0 rfl rfl 5 (by decide) (hg _ wd_444) (fun _ h9 => h9) rfl (by decide +kernel) rfl rfl (Nat.le_of_ble_eq_true rfl) d_Signs_look_10 (fun H locs hP hD hS => ?_)
    obtain ⟨hP, hD⟩ : PD g A H [(a, .inr (6, [.ref a_tape, .ref a_names, .int a_kind, .int a_place, .int a_behind, .int 0, .int a_name, .long a_number])), (a_tape, .inr (0, [.ref a_tape_items, .int a_tape_size])), (a_tape_items, .inl (cs 1, a_tape_items_n, .inl a_tape_items_f)), (a_names, .inr (2, [.ref a_names_texts, .int a_names_textsSize, .ref a_names_ends, .ref a_names_older, .ref a_names_newest, .int a_names_sizeBefore])), (a_names_texts, .inl (cs 1, a_names_texts_n, .inl a_names_texts_f)), (a_names_ends, .inr (1, [.ref a_names_ends_items, .int a_names_ends_size])), (a_names_ends_items, .inl (cs 0, a_names_ends_items_n, .inl a_names_ends_items_f)), (a_names_older, .inr (1, [.ref a_names_older_items, .int a_names_older_size])), (a_names_older_items, .inl (cs 0, a_names_older_items_n, .inl a_names_older_items_f)), (a_names_newest, .inl (cs 0, a_names_newest_n, .inl a_names_newest_f))] := ⟨hP, hD⟩
    refine lv_aload_n hx hb d_Signs_look_13 rfl (lv_at hl 0 rfl) ?_
    refine lv_aload_n hx hb d_Signs_look_14 rfl (lv_at hl 0 rfl) ?_
    refine lv_aload_n hx hb d_Signs_look_15 rfl (lv_at hl 0 rfl) ?_
    refine va_get (D := g) (ci := 6) (v := .int a_behind) (C := R_Signs) (T := F_Signs) (N := 8) hx hb hg ul_Signs hown hK hP 0 rfl rfl 4 (by decide) (hg _ wd_443) (fun _ h9 => h9) rfl d_Signs_look_16 ?_
    obtain ⟨r2, hc2, hok⟩ := bd_some hok
    obtain ⟨hPc, hDc, hFc⟩ := cut0 (wc := [(a, .inr (6, [.ref a_tape, .ref a_names, .int a_kind, .int a_place, .int a_behind, .int 0, .int a_name, .long a_number])), (a_tape, .inr (0, [.ref a_tape_items, .int a_tape_size])), (a_tape_items, .inl (cs 1, a_tape_items_n, .inl a_tape_items_f))]) hP hD hS hA [0, 1, 2] (by decide) rfl
    refine va_calli (va_runV (As := [.int a_behind]) (rest := [.ref a]) ⟨hx, hb, hml, hown, hg⟩ (c_Signs_firstNotBlank l g cs ka a_names a a_tape a_tape_items H.size n a_behind a_kind a_place a_behind (0 : Int32) a_name a_number a_tape_size a_tape_items_n a_tape_items_f r2 hc2) (cwV (C := R_Signs) 1 hg (gw_V wd_499 wd_500 wd_501 wd_467 wd_498) rfl rfl rfl (by decide +kernel) ⟨Nat.le_of_ble_eq_true rfl, Nat.le_of_ble_eq_true rfl⟩) ⟨gP_blind, va_recv (q0 := 0) (ci := 6) (q := (R_Signs, F_Signs, 8)) hK hP rfl rfl, gP_pre hPc hDc hK hgl hkn hkr hS hFc⟩ rfl rfl hl.1 rfl (lv_room (Nat.le_of_ble_eq_true rfl)) d_Signs_look_19 ⟨show 0 + 0 ≤ mc from by omega, show 0 + 0 ≤ ms from by omega⟩) hS (fun q _ h => hFc q h) hFc (fun r2' u t H locs ht hvm hr2 hB hz1 hk1 hS => ?_)
    subst hr2
    rw [ht] at hB
    obtain ⟨hP1, hD1⟩ := hB
    obtain ⟨hP, hD⟩ := jn_A hP hD [0, 1, 2] [3, 4, 5, 6, 7, 8, 9] rfl rfl (by decide) (by decide) hk1 hFc hP1 hD1
    obtain ⟨hP, hD⟩ : PD g A H [(a_names, .inr (2, [.ref a_names_texts, .int a_names_textsSize, .ref a_names_ends, .ref a_names_older, .ref a_names_newest, .int a_names_sizeBefore])), (a_names_texts, .inl (cs 1, a_names_texts_n, .inl a_names_texts_f)), (a_names_ends, .inr (1, [.ref a_names_ends_items, .int a_names_ends_size])), (a_names_ends_items, .inl (cs 0, a_names_ends_items_n, .inl a_names_ends_items_f)), (a_names_older, .inr (1, [.ref a_names_older_items, .int a_names_older_size])), (a_names_older_items, .inl (cs 0, a_names_older_items_n, .inl a_names_older_items_f)), (a_names_newest, .inl (cs 0, a_names_newest_n, .inl a_names_newest_f)), (a, .inr (6, [.ref a_tape, .ref a_names, .int a_kind, .int a_place, .int a_behind, .int 0, .int a_name, .long a_number])), (a_tape, .inr (0, [.ref a_tape_items, .int a_tape_size])), (a_tape_items, .inl (cs 1, a_tape_items_n, .inl a_tape_items_f))] := ⟨hP, hD⟩
    refine va_put (D := g) (ci := 6) (v := .int r2) (ty := .int) (C := R_Signs) (T := F_Signs) (N := 8) hx hb hg ul_Signs t_Signs tk_Signs n_Signs hown hK hP hD hS 7 rfl rfl 3 (by decide) (hg _ wd_442) (fun _ h9 => h9) rfl (by decide +kernel) rfl rfl (Nat.le_of_ble_eq_true rfl) d_Signs_look_22 (fun H locs hP hD hS => ?_)
    obtain ⟨hP, hD⟩ : PD g A H [(a_names, .inr (2, [.ref a_names_texts, .int a_names_textsSize, .ref a_names_ends, .ref a_names_older, .ref a_names_newest, .int a_names_sizeBefore])), (a_names_texts, .inl (cs 1, a_names_texts_n, .inl a_names_texts_f)), (a_names_ends, .inr (1, [.ref a_names_ends_items, .int a_names_ends_size])), (a_names_ends_items, .inl (cs 0, a_names_ends_items_n, .inl a_names_ends_items_f)), (a_names_older, .inr (1, [.ref a_names_older_items, .int a_names_older_size])), (a_names_older_items, .inl (cs 0, a_names_older_items_n, .inl a_names_older_items_f)), (a_names_newest, .inl (cs 0, a_names_newest_n, .inl a_names_newest_f)), (a, .inr (6, [.ref a_tape, .ref a_names, .int a_kind, .int r2, .int a_behind, .int 0, .int a_name, .long a_number])), (a_tape, .inr (0, [.ref a_tape_items, .int a_tape_size])), (a_tape_items, .inl (cs 1, a_tape_items_n, .inl a_tape_items_f))] := ⟨hP, hD⟩
    refine lv_aload_n hx hb d_Signs_look_25 rfl (lv_at hl 0 rfl) ?_
    refine va_get (D := g) (ci := 6) (v := .ref a_tape) (C := R_Signs) (T := F_Signs) (N := 8) hx hb hg ul_Signs hown hK hP 7 rfl rfl 0 (by decide) (hg _ wd_447) (fun _ h9 => h9) rfl d_Signs_look_26 ?_
    refine lv_aload_n hx hb d_Signs_look_29 rfl (lv_at hl 0 rfl) ?_
    refine va_get (D := g) (ci := 6) (v := .int r2) (C := R_Signs) (T := F_Signs) (N := 8) hx hb hg ul_Signs hown hK hP 7 rfl rfl 3 (by decide) (hg _ wd_442) (fun _ h9 => h9) rfl d_Signs_look_30 ?_
    obtain ⟨r3, hc3, hok⟩ := bd_some hok
    obtain ⟨hPc, hDc, hFc⟩ := cut0 (wc := [(a_tape, .inr (0, [.ref a_tape_items, .int a_tape_size])), (a_tape_items, .inl (cs 1, a_tape_items_n, .inl a_tape_items_f))]) hP hD hS hA [8, 9] (by decide) rfl
    refine va_calli (va_runV (As := [.int r2]) (rest := []) ⟨hx, hb, hml, hown, hg⟩ (c_Bytes_at l g cs ka a_tape a_tape_items H.size r2 a_tape_size a_tape_items_n a_tape_items_f r3 hc3) (cwV (C := R_Bytes) 1 hg (gw_V wd_455 wd_456 wd_457 wd_450 wd_454) rfl rfl rfl (by decide +kernel) ⟨Nat.le_of_ble_eq_true rfl, Nat.le_of_ble_eq_true rfl⟩) ⟨gP_blind, va_recv (q0 := 8) (ci := 0) (q := (R_Bytes, F_Bytes, 2)) hK hP rfl rfl, gP_pre hPc hDc hK hgl hkn hkr hS hFc⟩ rfl rfl hl.1 rfl (lv_room (Nat.le_of_ble_eq_true rfl)) d_Signs_look_33 ⟨show 0 + 0 + 0 ≤ mc from by omega, show 0 + 0 + 0 ≤ ms from by omega⟩) hS (fun q _ h => hFc q h) hFc (fun r3' u t H locs ht hvm hr3 hB hz1 hk1 hS => ?_)
    subst hr3
    rw [ht] at hB
    obtain ⟨hP1, hD1⟩ := hB
    obtain ⟨hP, hD⟩ := jn_A hP hD [8, 9] [0, 1, 2, 3, 4, 5, 6, 7] rfl rfl (by decide) (by decide) hk1 hFc hP1 hD1
    obtain ⟨hP, hD⟩ : PD g A H [(a_names, .inr (2, [.ref a_names_texts, .int a_names_textsSize, .ref a_names_ends, .ref a_names_older, .ref a_names_newest, .int a_names_sizeBefore])), (a_names_texts, .inl (cs 1, a_names_texts_n, .inl a_names_texts_f)), (a_names_ends, .inr (1, [.ref a_names_ends_items, .int a_names_ends_size])), (a_names_ends_items, .inl (cs 0, a_names_ends_items_n, .inl a_names_ends_items_f)), (a_names_older, .inr (1, [.ref a_names_older_items, .int a_names_older_size])), (a_names_older_items, .inl (cs 0, a_names_older_items_n, .inl a_names_older_items_f)), (a_names_newest, .inl (cs 0, a_names_newest_n, .inl a_names_newest_f)), (a, .inr (6, [.ref a_tape, .ref a_names, .int a_kind, .int r2, .int a_behind, .int 0, .int a_name, .long a_number])), (a_tape, .inr (0, [.ref a_tape_items, .int a_tape_size])), (a_tape_items, .inl (cs 1, a_tape_items_n, .inl a_tape_items_f))] := ⟨hP, hD⟩
    refine lv_istore_n hx hb d_Signs_look_36 rfl hl (by decide) rfl (fun ls hl => ?_)
    have hl : lv_has ls 2 [(1, .int r3), (0, .ref a)] := hl
    refine lv_aload_n hx hb d_Signs_look_37 rfl (lv_at hl 1 rfl) ?_
    refine va_get (D := g) (ci := 6) (v := .int r2) (C := R_Signs) (T := F_Signs) (N := 8) hx hb hg ul_Signs hown hK hP 7 rfl rfl 3 (by decide) (hg _ wd_442) (fun _ h9 => h9) rfl d_Signs_look_38 ?_
    refine lv_aload_n hx hb d_Signs_look_41 rfl (lv_at hl 1 rfl) ?_
    refine va_get (D := g) (ci := 6) (v := .ref a_tape) (C := R_Signs) (T := F_Signs) (N := 8) hx hb hg ul_Signs hown hK hP 7 rfl rfl 0 (by decide) (hg _ wd_447) (fun _ h9 => h9) rfl d_Signs_look_42 ?_
    obtain ⟨r4, hc4, hok⟩ := bd_some hok
    obtain ⟨hPc, hDc, hFc⟩ := cut0 (wc := [(a_tape, .inr (0, [.ref a_tape_items, .int a_tape_size]))]) hP hD hS hA [8] (by decide) rfl
    refine va_calli (va_runV (As := []) (rest := [.int r2]) ⟨hx, hb, hml, hown, hg⟩ (c_Bytes_size l g cs ka a_tape_items a_tape H.size a_tape_size r4 hc4) (cwV (C := R_Bytes) 0 hg (gw_V wd_451 wd_452 wd_453 wd_450 wd_449) rfl rfl rfl (by decide +kernel) ⟨Nat.le_of_ble_eq_true rfl, Nat.le_of_ble_eq_true rfl⟩) ⟨gP_blind, va_recv (q0 := 8) (ci := 0) (q := (R_Bytes, F_Bytes, 2)) hK hP rfl rfl, gP_pre hPc hDc hK hgl hkn hkr hS hFc⟩ rfl rfl hl.1 rfl (lv_room (Nat.le_of_ble_eq_true rfl)) d_Signs_look_45 ⟨show 0 + 0 + 0 + 0 ≤ mc from by omega, show 0 + 0 + 0 + 0 ≤ ms from by omega⟩) hS (fun q _ h => hFc q h) hFc (fun r4' u t H locs ht hvm hr4 hB hz1 hk1 hS => ?_)
    subst hr4
    rw [ht] at hB
    obtain ⟨hP1, hD1⟩ := hB
    obtain ⟨hP, hD⟩ := jn_A hP hD [8] [0, 1, 2, 3, 4, 5, 6, 7, 9] rfl rfl (by decide) (by decide) hk1 hFc hP1 hD1
    obtain ⟨hP, hD⟩ : PD g A H [(a_names, .inr (2, [.ref a_names_texts, .int a_names_textsSize, .ref a_names_ends, .ref a_names_older, .ref a_names_newest, .int a_names_sizeBefore])), (a_names_texts, .inl (cs 1, a_names_texts_n, .inl a_names_texts_f)), (a_names_ends, .inr (1, [.ref a_names_ends_items, .int a_names_ends_size])), (a_names_ends_items, .inl (cs 0, a_names_ends_items_n, .inl a_names_ends_items_f)), (a_names_older, .inr (1, [.ref a_names_older_items, .int a_names_older_size])), (a_names_older_items, .inl (cs 0, a_names_older_items_n, .inl a_names_older_items_f)), (a_names_newest, .inl (cs 0, a_names_newest_n, .inl a_names_newest_f)), (a, .inr (6, [.ref a_tape, .ref a_names, .int a_kind, .int r2, .int a_behind, .int 0, .int a_name, .long a_number])), (a_tape_items, .inl (cs 1, a_tape_items_n, .inl a_tape_items_f)), (a_tape, .inr (0, [.ref a_tape_items, .int a_tape_size]))] := ⟨hP, hD⟩
    refine lv_icmp_lt hx hb d_Signs_look_48 rfl (fun h5 => ?_) (fun h5 => ?_)
    · rw [if_pos h5] at hok
      refine lv_iload_n hx hb d_Signs_look_63 rfl (lv_at hl 0 rfl) ?_
      obtain ⟨r6, hc6, hok⟩ := bd_some hok
      obtain ⟨hPc, hDc, hFc⟩ := cut0 (wc := []) hP hD hS hA [] (by decide) rfl
      refine va_calli (va_runS (As := [.int r3]) (rest := []) ⟨hx, hb, hml, hown, hg⟩ (c_Letters_beginsVariable l g cs ka H.size r3 r6 hc6) (va_cwS 1 hg (gw_S wd_502 wd_222 wd_217 wd_220) rfl rfl rfl (by decide +kernel) ⟨Nat.le_of_ble_eq_true rfl, Nat.le_of_ble_eq_true rfl⟩) ⟨gP_blind, gP_pre hPc hDc hK hgl hkn hkr hS hFc⟩ rfl rfl hl.1 rfl (lv_room (Nat.le_of_ble_eq_true rfl)) d_Signs_look_64 ⟨show 0 + 0 + 0 + 0 + 0 ≤ mc from by omega, show 0 + 0 + 0 + 0 + 0 ≤ ms from by omega⟩) hS (fun q _ h => hFc q h) hFc (fun r6' u t H locs ht hvm hr6 hB hz1 hk1 hS => ?_)
      subst hr6
      rw [ht] at hB
      obtain ⟨hP1, hD1⟩ := hB
      obtain ⟨hP, hD⟩ := jn_A hP hD [] [0, 1, 2, 3, 4, 5, 6, 7, 8, 9] rfl rfl (by decide) (by decide) hk1 hFc hP1 hD1
      obtain ⟨hP, hD⟩ : PD g A H [(a_names, .inr (2, [.ref a_names_texts, .int a_names_textsSize, .ref a_names_ends, .ref a_names_older, .ref a_names_newest, .int a_names_sizeBefore])), (a_names_texts, .inl (cs 1, a_names_texts_n, .inl a_names_texts_f)), (a_names_ends, .inr (1, [.ref a_names_ends_items, .int a_names_ends_size])), (a_names_ends_items, .inl (cs 0, a_names_ends_items_n, .inl a_names_ends_items_f)), (a_names_older, .inr (1, [.ref a_names_older_items, .int a_names_older_size])), (a_names_older_items, .inl (cs 0, a_names_older_items_n, .inl a_names_older_items_f)), (a_names_newest, .inl (cs 0, a_names_newest_n, .inl a_names_newest_f)), (a, .inr (6, [.ref a_tape, .ref a_names, .int a_kind, .int r2, .int a_behind, .int 0, .int a_name, .long a_number])), (a_tape_items, .inl (cs 1, a_tape_items_n, .inl a_tape_items_f)), (a_tape, .inr (0, [.ref a_tape_items, .int a_tape_size]))] := ⟨hP, hD⟩
      refine lv_if_eq hx hb d_Signs_look_67 rfl (fun h7 => ?_) (fun h7 => ?_)
      · rw [if_pos h7] at hok
        refine lv_iload_n hx hb d_Signs_look_77 rfl (lv_at hl 0 rfl) ?_
        obtain ⟨r8, hc8, hok⟩ := bd_some hok
        obtain ⟨hPc, hDc, hFc⟩ := cut0 (wc := []) hP hD hS hA [] (by decide) rfl
        refine va_calli (va_runS (As := [.int r3]) (rest := []) ⟨hx, hb, hml, hown, hg⟩ (c_Letters_isSmall l g cs ka H.size r3 r8 hc8) (va_cwS 1 hg (gw_S wd_503 wd_219 wd_217 wd_216) rfl rfl rfl (by decide +kernel) ⟨Nat.le_of_ble_eq_true rfl, Nat.le_of_ble_eq_true rfl⟩) ⟨gP_blind, gP_pre hPc hDc hK hgl hkn hkr hS hFc⟩ rfl rfl hl.1 rfl (lv_room (Nat.le_of_ble_eq_true rfl)) d_Signs_look_78 ⟨show 0 + 0 + 0 + 0 + 0 + 0 ≤ mc from by omega, show 0 + 0 + 0 + 0 + 0 + 0 ≤ ms from by omega⟩) hS (fun q _ h => hFc q h) hFc (fun r8' u t H locs ht hvm hr8 hB hz1 hk1 hS => ?_)
        subst hr8
        rw [ht] at hB
        obtain ⟨hP1, hD1⟩ := hB
        obtain ⟨hP, hD⟩ := jn_A hP hD [] [0, 1, 2, 3, 4, 5, 6, 7, 8, 9] rfl rfl (by decide) (by decide) hk1 hFc hP1 hD1
        obtain ⟨hP, hD⟩ : PD g A H [(a_names, .inr (2, [.ref a_names_texts, .int a_names_textsSize, .ref a_names_ends, .ref a_names_older, .ref a_names_newest, .int a_names_sizeBefore])), (a_names_texts, .inl (cs 1, a_names_texts_n, .inl a_names_texts_f)), (a_names_ends, .inr (1, [.ref a_names_ends_items, .int a_names_ends_size])), (a_names_ends_items, .inl (cs 0, a_names_ends_items_n, .inl a_names_ends_items_f)), (a_names_older, .inr (1, [.ref a_names_older_items, .int a_names_older_size])), (a_names_older_items, .inl (cs 0, a_names_older_items_n, .inl a_names_older_items_f)), (a_names_newest, .inl (cs 0, a_names_newest_n, .inl a_names_newest_f)), (a, .inr (6, [.ref a_tape, .ref a_names, .int a_kind, .int r2, .int a_behind, .int 0, .int a_name, .long a_number])), (a_tape_items, .inl (cs 1, a_tape_items_n, .inl a_tape_items_f)), (a_tape, .inr (0, [.ref a_tape_items, .int a_tape_size]))] := ⟨hP, hD⟩
        refine lv_if_eq hx hb d_Signs_look_81 rfl (fun h9 => ?_) (fun h9 => ?_)
        · rw [if_pos h9] at hok
          refine lv_iload_n hx hb d_Signs_look_95 rfl (lv_at hl 0 rfl) ?_
          obtain ⟨r10, hc10, hok⟩ := bd_some hok
          obtain ⟨hPc, hDc, hFc⟩ := cut0 (wc := []) hP hD hS hA [] (by decide) rfl
          refine va_calli (va_runS (As := [.int r3]) (rest := []) ⟨hx, hb, hml, hown, hg⟩ (c_Letters_isDigit l g cs ka H.size r3 r10 hc10) (va_cwS 1 hg (gw_S wd_481 wd_225 wd_217 wd_223) rfl rfl rfl (by decide +kernel) ⟨Nat.le_of_ble_eq_true rfl, Nat.le_of_ble_eq_true rfl⟩) ⟨gP_blind, gP_pre hPc hDc hK hgl hkn hkr hS hFc⟩ rfl rfl hl.1 rfl (lv_room (Nat.le_of_ble_eq_true rfl)) d_Signs_look_96 ⟨show 0 + 0 + 0 + 0 + 0 + 0 + 0 ≤ mc from by omega, show 0 + 0 + 0 + 0 + 0 + 0 + 0 ≤ ms from by omega⟩) hS (fun q _ h => hFc q h) hFc (fun r10' u t H locs ht hvm hr10 hB hz1 hk1 hS => ?_)
          subst hr10
          rw [ht] at hB
          obtain ⟨hP1, hD1⟩ := hB
          obtain ⟨hP, hD⟩ := jn_A hP hD [] [0, 1, 2, 3, 4, 5, 6, 7, 8, 9] rfl rfl (by decide) (by decide) hk1 hFc hP1 hD1
          obtain ⟨hP, hD⟩ : PD g A H [(a_names, .inr (2, [.ref a_names_texts, .int a_names_textsSize, .ref a_names_ends, .ref a_names_older, .ref a_names_newest, .int a_names_sizeBefore])), (a_names_texts, .inl (cs 1, a_names_texts_n, .inl a_names_texts_f)), (a_names_ends, .inr (1, [.ref a_names_ends_items, .int a_names_ends_size])), (a_names_ends_items, .inl (cs 0, a_names_ends_items_n, .inl a_names_ends_items_f)), (a_names_older, .inr (1, [.ref a_names_older_items, .int a_names_older_size])), (a_names_older_items, .inl (cs 0, a_names_older_items_n, .inl a_names_older_items_f)), (a_names_newest, .inl (cs 0, a_names_newest_n, .inl a_names_newest_f)), (a, .inr (6, [.ref a_tape, .ref a_names, .int a_kind, .int r2, .int a_behind, .int 0, .int a_name, .long a_number])), (a_tape_items, .inl (cs 1, a_tape_items_n, .inl a_tape_items_f)), (a_tape, .inr (0, [.ref a_tape_items, .int a_tape_size]))] := ⟨hP, hD⟩
          refine lv_if_eq hx hb d_Signs_look_99 rfl (fun h11 => ?_) (fun h11 => ?_)
          · rw [if_pos h11] at hok
            refine lv_iload_n hx hb d_Signs_look_109 rfl (lv_at hl 0 rfl) ?_
            refine lv_bipush (v := 39) hx hb d_Signs_look_110 (by decide) ?_
            refine lv_icmp_ne hx hb d_Signs_look_112 rfl (fun h12 => ?_) (fun h12 => ?_)
            · rw [if_neg h12] at hok
              refine lv_iload_n hx hb d_Signs_look_122 rfl (lv_at hl 0 rfl) ?_
              obtain ⟨r13, hc13, hok⟩ := bd_some hok
              obtain ⟨hPc, hDc, hFc⟩ := cut0 (wc := []) hP hD hS hA [] (by decide) rfl
              refine va_calli (va_runS (As := [.int r3]) (rest := []) ⟨hx, hb, hml, hown, hg⟩ (c_Letters_isSymbol l g cs ka H.size n r3 r13 hc13) (va_cwS 1 hg (gw_S wd_493 wd_494 wd_217 wd_492) rfl rfl rfl (by decide +kernel) ⟨Nat.le_of_ble_eq_true rfl, Nat.le_of_ble_eq_true rfl⟩) ⟨gP_blind, gP_pre hPc hDc hK hgl hkn hkr hS hFc⟩ rfl rfl hl.1 rfl (lv_room (Nat.le_of_ble_eq_true rfl)) d_Signs_look_123 ⟨show 0 + 0 + 0 + 0 + 0 + 0 + 0 + 0 ≤ mc from by omega, show 0 + 0 + 0 + 0 + 0 + 0 + 0 + 0 ≤ ms from by omega⟩) hS (fun q _ h => hFc q h) hFc (fun r13' u t H locs ht hvm hr13 hB hz1 hk1 hS => ?_)
              subst hr13
              rw [ht] at hB
              obtain ⟨hP1, hD1⟩ := hB
              obtain ⟨hP, hD⟩ := jn_A hP hD [] [0, 1, 2, 3, 4, 5, 6, 7, 8, 9] rfl rfl (by decide) (by decide) hk1 hFc hP1 hD1
              obtain ⟨hP, hD⟩ : PD g A H [(a_names, .inr (2, [.ref a_names_texts, .int a_names_textsSize, .ref a_names_ends, .ref a_names_older, .ref a_names_newest, .int a_names_sizeBefore])), (a_names_texts, .inl (cs 1, a_names_texts_n, .inl a_names_texts_f)), (a_names_ends, .inr (1, [.ref a_names_ends_items, .int a_names_ends_size])), (a_names_ends_items, .inl (cs 0, a_names_ends_items_n, .inl a_names_ends_items_f)), (a_names_older, .inr (1, [.ref a_names_older_items, .int a_names_older_size])), (a_names_older_items, .inl (cs 0, a_names_older_items_n, .inl a_names_older_items_f)), (a_names_newest, .inl (cs 0, a_names_newest_n, .inl a_names_newest_f)), (a, .inr (6, [.ref a_tape, .ref a_names, .int a_kind, .int r2, .int a_behind, .int 0, .int a_name, .long a_number])), (a_tape_items, .inl (cs 1, a_tape_items_n, .inl a_tape_items_f)), (a_tape, .inr (0, [.ref a_tape_items, .int a_tape_size]))] := ⟨hP, hD⟩
              refine lv_if_eq hx hb d_Signs_look_126 rfl (fun h14 => ?_) (fun h14 => ?_)
              · rw [if_pos h14] at hok
                refine lv_iload_n hx hb d_Signs_look_136 rfl (lv_at hl 0 rfl) ?_
                refine lv_bipush (v := 33) hx hb d_Signs_look_137 (by decide) ?_
                refine lv_icmp_eq hx hb d_Signs_look_139 rfl (fun h15 => ?_) (fun h15 => ?_)
                · rw [if_pos h15] at hok
                  refine lv_aload_n hx hb d_Signs_look_148 rfl (lv_at hl 1 rfl) ?_
                  refine lv_aload_n hx hb d_Signs_look_149 rfl (lv_at hl 1 rfl) ?_
                  refine va_get (D := g) (ci := 6) (v := .int r2) (C := R_Signs) (T := F_Signs) (N := 8) hx hb hg ul_Signs hown hK hP 7 rfl rfl 3 (by decide) (hg _ wd_442) (fun _ h9 => h9) rfl d_Signs_look_150 ?_
                  refine lv_iconst (v := 1) hx hb d_Signs_look_153 (by decide) ?_
                  refine lv_iadd hx hb d_Signs_look_154 ?_
                  obtain ⟨⟨⟨a_kind_16, a_behind_16, a_name_16, a_names_textsSize_16, a_names_texts_n_16, a_names_texts_f_16, a_names_ends_size_16, a_names_ends_items_n_16, a_names_ends_items_f_16, a_names_older_size_16, a_names_older_items_n_16, a_names_older_items_f_16, a_names_newest_f_16⟩, mk16, sk16⟩, hc16, hok⟩ := bd_some hok
                  dsimp only at hok
                  obtain ⟨m16, s16, hok, hmc16, hms16⟩ := al_some hok
                  obtain ⟨hPc, hDc, hFc⟩ := cut0 (wc := [(a, .inr (6, [.ref a_tape, .ref a_names, .int a_kind, .int r2, .int a_behind, .int 0, .int a_name, .long a_number])), (a_tape, .inr (0, [.ref a_tape_items, .int a_tape_size])), (a_tape_items, .inl (cs 1, a_tape_items_n, .inl a_tape_items_f)), (a_names, .inr (2, [.ref a_names_texts, .int a_names_textsSize, .ref a_names_ends, .ref a_names_older, .ref a_names_newest, .int a_names_sizeBefore])), (a_names_texts, .inl (cs 1, a_names_texts_n, .inl a_names_texts_f)), (a_names_ends, .inr (1, [.ref a_names_ends_items, .int a_names_ends_size])), (a_names_ends_items, .inl (cs 0, a_names_ends_items_n, .inl a_names_ends_items_f)), (a_names_older, .inr (1, [.ref a_names_older_items, .int a_names_older_size])), (a_names_older_items, .inl (cs 0, a_names_older_items_n, .inl a_names_older_items_f)), (a_names_newest, .inl (cs 0, a_names_newest_n, .inl a_names_newest_f))]) hP hD hS hA [7, 9, 8, 0, 1, 2, 3, 4, 5, 6] (by decide) rfl
                  refine va_callv (va_runV (As := [.int (r2 + 1)]) (rest := []) ⟨hx, hb, hml, hown, hg⟩ (c_Signs_takeName l g cs ka a a_tape a_tape_items a_names a_names_texts a_names_ends a_names_ends_items a_names_older a_names_older_items a_names_newest H.size n (r2 + 1) a_kind r2 a_behind (0 : Int32) a_name a_number a_tape_size a_tape_items_n a_tape_items_f a_names_textsSize a_names_sizeBefore a_names_texts_n a_names_texts_f a_names_ends_size a_names_ends_items_n a_names_ends_items_f a_names_older_size a_names_older_items_n a_names_older_items_f a_names_newest_n a_names_newest_f a_kind_16 a_behind_16 a_name_16 a_names_textsSize_16 a_names_texts_n_16 a_names_texts_f_16 a_names_ends_size_16 a_names_ends_items_n_16 a_names_ends_items_f_16 a_names_older_size_16 a_names_older_items_n_16 a_names_older_items_f_16 a_names_newest_f_16 mk16 sk16 hc16) (cwV (C := R_Signs) 1 hg (gw_V wd_477 wd_478 wd_479 wd_467 wd_476) rfl rfl rfl (by decide +kernel) ⟨Nat.le_of_ble_eq_true rfl, Nat.le_of_ble_eq_true rfl⟩) ⟨gP_blind, va_recv (q0 := 7) (ci := 6) (q := (R_Signs, F_Signs, 8)) hK hP rfl rfl, gP_pre hPc hDc hK hgl hkn hkr hS hFc⟩ rfl rfl hl.1 rfl (lv_room (Nat.le_of_ble_eq_true rfl)) d_Signs_look_155 ⟨show 0 + 0 + 0 + 0 + 0 + 0 + 0 + 0 + mk16 ≤ mc from by omega, show 0 + 0 + 0 + 0 + 0 + 0 + 0 + 0 + sk16 ≤ ms from by omega⟩) hS (fun q _ h => hFc q h) hFc (fun u t H locs ht hvm hr16 hB hz1 hk1 hS => ?_)
                  rw [ht] at hB
                  obtain ⟨a_names_texts_16, a_names_ends_items_16, a_names_older_items_16, hP1, hD1⟩ := hB
                  obtain ⟨hP, hD⟩ := jn_A hP hD [7, 9, 8, 0, 1, 2, 3, 4, 5, 6] [] rfl rfl (by decide) (by decide) hk1 hFc hP1 hD1
                  obtain ⟨hP, hD⟩ : PD g A H [(a, .inr (6, [.ref a_tape, .ref a_names, .int a_kind_16, .int r2, .int a_behind_16, .int 0, .int a_name_16, .long a_number])), (a_tape, .inr (0, [.ref a_tape_items, .int a_tape_size])), (a_tape_items, .inl (cs 1, a_tape_items_n, .inl a_tape_items_f)), (a_names, .inr (2, [.ref a_names_texts_16, .int a_names_textsSize_16, .ref a_names_ends, .ref a_names_older, .ref a_names_newest, .int a_names_sizeBefore])), (a_names_texts_16, .inl (cs 1, a_names_texts_n_16, .inl a_names_texts_f_16)), (a_names_ends, .inr (1, [.ref a_names_ends_items_16, .int a_names_ends_size_16])), (a_names_ends_items_16, .inl (cs 0, a_names_ends_items_n_16, .inl a_names_ends_items_f_16)), (a_names_older, .inr (1, [.ref a_names_older_items_16, .int a_names_older_size_16])), (a_names_older_items_16, .inl (cs 0, a_names_older_items_n_16, .inl a_names_older_items_f_16)), (a_names_newest, .inl (cs 0, a_names_newest_n, .inl a_names_newest_f_16))] := ⟨hP, hD⟩
                  refine lv_goto hx hb d_Signs_look_158 rfl ?_
                  obtain ⟨hq, hw⟩ := Prod.mk.inj (Option.some.inj hok)
                  obtain ⟨hmc0, hms0⟩ := Prod.mk.inj hw
                  obtain ⟨hq0, hq⟩ := Prod.mk.inj hq
                  obtain ⟨hq1, hq⟩ := Prod.mk.inj hq
                  obtain ⟨hq2, hq⟩ := Prod.mk.inj hq
                  obtain ⟨hq3, hq⟩ := Prod.mk.inj hq
                  obtain ⟨hq4, hq⟩ := Prod.mk.inj hq
                  obtain ⟨hq5, hq⟩ := Prod.mk.inj hq
                  obtain ⟨hq6, hq⟩ := Prod.mk.inj hq
                  obtain ⟨hq7, hq⟩ := Prod.mk.inj hq
                  obtain ⟨hq8, hq⟩ := Prod.mk.inj hq
                  obtain ⟨hq9, hq⟩ := Prod.mk.inj hq
                  obtain ⟨hq10, hq⟩ := Prod.mk.inj hq
                  obtain ⟨hq11, hq⟩ := Prod.mk.inj hq
                  obtain ⟨hq12, hq⟩ := Prod.mk.inj hq
                  obtain ⟨hq13, hq⟩ := Prod.mk.inj hq
                  obtain ⟨hq14, hq⟩ := Prod.mk.inj hq
                  have hq15 := hq
                  subst hq0
                  subst hq1
                  subst hq2
                  subst hq3
                  subst hq4
                  subst hq5
                  subst hq6
                  subst hq7
                  subst hq8
                  subst hq9
                  subst hq10
                  subst hq11
                  subst hq12
                  subst hq13
                  subst hq14
                  subst hq15
                  obtain ⟨hP9, hD9⟩ := sub2 (ws' := [(a, .inr (6, [.ref a_tape, .ref a_names, .int a_kind_16, .int r2, .int a_behind_16, .int 0, .int a_name_16, .long a_number])), (a_tape, .inr (0, [.ref a_tape_items, .int a_tape_size])), (a_tape_items, .inl (cs 1, a_tape_items_n, .inl a_tape_items_f)), (a_names, .inr (2, [.ref a_names_texts_16, .int a_names_textsSize_16, .ref a_names_ends, .ref a_names_older, .ref a_names_newest, .int a_names_sizeBefore])), (a_names_texts_16, .inl (cs 1, a_names_texts_n_16, .inl a_names_texts_f_16)), (a_names_ends, .inr (1, [.ref a_names_ends_items_16, .int a_names_ends_size_16])), (a_names_ends_items_16, .inl (cs 0, a_names_ends_items_n_16, .inl a_names_ends_items_f_16)), (a_names_older, .inr (1, [.ref a_names_older_items_16, .int a_names_older_size_16])), (a_names_older_items_16, .inl (cs 0, a_names_older_items_n_16, .inl a_names_older_items_f_16)), (a_names_newest, .inl (cs 0, a_names_newest_n, .inl a_names_newest_f_16))]) hP hD [0, 1, 2, 3, 4, 5, 6, 7, 8, 9] rfl (by decide) rfl
                  refine W.widen (k := mc) (n := ms) (by omega) (by omega) ?_
                  rw [hQ]
                  exact W.vret hx hb hr (fun t ht hW => ⟨⟨(), rfl, trivial, a_names_texts_16, a_names_ends_items_16, a_names_older_items_16, by rw [ht]; exact hP9, hD9⟩, hS.F ht⟩) hS.2.2 d_Signs_look_221
                · rw [if_neg h15] at hok
                  refine lv_iload_n hx hb d_Signs_look_142 rfl (lv_at hl 0 rfl) ?_
                  refine lv_bipush (v := 59) hx hb d_Signs_look_143 (by decide) ?_
                  refine lv_icmp_ne hx hb d_Signs_look_145 rfl (fun h17 => ?_) (fun h17 => ?_)
                  · rw [if_neg h17] at hok
                    refine lv_iload_n hx hb d_Signs_look_161 rfl (lv_at hl 0 rfl) ?_
                    refine lv_bipush (v := 91) hx hb d_Signs_look_162 (by decide) ?_
                    refine lv_icmp_ne hx hb d_Signs_look_164 rfl (fun h18 => ?_) (fun h18 => ?_)
                    · rw [if_neg h18] at hok
                      refine lv_aload_n hx hb d_Signs_look_198 rfl (lv_at hl 1 rfl) ?_
                      refine lv_iload_n hx hb d_Signs_look_199 rfl (lv_at hl 0 rfl) ?_
                      obtain ⟨r19, hc19, hok⟩ := bd_some hok
                      obtain ⟨hPc, hDc, hFc⟩ := cut0 (wc := []) hP hD hS hA [] (by decide) rfl
                      refine va_calli (va_runS (As := [.int r3]) (rest := [.ref a]) ⟨hx, hb, hml, hown, hg⟩ (c_Letters_isMark l g cs ka H.size n r3 r19 hc19) (va_cwS 1 hg (gw_S wd_505 wd_506 wd_217 wd_504) rfl rfl rfl (by decide +kernel) ⟨Nat.le_of_ble_eq_true rfl, Nat.le_of_ble_eq_true rfl⟩) ⟨gP_blind, gP_pre hPc hDc hK hgl hkn hkr hS hFc⟩ rfl rfl hl.1 rfl (lv_room (Nat.le_of_ble_eq_true rfl)) d_Signs_look_200 ⟨show 0 + 0 + 0 + 0 + 0 + 0 + 0 + 0 + 0 ≤ mc from by omega, show 0 + 0 + 0 + 0 + 0 + 0 + 0 + 0 + 0 ≤ ms from by omega⟩) hS (fun q _ h => hFc q h) hFc (fun r19' u t H locs ht hvm hr19 hB hz1 hk1 hS => ?_)
                      subst hr19
                      rw [ht] at hB
                      obtain ⟨hP1, hD1⟩ := hB
                      obtain ⟨hP, hD⟩ := jn_A hP hD [] [0, 1, 2, 3, 4, 5, 6, 7, 8, 9] rfl rfl (by decide) (by decide) hk1 hFc hP1 hD1
                      obtain ⟨hP, hD⟩ : PD g A H [(a_names, .inr (2, [.ref a_names_texts, .int a_names_textsSize, .ref a_names_ends, .ref a_names_older, .ref a_names_newest, .int a_names_sizeBefore])), (a_names_texts, .inl (cs 1, a_names_texts_n, .inl a_names_texts_f)), (a_names_ends, .inr (1, [.ref a_names_ends_items, .int a_names_ends_size])), (a_names_ends_items, .inl (cs 0, a_names_ends_items_n, .inl a_names_ends_items_f)), (a_names_older, .inr (1, [.ref a_names_older_items, .int a_names_older_size])), (a_names_older_items, .inl (cs 0, a_names_older_items_n, .inl a_names_older_items_f)), (a_names_newest, .inl (cs 0, a_names_newest_n, .inl a_names_newest_f)), (a, .inr (6, [.ref a_tape, .ref a_names, .int a_kind, .int r2, .int a_behind, .int 0, .int a_name, .long a_number])), (a_tape_items, .inl (cs 1, a_tape_items_n, .inl a_tape_items_f)), (a_tape, .inr (0, [.ref a_tape_items, .int a_tape_size]))] := ⟨hP, hD⟩
                      refine lv_if_eq hx hb d_Signs_look_203 rfl (fun h20 => ?_) (fun h20 => ?_)
                      · rw [if_pos h20] at hok
                        refine lv_bipush (v := 6) hx hb d_Signs_look_210 (by decide) ?_
                        refine lv_aload_n hx hb d_Signs_look_212 rfl (lv_at hl 1 rfl) ?_
                        refine va_get (D := g) (ci := 6) (v := .int r2) (C := R_Signs) (T := F_Signs) (N := 8) hx hb hg ul_Signs hown hK hP 7 rfl rfl 3 (by decide) (hg _ wd_442) (fun _ h9 => h9) rfl d_Signs_look_213 ?_
                        refine lv_iconst (v := 1) hx hb d_Signs_look_216 (by decide) ?_
                        refine lv_iadd hx hb d_Signs_look_217 ?_
                        obtain ⟨⟨a_kind_21, a_behind_21⟩, hc21, hok⟩ := bd_some hok
                        dsimp only at hok
                        obtain ⟨hPc, hDc, hFc⟩ := cut0 (wc := [(a, .inr (6, [.ref a_tape, .ref a_names, .int a_kind, .int r2, .int a_behind, .int 0, .int a_name, .long a_number]))]) hP hD hS hA [7] (by decide) rfl
                        refine va_callv (va_runV (As := [.int 6, .int (r2 + 1)]) (rest := []) ⟨hx, hb, hml, hown, hg⟩ (c_Signs_takeTo l g cs ka a_tape a_names a H.size (6 : Int32) (r2 + 1) a_kind r2 a_behind (0 : Int32) a_name a_number a_kind_21 a_behind_21 hc21) (cwV (C := R_Signs) 2 hg (gw_V wd_468 wd_469 wd_470 wd_467 wd_466) rfl rfl rfl (by decide +kernel) ⟨Nat.le_of_ble_eq_true rfl, Nat.le_of_ble_eq_true rfl⟩) ⟨gP_blind, va_recv (q0 := 7) (ci := 6) (q := (R_Signs, F_Signs, 8)) hK hP rfl rfl, gP_pre hPc hDc hK hgl hkn hkr hS hFc⟩ rfl rfl hl.1 rfl (lv_room (Nat.le_of_ble_eq_true rfl)) d_Signs_look_218 ⟨show 0 + 0 + 0 + 0 + 0 + 0 + 0 + 0 + 0 + 0 ≤ mc from by omega, show 0 + 0 + 0 + 0 + 0 + 0 + 0 + 0 + 0 + 0 ≤ ms from by omega⟩) hS (fun q _ h => hFc q h) hFc (fun u t H locs ht hvm hr21 hB hz1 hk1 hS => ?_)
                        rw [ht] at hB
                        obtain ⟨hP1, hD1⟩ := hB
                        obtain ⟨hP, hD⟩ := jn_A hP hD [7] [0, 1, 2, 3, 4, 5, 6, 8, 9] rfl rfl (by decide) (by decide) hk1 hFc hP1 hD1
                        obtain ⟨hP, hD⟩ : PD g A H [(a_names, .inr (2, [.ref a_names_texts, .int a_names_textsSize, .ref a_names_ends, .ref a_names_older, .ref a_names_newest, .int a_names_sizeBefore])), (a_names_texts, .inl (cs 1, a_names_texts_n, .inl a_names_texts_f)), (a_names_ends, .inr (1, [.ref a_names_ends_items, .int a_names_ends_size])), (a_names_ends_items, .inl (cs 0, a_names_ends_items_n, .inl a_names_ends_items_f)), (a_names_older, .inr (1, [.ref a_names_older_items, .int a_names_older_size])), (a_names_older_items, .inl (cs 0, a_names_older_items_n, .inl a_names_older_items_f)), (a_names_newest, .inl (cs 0, a_names_newest_n, .inl a_names_newest_f)), (a_tape_items, .inl (cs 1, a_tape_items_n, .inl a_tape_items_f)), (a_tape, .inr (0, [.ref a_tape_items, .int a_tape_size])), (a, .inr (6, [.ref a_tape, .ref a_names, .int a_kind_21, .int r2, .int a_behind_21, .int 0, .int a_name, .long a_number]))] := ⟨hP, hD⟩
                        obtain ⟨hq, hw⟩ := Prod.mk.inj (Option.some.inj hok)
                        obtain ⟨hmc0, hms0⟩ := Prod.mk.inj hw
                        obtain ⟨hq0, hq⟩ := Prod.mk.inj hq
                        obtain ⟨hq1, hq⟩ := Prod.mk.inj hq
                        obtain ⟨hq2, hq⟩ := Prod.mk.inj hq
                        obtain ⟨hq3, hq⟩ := Prod.mk.inj hq
                        obtain ⟨hq4, hq⟩ := Prod.mk.inj hq
                        obtain ⟨hq5, hq⟩ := Prod.mk.inj hq
                        obtain ⟨hq6, hq⟩ := Prod.mk.inj hq
                        obtain ⟨hq7, hq⟩ := Prod.mk.inj hq
                        obtain ⟨hq8, hq⟩ := Prod.mk.inj hq
                        obtain ⟨hq9, hq⟩ := Prod.mk.inj hq
                        obtain ⟨hq10, hq⟩ := Prod.mk.inj hq
                        obtain ⟨hq11, hq⟩ := Prod.mk.inj hq
                        obtain ⟨hq12, hq⟩ := Prod.mk.inj hq
                        obtain ⟨hq13, hq⟩ := Prod.mk.inj hq
                        obtain ⟨hq14, hq⟩ := Prod.mk.inj hq
                        have hq15 := hq
                        subst hq0
                        subst hq1
                        subst hq2
                        subst hq3
                        subst hq4
                        subst hq5
                        subst hq6
                        subst hq7
                        subst hq8
                        subst hq9
                        subst hq10
                        subst hq11
                        subst hq12
                        subst hq13
                        subst hq14
                        subst hq15
                        obtain ⟨hP9, hD9⟩ := sub2 (ws' := [(a, .inr (6, [.ref a_tape, .ref a_names, .int a_kind_21, .int r2, .int a_behind_21, .int 0, .int a_name, .long a_number])), (a_tape, .inr (0, [.ref a_tape_items, .int a_tape_size])), (a_tape_items, .inl (cs 1, a_tape_items_n, .inl a_tape_items_f)), (a_names, .inr (2, [.ref a_names_texts, .int a_names_textsSize, .ref a_names_ends, .ref a_names_older, .ref a_names_newest, .int a_names_sizeBefore])), (a_names_texts, .inl (cs 1, a_names_texts_n, .inl a_names_texts_f)), (a_names_ends, .inr (1, [.ref a_names_ends_items, .int a_names_ends_size])), (a_names_ends_items, .inl (cs 0, a_names_ends_items_n, .inl a_names_ends_items_f)), (a_names_older, .inr (1, [.ref a_names_older_items, .int a_names_older_size])), (a_names_older_items, .inl (cs 0, a_names_older_items_n, .inl a_names_older_items_f)), (a_names_newest, .inl (cs 0, a_names_newest_n, .inl a_names_newest_f))]) hP hD [9, 8, 7, 0, 1, 2, 3, 4, 5, 6] rfl (by decide) rfl
                        refine W.widen (k := mc) (n := ms) (by omega) (by omega) ?_
                        rw [hQ]
                        exact W.vret hx hb hr (fun t ht hW => ⟨⟨(), rfl, trivial, a_names_texts, a_names_ends_items, a_names_older_items, by rw [ht]; exact hP9, hD9⟩, hS.F ht⟩) hS.2.2 d_Signs_look_221
                      · rw [if_neg h20] at hok
                        refine lv_iload_n hx hb d_Signs_look_206 rfl (lv_at hl 0 rfl) ?_
                        refine lv_goto hx hb d_Signs_look_207 rfl ?_
                        refine lv_aload_n hx hb d_Signs_look_212 rfl (lv_at hl 1 rfl) ?_
                        refine va_get (D := g) (ci := 6) (v := .int r2) (C := R_Signs) (T := F_Signs) (N := 8) hx hb hg ul_Signs hown hK hP 7 rfl rfl 3 (by decide) (hg _ wd_442) (fun _ h9 => h9) rfl d_Signs_look_213 ?_
                        refine lv_iconst (v := 1) hx hb d_Signs_look_216 (by decide) ?_
                        refine lv_iadd hx hb d_Signs_look_217 ?_
                        obtain ⟨⟨a_kind_22, a_behind_22⟩, hc22, hok⟩ := bd_some hok
                        dsimp only at hok
                        obtain ⟨hPc, hDc, hFc⟩ := cut0 (wc := [(a, .inr (6, [.ref a_tape, .ref a_names, .int a_kind, .int r2, .int a_behind, .int 0, .int a_name, .long a_number]))]) hP hD hS hA [7] (by decide) rfl
                        refine va_callv (va_runV (As := [.int r3, .int (r2 + 1)]) (rest := []) ⟨hx, hb, hml, hown, hg⟩ (c_Signs_takeTo l g cs ka a_tape a_names a H.size r3 (r2 + 1) a_kind r2 a_behind (0 : Int32) a_name a_number a_kind_22 a_behind_22 hc22) (cwV (C := R_Signs) 2 hg (gw_V wd_468 wd_469 wd_470 wd_467 wd_466) rfl rfl rfl (by decide +kernel) ⟨Nat.le_of_ble_eq_true rfl, Nat.le_of_ble_eq_true rfl⟩) ⟨gP_blind, va_recv (q0 := 7) (ci := 6) (q := (R_Signs, F_Signs, 8)) hK hP rfl rfl, gP_pre hPc hDc hK hgl hkn hkr hS hFc⟩ rfl rfl hl.1 rfl (lv_room (Nat.le_of_ble_eq_true rfl)) d_Signs_look_218 ⟨show 0 + 0 + 0 + 0 + 0 + 0 + 0 + 0 + 0 + 0 ≤ mc from by omega, show 0 + 0 + 0 + 0 + 0 + 0 + 0 + 0 + 0 + 0 ≤ ms from by omega⟩) hS (fun q _ h => hFc q h) hFc (fun u t H locs ht hvm hr22 hB hz1 hk1 hS => ?_)
                        rw [ht] at hB
                        obtain ⟨hP1, hD1⟩ := hB
                        obtain ⟨hP, hD⟩ := jn_A hP hD [7] [0, 1, 2, 3, 4, 5, 6, 8, 9] rfl rfl (by decide) (by decide) hk1 hFc hP1 hD1
                        obtain ⟨hP, hD⟩ : PD g A H [(a_names, .inr (2, [.ref a_names_texts, .int a_names_textsSize, .ref a_names_ends, .ref a_names_older, .ref a_names_newest, .int a_names_sizeBefore])), (a_names_texts, .inl (cs 1, a_names_texts_n, .inl a_names_texts_f)), (a_names_ends, .inr (1, [.ref a_names_ends_items, .int a_names_ends_size])), (a_names_ends_items, .inl (cs 0, a_names_ends_items_n, .inl a_names_ends_items_f)), (a_names_older, .inr (1, [.ref a_names_older_items, .int a_names_older_size])), (a_names_older_items, .inl (cs 0, a_names_older_items_n, .inl a_names_older_items_f)), (a_names_newest, .inl (cs 0, a_names_newest_n, .inl a_names_newest_f)), (a_tape_items, .inl (cs 1, a_tape_items_n, .inl a_tape_items_f)), (a_tape, .inr (0, [.ref a_tape_items, .int a_tape_size])), (a, .inr (6, [.ref a_tape, .ref a_names, .int a_kind_22, .int r2, .int a_behind_22, .int 0, .int a_name, .long a_number]))] := ⟨hP, hD⟩
                        obtain ⟨hq, hw⟩ := Prod.mk.inj (Option.some.inj hok)
                        obtain ⟨hmc0, hms0⟩ := Prod.mk.inj hw
                        obtain ⟨hq0, hq⟩ := Prod.mk.inj hq
                        obtain ⟨hq1, hq⟩ := Prod.mk.inj hq
                        obtain ⟨hq2, hq⟩ := Prod.mk.inj hq
                        obtain ⟨hq3, hq⟩ := Prod.mk.inj hq
                        obtain ⟨hq4, hq⟩ := Prod.mk.inj hq
                        obtain ⟨hq5, hq⟩ := Prod.mk.inj hq
                        obtain ⟨hq6, hq⟩ := Prod.mk.inj hq
                        obtain ⟨hq7, hq⟩ := Prod.mk.inj hq
                        obtain ⟨hq8, hq⟩ := Prod.mk.inj hq
                        obtain ⟨hq9, hq⟩ := Prod.mk.inj hq
                        obtain ⟨hq10, hq⟩ := Prod.mk.inj hq
                        obtain ⟨hq11, hq⟩ := Prod.mk.inj hq
                        obtain ⟨hq12, hq⟩ := Prod.mk.inj hq
                        obtain ⟨hq13, hq⟩ := Prod.mk.inj hq
                        obtain ⟨hq14, hq⟩ := Prod.mk.inj hq
                        have hq15 := hq
                        subst hq0
                        subst hq1
                        subst hq2
                        subst hq3
                        subst hq4
                        subst hq5
                        subst hq6
                        subst hq7
                        subst hq8
                        subst hq9
                        subst hq10
                        subst hq11
                        subst hq12
                        subst hq13
                        subst hq14
                        subst hq15
                        obtain ⟨hP9, hD9⟩ := sub2 (ws' := [(a, .inr (6, [.ref a_tape, .ref a_names, .int a_kind_22, .int r2, .int a_behind_22, .int 0, .int a_name, .long a_number])), (a_tape, .inr (0, [.ref a_tape_items, .int a_tape_size])), (a_tape_items, .inl (cs 1, a_tape_items_n, .inl a_tape_items_f)), (a_names, .inr (2, [.ref a_names_texts, .int a_names_textsSize, .ref a_names_ends, .ref a_names_older, .ref a_names_newest, .int a_names_sizeBefore])), (a_names_texts, .inl (cs 1, a_names_texts_n, .inl a_names_texts_f)), (a_names_ends, .inr (1, [.ref a_names_ends_items, .int a_names_ends_size])), (a_names_ends_items, .inl (cs 0, a_names_ends_items_n, .inl a_names_ends_items_f)), (a_names_older, .inr (1, [.ref a_names_older_items, .int a_names_older_size])), (a_names_older_items, .inl (cs 0, a_names_older_items_n, .inl a_names_older_items_f)), (a_names_newest, .inl (cs 0, a_names_newest_n, .inl a_names_newest_f))]) hP hD [9, 8, 7, 0, 1, 2, 3, 4, 5, 6] rfl (by decide) rfl
                        refine W.widen (k := mc) (n := ms) (by omega) (by omega) ?_
                        rw [hQ]
                        exact W.vret hx hb hr (fun t ht hW => ⟨⟨(), rfl, trivial, a_names_texts, a_names_ends_items, a_names_older_items, by rw [ht]; exact hP9, hD9⟩, hS.F ht⟩) hS.2.2 d_Signs_look_221
                    · rw [if_pos h18] at hok
                      refine lv_aload_n hx hb d_Signs_look_167 rfl (lv_at hl 1 rfl) ?_
                      refine va_get (D := g) (ci := 6) (v := .ref a_tape) (C := R_Signs) (T := F_Signs) (N := 8) hx hb hg ul_Signs hown hK hP 7 rfl rfl 0 (by decide) (hg _ wd_447) (fun _ h9 => h9) rfl d_Signs_look_168 ?_
                      refine lv_aload_n hx hb d_Signs_look_171 rfl (lv_at hl 1 rfl) ?_
                      refine va_get (D := g) (ci := 6) (v := .int r2) (C := R_Signs) (T := F_Signs) (N := 8) hx hb hg ul_Signs hown hK hP 7 rfl rfl 3 (by decide) (hg _ wd_442) (fun _ h9 => h9) rfl d_Signs_look_172 ?_
                      refine lv_iconst (v := 1) hx hb d_Signs_look_175 (by decide) ?_
                      refine lv_iadd hx hb d_Signs_look_176 ?_
                      obtain ⟨r23, hc23, hok⟩ := bd_some hok
                      obtain ⟨hPc, hDc, hFc⟩ := cut0 (wc := [(a_tape, .inr (0, [.ref a_tape_items, .int a_tape_size])), (a_tape_items, .inl (cs 1, a_tape_items_n, .inl a_tape_items_f))]) hP hD hS hA [9, 8] (by decide) rfl
                      refine va_calli (va_runV (As := [.int (r2 + 1)]) (rest := []) ⟨hx, hb, hml, hown, hg⟩ (c_Bytes_at l g cs ka a_tape a_tape_items H.size (r2 + 1) a_tape_size a_tape_items_n a_tape_items_f r23 hc23) (cwV (C := R_Bytes) 1 hg (gw_V wd_455 wd_456 wd_457 wd_450 wd_454) rfl rfl rfl (by decide +kernel) ⟨Nat.le_of_ble_eq_true rfl, Nat.le_of_ble_eq_true rfl⟩) ⟨gP_blind, va_recv (q0 := 9) (ci := 0) (q := (R_Bytes, F_Bytes, 2)) hK hP rfl rfl, gP_pre hPc hDc hK hgl hkn hkr hS hFc⟩ rfl rfl hl.1 rfl (lv_room (Nat.le_of_ble_eq_true rfl)) d_Signs_look_177 ⟨show 0 + 0 + 0 + 0 + 0 + 0 + 0 + 0 + 0 ≤ mc from by omega, show 0 + 0 + 0 + 0 + 0 + 0 + 0 + 0 + 0 ≤ ms from by omega⟩) hS (fun q _ h => hFc q h) hFc (fun r23' u t H locs ht hvm hr23 hB hz1 hk1 hS => ?_)
                      subst hr23
                      rw [ht] at hB
                      obtain ⟨hP1, hD1⟩ := hB
                      obtain ⟨hP, hD⟩ := jn_A hP hD [9, 8] [0, 1, 2, 3, 4, 5, 6, 7] rfl rfl (by decide) (by decide) hk1 hFc hP1 hD1
                      obtain ⟨hP, hD⟩ : PD g A H [(a_names, .inr (2, [.ref a_names_texts, .int a_names_textsSize, .ref a_names_ends, .ref a_names_older, .ref a_names_newest, .int a_names_sizeBefore])), (a_names_texts, .inl (cs 1, a_names_texts_n, .inl a_names_texts_f)), (a_names_ends, .inr (1, [.ref a_names_ends_items, .int a_names_ends_size])), (a_names_ends_items, .inl (cs 0, a_names_ends_items_n, .inl a_names_ends_items_f)), (a_names_older, .inr (1, [.ref a_names_older_items, .int a_names_older_size])), (a_names_older_items, .inl (cs 0, a_names_older_items_n, .inl a_names_older_items_f)), (a_names_newest, .inl (cs 0, a_names_newest_n, .inl a_names_newest_f)), (a, .inr (6, [.ref a_tape, .ref a_names, .int a_kind, .int r2, .int a_behind, .int 0, .int a_name, .long a_number])), (a_tape, .inr (0, [.ref a_tape_items, .int a_tape_size])), (a_tape_items, .inl (cs 1, a_tape_items_n, .inl a_tape_items_f))] := ⟨hP, hD⟩
                      refine lv_bipush (v := 93) hx hb d_Signs_look_180 (by decide) ?_
                      refine lv_icmp_ne hx hb d_Signs_look_182 rfl (fun h24 => ?_) (fun h24 => ?_)
                      · rw [if_neg h24] at hok
                        refine lv_aload_n hx hb d_Signs_look_198 rfl (lv_at hl 1 rfl) ?_
                        refine lv_iload_n hx hb d_Signs_look_199 rfl (lv_at hl 0 rfl) ?_
                        obtain ⟨r25, hc25, hok⟩ := bd_some hok
                        obtain ⟨hPc, hDc, hFc⟩ := cut0 (wc := []) hP hD hS hA [] (by decide) rfl
                        refine va_calli (va_runS (As := [.int r3]) (rest := [.ref a]) ⟨hx, hb, hml, hown, hg⟩ (c_Letters_isMark l g cs ka H.size n r3 r25 hc25) (va_cwS 1 hg (gw_S wd_505 wd_506 wd_217 wd_504) rfl rfl rfl (by decide +kernel) ⟨Nat.le_of_ble_eq_true rfl, Nat.le_of_ble_eq_true rfl⟩) ⟨gP_blind, gP_pre hPc hDc hK hgl hkn hkr hS hFc⟩ rfl rfl hl.1 rfl (lv_room (Nat.le_of_ble_eq_true rfl)) d_Signs_look_200 ⟨show 0 + 0 + 0 + 0 + 0 + 0 + 0 + 0 + 0 + 0 ≤ mc from by omega, show 0 + 0 + 0 + 0 + 0 + 0 + 0 + 0 + 0 + 0 ≤ ms from by omega⟩) hS (fun q _ h => hFc q h) hFc (fun r25' u t H locs ht hvm hr25 hB hz1 hk1 hS => ?_)
                        subst hr25
                        rw [ht] at hB
                        obtain ⟨hP1, hD1⟩ := hB
                        obtain ⟨hP, hD⟩ := jn_A hP hD [] [0, 1, 2, 3, 4, 5, 6, 7, 8, 9] rfl rfl (by decide) (by decide) hk1 hFc hP1 hD1
                        obtain ⟨hP, hD⟩ : PD g A H [(a_names, .inr (2, [.ref a_names_texts, .int a_names_textsSize, .ref a_names_ends, .ref a_names_older, .ref a_names_newest, .int a_names_sizeBefore])), (a_names_texts, .inl (cs 1, a_names_texts_n, .inl a_names_texts_f)), (a_names_ends, .inr (1, [.ref a_names_ends_items, .int a_names_ends_size])), (a_names_ends_items, .inl (cs 0, a_names_ends_items_n, .inl a_names_ends_items_f)), (a_names_older, .inr (1, [.ref a_names_older_items, .int a_names_older_size])), (a_names_older_items, .inl (cs 0, a_names_older_items_n, .inl a_names_older_items_f)), (a_names_newest, .inl (cs 0, a_names_newest_n, .inl a_names_newest_f)), (a, .inr (6, [.ref a_tape, .ref a_names, .int a_kind, .int r2, .int a_behind, .int 0, .int a_name, .long a_number])), (a_tape, .inr (0, [.ref a_tape_items, .int a_tape_size])), (a_tape_items, .inl (cs 1, a_tape_items_n, .inl a_tape_items_f))] := ⟨hP, hD⟩
                        refine lv_if_eq hx hb d_Signs_look_203 rfl (fun h26 => ?_) (fun h26 => ?_)
                        · rw [if_pos h26] at hok
                          refine lv_bipush (v := 6) hx hb d_Signs_look_210 (by decide) ?_
                          refine lv_aload_n hx hb d_Signs_look_212 rfl (lv_at hl 1 rfl) ?_
                          refine va_get (D := g) (ci := 6) (v := .int r2) (C := R_Signs) (T := F_Signs) (N := 8) hx hb hg ul_Signs hown hK hP 7 rfl rfl 3 (by decide) (hg _ wd_442) (fun _ h9 => h9) rfl d_Signs_look_213 ?_
                          refine lv_iconst (v := 1) hx hb d_Signs_look_216 (by decide) ?_
                          refine lv_iadd hx hb d_Signs_look_217 ?_
                          obtain ⟨⟨a_kind_27, a_behind_27⟩, hc27, hok⟩ := bd_some hok
                          dsimp only at hok
                          obtain ⟨hPc, hDc, hFc⟩ := cut0 (wc := [(a, .inr (6, [.ref a_tape, .ref a_names, .int a_kind, .int r2, .int a_behind, .int 0, .int a_name, .long a_number]))]) hP hD hS hA [7] (by decide) rfl
                          refine va_callv (va_runV (As := [.int 6, .int (r2 + 1)]) (rest := []) ⟨hx, hb, hml, hown, hg⟩ (c_Signs_takeTo l g cs ka a_tape a_names a H.size (6 : Int32) (r2 + 1) a_kind r2 a_behind (0 : Int32) a_name a_number a_kind_27 a_behind_27 hc27) (cwV (C := R_Signs) 2 hg (gw_V wd_468 wd_469 wd_470 wd_467 wd_466) rfl rfl rfl (by decide +kernel) ⟨Nat.le_of_ble_eq_true rfl, Nat.le_of_ble_eq_true rfl⟩) ⟨gP_blind, va_recv (q0 := 7) (ci := 6) (q := (R_Signs, F_Signs, 8)) hK hP rfl rfl, gP_pre hPc hDc hK hgl hkn hkr hS hFc⟩ rfl rfl hl.1 rfl (lv_room (Nat.le_of_ble_eq_true rfl)) d_Signs_look_218 ⟨show 0 + 0 + 0 + 0 + 0 + 0 + 0 + 0 + 0 + 0 + 0 ≤ mc from by omega, show 0 + 0 + 0 + 0 + 0 + 0 + 0 + 0 + 0 + 0 + 0 ≤ ms from by omega⟩) hS (fun q _ h => hFc q h) hFc (fun u t H locs ht hvm hr27 hB hz1 hk1 hS => ?_)
                          rw [ht] at hB
                          obtain ⟨hP1, hD1⟩ := hB
                          obtain ⟨hP, hD⟩ := jn_A hP hD [7] [0, 1, 2, 3, 4, 5, 6, 8, 9] rfl rfl (by decide) (by decide) hk1 hFc hP1 hD1
                          obtain ⟨hP, hD⟩ : PD g A H [(a_names, .inr (2, [.ref a_names_texts, .int a_names_textsSize, .ref a_names_ends, .ref a_names_older, .ref a_names_newest, .int a_names_sizeBefore])), (a_names_texts, .inl (cs 1, a_names_texts_n, .inl a_names_texts_f)), (a_names_ends, .inr (1, [.ref a_names_ends_items, .int a_names_ends_size])), (a_names_ends_items, .inl (cs 0, a_names_ends_items_n, .inl a_names_ends_items_f)), (a_names_older, .inr (1, [.ref a_names_older_items, .int a_names_older_size])), (a_names_older_items, .inl (cs 0, a_names_older_items_n, .inl a_names_older_items_f)), (a_names_newest, .inl (cs 0, a_names_newest_n, .inl a_names_newest_f)), (a_tape, .inr (0, [.ref a_tape_items, .int a_tape_size])), (a_tape_items, .inl (cs 1, a_tape_items_n, .inl a_tape_items_f)), (a, .inr (6, [.ref a_tape, .ref a_names, .int a_kind_27, .int r2, .int a_behind_27, .int 0, .int a_name, .long a_number]))] := ⟨hP, hD⟩
                          obtain ⟨hq, hw⟩ := Prod.mk.inj (Option.some.inj hok)
                          obtain ⟨hmc0, hms0⟩ := Prod.mk.inj hw
                          obtain ⟨hq0, hq⟩ := Prod.mk.inj hq
                          obtain ⟨hq1, hq⟩ := Prod.mk.inj hq
                          obtain ⟨hq2, hq⟩ := Prod.mk.inj hq
                          obtain ⟨hq3, hq⟩ := Prod.mk.inj hq
                          obtain ⟨hq4, hq⟩ := Prod.mk.inj hq
                          obtain ⟨hq5, hq⟩ := Prod.mk.inj hq
                          obtain ⟨hq6, hq⟩ := Prod.mk.inj hq
                          obtain ⟨hq7, hq⟩ := Prod.mk.inj hq
                          obtain ⟨hq8, hq⟩ := Prod.mk.inj hq
                          obtain ⟨hq9, hq⟩ := Prod.mk.inj hq
                          obtain ⟨hq10, hq⟩ := Prod.mk.inj hq
                          obtain ⟨hq11, hq⟩ := Prod.mk.inj hq
                          obtain ⟨hq12, hq⟩ := Prod.mk.inj hq
                          obtain ⟨hq13, hq⟩ := Prod.mk.inj hq
                          obtain ⟨hq14, hq⟩ := Prod.mk.inj hq
                          have hq15 := hq
                          subst hq0
                          subst hq1
                          subst hq2
                          subst hq3
                          subst hq4
                          subst hq5
                          subst hq6
                          subst hq7
                          subst hq8
                          subst hq9
                          subst hq10
                          subst hq11
                          subst hq12
                          subst hq13
                          subst hq14
                          subst hq15
                          obtain ⟨hP9, hD9⟩ := sub2 (ws' := [(a, .inr (6, [.ref a_tape, .ref a_names, .int a_kind_27, .int r2, .int a_behind_27, .int 0, .int a_name, .long a_number])), (a_tape, .inr (0, [.ref a_tape_items, .int a_tape_size])), (a_tape_items, .inl (cs 1, a_tape_items_n, .inl a_tape_items_f)), (a_names, .inr (2, [.ref a_names_texts, .int a_names_textsSize, .ref a_names_ends, .ref a_names_older, .ref a_names_newest, .int a_names_sizeBefore])), (a_names_texts, .inl (cs 1, a_names_texts_n, .inl a_names_texts_f)), (a_names_ends, .inr (1, [.ref a_names_ends_items, .int a_names_ends_size])), (a_names_ends_items, .inl (cs 0, a_names_ends_items_n, .inl a_names_ends_items_f)), (a_names_older, .inr (1, [.ref a_names_older_items, .int a_names_older_size])), (a_names_older_items, .inl (cs 0, a_names_older_items_n, .inl a_names_older_items_f)), (a_names_newest, .inl (cs 0, a_names_newest_n, .inl a_names_newest_f))]) hP hD [9, 7, 8, 0, 1, 2, 3, 4, 5, 6] rfl (by decide) rfl
                          refine W.widen (k := mc) (n := ms) (by omega) (by omega) ?_
                          rw [hQ]
                          exact W.vret hx hb hr (fun t ht hW => ⟨⟨(), rfl, trivial, a_names_texts, a_names_ends_items, a_names_older_items, by rw [ht]; exact hP9, hD9⟩, hS.F ht⟩) hS.2.2 d_Signs_look_221
                        · rw [if_neg h26] at hok
                          refine lv_iload_n hx hb d_Signs_look_206 rfl (lv_at hl 0 rfl) ?_
                          refine lv_goto hx hb d_Signs_look_207 rfl ?_
                          refine lv_aload_n hx hb d_Signs_look_212 rfl (lv_at hl 1 rfl) ?_
                          refine va_get (D := g) (ci := 6) (v := .int r2) (C := R_Signs) (T := F_Signs) (N := 8) hx hb hg ul_Signs hown hK hP 7 rfl rfl 3 (by decide) (hg _ wd_442) (fun _ h9 => h9) rfl d_Signs_look_213 ?_
                          refine lv_iconst (v := 1) hx hb d_Signs_look_216 (by decide) ?_
                          refine lv_iadd hx hb d_Signs_look_217 ?_
                          obtain ⟨⟨a_kind_28, a_behind_28⟩, hc28, hok⟩ := bd_some hok
                          dsimp only at hok
                          obtain ⟨hPc, hDc, hFc⟩ := cut0 (wc := [(a, .inr (6, [.ref a_tape, .ref a_names, .int a_kind, .int r2, .int a_behind, .int 0, .int a_name, .long a_number]))]) hP hD hS hA [7] (by decide) rfl
                          refine va_callv (va_runV (As := [.int r3, .int (r2 + 1)]) (rest := []) ⟨hx, hb, hml, hown, hg⟩ (c_Signs_takeTo l g cs ka a_tape a_names a H.size r3 (r2 + 1) a_kind r2 a_behind (0 : Int32) a_name a_number a_kind_28 a_behind_28 hc28) (cwV (C := R_Signs) 2 hg (gw_V wd_468 wd_469 wd_470 wd_467 wd_466) rfl rfl rfl (by decide +kernel) ⟨Nat.le_of_ble_eq_true rfl, Nat.le_of_ble_eq_true rfl⟩) ⟨gP_blind, va_recv (q0 := 7) (ci := 6) (q := (R_Signs, F_Signs, 8)) hK hP rfl rfl, gP_pre hPc hDc hK hgl hkn hkr hS hFc⟩ rfl rfl hl.1 rfl (lv_room (Nat.le_of_ble_eq_true rfl)) d_Signs_look_218 ⟨show 0 + 0 + 0 + 0 + 0 + 0 + 0 + 0 + 0 + 0 + 0 ≤ mc from by omega, show 0 + 0 + 0 + 0 + 0 + 0 + 0 + 0 + 0 + 0 + 0 ≤ ms from by omega⟩) hS (fun q _ h => hFc q h) hFc (fun u t H locs ht hvm hr28 hB hz1 hk1 hS => ?_)
                          rw [ht] at hB
                          obtain ⟨hP1, hD1⟩ := hB
                          obtain ⟨hP, hD⟩ := jn_A hP hD [7] [0, 1, 2, 3, 4, 5, 6, 8, 9] rfl rfl (by decide) (by decide) hk1 hFc hP1 hD1
                          obtain ⟨hP, hD⟩ : PD g A H [(a_names, .inr (2, [.ref a_names_texts, .int a_names_textsSize, .ref a_names_ends, .ref a_names_older, .ref a_names_newest, .int a_names_sizeBefore])), (a_names_texts, .inl (cs 1, a_names_texts_n, .inl a_names_texts_f)), (a_names_ends, .inr (1, [.ref a_names_ends_items, .int a_names_ends_size])), (a_names_ends_items, .inl (cs 0, a_names_ends_items_n, .inl a_names_ends_items_f)), (a_names_older, .inr (1, [.ref a_names_older_items, .int a_names_older_size])), (a_names_older_items, .inl (cs 0, a_names_older_items_n, .inl a_names_older_items_f)), (a_names_newest, .inl (cs 0, a_names_newest_n, .inl a_names_newest_f)), (a_tape, .inr (0, [.ref a_tape_items, .int a_tape_size])), (a_tape_items, .inl (cs 1, a_tape_items_n, .inl a_tape_items_f)), (a, .inr (6, [.ref a_tape, .ref a_names, .int a_kind_28, .int r2, .int a_behind_28, .int 0, .int a_name, .long a_number]))] := ⟨hP, hD⟩
                          obtain ⟨hq, hw⟩ := Prod.mk.inj (Option.some.inj hok)
                          obtain ⟨hmc0, hms0⟩ := Prod.mk.inj hw
                          obtain ⟨hq0, hq⟩ := Prod.mk.inj hq
                          obtain ⟨hq1, hq⟩ := Prod.mk.inj hq
                          obtain ⟨hq2, hq⟩ := Prod.mk.inj hq
                          obtain ⟨hq3, hq⟩ := Prod.mk.inj hq
                          obtain ⟨hq4, hq⟩ := Prod.mk.inj hq
                          obtain ⟨hq5, hq⟩ := Prod.mk.inj hq
                          obtain ⟨hq6, hq⟩ := Prod.mk.inj hq
                          obtain ⟨hq7, hq⟩ := Prod.mk.inj hq
                          obtain ⟨hq8, hq⟩ := Prod.mk.inj hq
                          obtain ⟨hq9, hq⟩ := Prod.mk.inj hq
                          obtain ⟨hq10, hq⟩ := Prod.mk.inj hq
                          obtain ⟨hq11, hq⟩ := Prod.mk.inj hq
                          obtain ⟨hq12, hq⟩ := Prod.mk.inj hq
                          obtain ⟨hq13, hq⟩ := Prod.mk.inj hq
                          obtain ⟨hq14, hq⟩ := Prod.mk.inj hq
                          have hq15 := hq
                          subst hq0
                          subst hq1
                          subst hq2
                          subst hq3
                          subst hq4
                          subst hq5
                          subst hq6
                          subst hq7
                          subst hq8
                          subst hq9
                          subst hq10
                          subst hq11
                          subst hq12
                          subst hq13
                          subst hq14
                          subst hq15
                          obtain ⟨hP9, hD9⟩ := sub2 (ws' := [(a, .inr (6, [.ref a_tape, .ref a_names, .int a_kind_28, .int r2, .int a_behind_28, .int 0, .int a_name, .long a_number])), (a_tape, .inr (0, [.ref a_tape_items, .int a_tape_size])), (a_tape_items, .inl (cs 1, a_tape_items_n, .inl a_tape_items_f)), (a_names, .inr (2, [.ref a_names_texts, .int a_names_textsSize, .ref a_names_ends, .ref a_names_older, .ref a_names_newest, .int a_names_sizeBefore])), (a_names_texts, .inl (cs 1, a_names_texts_n, .inl a_names_texts_f)), (a_names_ends, .inr (1, [.ref a_names_ends_items, .int a_names_ends_size])), (a_names_ends_items, .inl (cs 0, a_names_ends_items_n, .inl a_names_ends_items_f)), (a_names_older, .inr (1, [.ref a_names_older_items, .int a_names_older_size])), (a_names_older_items, .inl (cs 0, a_names_older_items_n, .inl a_names_older_items_f)), (a_names_newest, .inl (cs 0, a_names_newest_n, .inl a_names_newest_f))]) hP hD [9, 7, 8, 0, 1, 2, 3, 4, 5, 6] rfl (by decide) rfl
                          refine W.widen (k := mc) (n := ms) (by omega) (by omega) ?_
                          rw [hQ]
                          exact W.vret hx hb hr (fun t ht hW => ⟨⟨(), rfl, trivial, a_names_texts, a_names_ends_items, a_names_older_items, by rw [ht]; exact hP9, hD9⟩, hS.F ht⟩) hS.2.2 d_Signs_look_221
                      · rw [if_pos h24] at hok
                        refine lv_aload_n hx hb d_Signs_look_185 rfl (lv_at hl 1 rfl) ?_
                        refine lv_aload_n hx hb d_Signs_look_186 rfl (lv_at hl 1 rfl) ?_
                        refine va_get (D := g) (ci := 6) (v := .int r2) (C := R_Signs) (T := F_Signs) (N := 8) hx hb hg ul_Signs hown hK hP 7 rfl rfl 3 (by decide) (hg _ wd_442) (fun _ h9 => h9) rfl d_Signs_look_187 ?_
                        refine lv_iconst (v := 2) hx hb d_Signs_look_190 (by decide) ?_
                        refine lv_iadd hx hb d_Signs_look_191 ?_
                        obtain ⟨⟨⟨a_kind_29, a_behind_29, a_name_29, a_names_textsSize_29, a_names_texts_n_29, a_names_texts_f_29, a_names_ends_size_29, a_names_ends_items_n_29, a_names_ends_items_f_29, a_names_older_size_29, a_names_older_items_n_29, a_names_older_items_f_29, a_names_newest_f_29⟩, mk29, sk29⟩, hc29, hok⟩ := bd_some hok
                        dsimp only at hok
                        obtain ⟨m29, s29, hok, hmc29, hms29⟩ := al_some hok
                        obtain ⟨hPc, hDc, hFc⟩ := cut0 (wc := [(a, .inr (6, [.ref a_tape, .ref a_names, .int a_kind, .int r2, .int a_behind, .int 0, .int a_name, .long a_number])), (a_tape, .inr (0, [.ref a_tape_items, .int a_tape_size])), (a_tape_items, .inl (cs 1, a_tape_items_n, .inl a_tape_items_f)), (a_names, .inr (2, [.ref a_names_texts, .int a_names_textsSize, .ref a_names_ends, .ref a_names_older, .ref a_names_newest, .int a_names_sizeBefore])), (a_names_texts, .inl (cs 1, a_names_texts_n, .inl a_names_texts_f)), (a_names_ends, .inr (1, [.ref a_names_ends_items, .int a_names_ends_size])), (a_names_ends_items, .inl (cs 0, a_names_ends_items_n, .inl a_names_ends_items_f)), (a_names_older, .inr (1, [.ref a_names_older_items, .int a_names_older_size])), (a_names_older_items, .inl (cs 0, a_names_older_items_n, .inl a_names_older_items_f)), (a_names_newest, .inl (cs 0, a_names_newest_n, .inl a_names_newest_f))]) hP hD hS hA [7, 8, 9, 0, 1, 2, 3, 4, 5, 6] (by decide) rfl
                        refine va_callv (va_runV (As := [.int (r2 + 2)]) (rest := []) ⟨hx, hb, hml, hown, hg⟩ (c_Signs_takeName l g cs ka a a_tape a_tape_items a_names a_names_texts a_names_ends a_names_ends_items a_names_older a_names_older_items a_names_newest H.size n (r2 + 2) a_kind r2 a_behind (0 : Int32) a_name a_number a_tape_size a_tape_items_n a_tape_items_f a_names_textsSize a_names_sizeBefore a_names_texts_n a_names_texts_f a_names_ends_size a_names_ends_items_n a_names_ends_items_f a_names_older_size a_names_older_items_n a_names_older_items_f a_names_newest_n a_names_newest_f a_kind_29 a_behind_29 a_name_29 a_names_textsSize_29 a_names_texts_n_29 a_names_texts_f_29 a_names_ends_size_29 a_names_ends_items_n_29 a_names_ends_items_f_29 a_names_older_size_29 a_names_older_items_n_29 a_names_older_items_f_29 a_names_newest_f_29 mk29 sk29 hc29) (cwV (C := R_Signs) 1 hg (gw_V wd_477 wd_478 wd_479 wd_467 wd_476) rfl rfl rfl (by decide +kernel) ⟨Nat.le_of_ble_eq_true rfl, Nat.le_of_ble_eq_true rfl⟩) ⟨gP_blind, va_recv (q0 := 7) (ci := 6) (q := (R_Signs, F_Signs, 8)) hK hP rfl rfl, gP_pre hPc hDc hK hgl hkn hkr hS hFc⟩ rfl rfl hl.1 rfl (lv_room (Nat.le_of_ble_eq_true rfl)) d_Signs_look_192 ⟨show 0 + 0 + 0 + 0 + 0 + 0 + 0 + 0 + 0 + mk29 ≤ mc from by omega, show 0 + 0 + 0 + 0 + 0 + 0 + 0 + 0 + 0 + sk29 ≤ ms from by omega⟩) hS (fun q _ h => hFc q h) hFc (fun u t H locs ht hvm hr29 hB hz1 hk1 hS => ?_)
                        rw [ht] at hB
                        obtain ⟨a_names_texts_29, a_names_ends_items_29, a_names_older_items_29, hP1, hD1⟩ := hB
                        obtain ⟨hP, hD⟩ := jn_A hP hD [7, 8, 9, 0, 1, 2, 3, 4, 5, 6] [] rfl rfl (by decide) (by decide) hk1 hFc hP1 hD1
                        obtain ⟨hP, hD⟩ : PD g A H [(a, .inr (6, [.ref a_tape, .ref a_names, .int a_kind_29, .int r2, .int a_behind_29, .int 0, .int a_name_29, .long a_number])), (a_tape, .inr (0, [.ref a_tape_items, .int a_tape_size])), (a_tape_items, .inl (cs 1, a_tape_items_n, .inl a_tape_items_f)), (a_names, .inr (2, [.ref a_names_texts_29, .int a_names_textsSize_29, .ref a_names_ends, .ref a_names_older, .ref a_names_newest, .int a_names_sizeBefore])), (a_names_texts_29, .inl (cs 1, a_names_texts_n_29, .inl a_names_texts_f_29)), (a_names_ends, .inr (1, [.ref a_names_ends_items_29, .int a_names_ends_size_29])), (a_names_ends_items_29, .inl (cs 0, a_names_ends_items_n_29, .inl a_names_ends_items_f_29)), (a_names_older, .inr (1, [.ref a_names_older_items_29, .int a_names_older_size_29])), (a_names_older_items_29, .inl (cs 0, a_names_older_items_n_29, .inl a_names_older_items_f_29)), (a_names_newest, .inl (cs 0, a_names_newest_n, .inl a_names_newest_f_29))] := ⟨hP, hD⟩
                        refine lv_goto hx hb d_Signs_look_195 rfl ?_
                        obtain ⟨hq, hw⟩ := Prod.mk.inj (Option.some.inj hok)
                        obtain ⟨hmc0, hms0⟩ := Prod.mk.inj hw
                        obtain ⟨hq0, hq⟩ := Prod.mk.inj hq
                        obtain ⟨hq1, hq⟩ := Prod.mk.inj hq
                        obtain ⟨hq2, hq⟩ := Prod.mk.inj hq
                        obtain ⟨hq3, hq⟩ := Prod.mk.inj hq
                        obtain ⟨hq4, hq⟩ := Prod.mk.inj hq
                        obtain ⟨hq5, hq⟩ := Prod.mk.inj hq
                        obtain ⟨hq6, hq⟩ := Prod.mk.inj hq
                        obtain ⟨hq7, hq⟩ := Prod.mk.inj hq
                        obtain ⟨hq8, hq⟩ := Prod.mk.inj hq
                        obtain ⟨hq9, hq⟩ := Prod.mk.inj hq
                        obtain ⟨hq10, hq⟩ := Prod.mk.inj hq
                        obtain ⟨hq11, hq⟩ := Prod.mk.inj hq
                        obtain ⟨hq12, hq⟩ := Prod.mk.inj hq
                        obtain ⟨hq13, hq⟩ := Prod.mk.inj hq
                        obtain ⟨hq14, hq⟩ := Prod.mk.inj hq
                        have hq15 := hq
                        subst hq0
                        subst hq1
                        subst hq2
                        subst hq3
                        subst hq4
                        subst hq5
                        subst hq6
                        subst hq7
                        subst hq8
                        subst hq9
                        subst hq10
                        subst hq11
                        subst hq12
                        subst hq13
                        subst hq14
                        subst hq15
                        obtain ⟨hP9, hD9⟩ := sub2 (ws' := [(a, .inr (6, [.ref a_tape, .ref a_names, .int a_kind_29, .int r2, .int a_behind_29, .int 0, .int a_name_29, .long a_number])), (a_tape, .inr (0, [.ref a_tape_items, .int a_tape_size])), (a_tape_items, .inl (cs 1, a_tape_items_n, .inl a_tape_items_f)), (a_names, .inr (2, [.ref a_names_texts_29, .int a_names_textsSize_29, .ref a_names_ends, .ref a_names_older, .ref a_names_newest, .int a_names_sizeBefore])), (a_names_texts_29, .inl (cs 1, a_names_texts_n_29, .inl a_names_texts_f_29)), (a_names_ends, .inr (1, [.ref a_names_ends_items_29, .int a_names_ends_size_29])), (a_names_ends_items_29, .inl (cs 0, a_names_ends_items_n_29, .inl a_names_ends_items_f_29)), (a_names_older, .inr (1, [.ref a_names_older_items_29, .int a_names_older_size_29])), (a_names_older_items_29, .inl (cs 0, a_names_older_items_n_29, .inl a_names_older_items_f_29)), (a_names_newest, .inl (cs 0, a_names_newest_n, .inl a_names_newest_f_29))]) hP hD [0, 1, 2, 3, 4, 5, 6, 7, 8, 9] rfl (by decide) rfl
                        refine W.widen (k := mc) (n := ms) (by omega) (by omega) ?_
                        rw [hQ]
                        exact W.vret hx hb hr (fun t ht hW => ⟨⟨(), rfl, trivial, a_names_texts_29, a_names_ends_items_29, a_names_older_items_29, by rw [ht]; exact hP9, hD9⟩, hS.F ht⟩) hS.2.2 d_Signs_look_221
                  · rw [if_pos h17] at hok
                    refine lv_aload_n hx hb d_Signs_look_148 rfl (lv_at hl 1 rfl) ?_
                    refine lv_aload_n hx hb d_Signs_look_149 rfl (lv_at hl 1 rfl) ?_
                    refine va_get (D := g) (ci := 6) (v := .int r2) (C := R_Signs) (T := F_Signs) (N := 8) hx hb hg ul_Signs hown hK hP 7 rfl rfl 3 (by decide) (hg _ wd_442) (fun _ h9 => h9) rfl d_Signs_look_150 ?_
                    refine lv_iconst (v := 1) hx hb d_Signs_look_153 (by decide) ?_
                    refine lv_iadd hx hb d_Signs_look_154 ?_
                    obtain ⟨⟨⟨a_kind_30, a_behind_30, a_name_30, a_names_textsSize_30, a_names_texts_n_30, a_names_texts_f_30, a_names_ends_size_30, a_names_ends_items_n_30, a_names_ends_items_f_30, a_names_older_size_30, a_names_older_items_n_30, a_names_older_items_f_30, a_names_newest_f_30⟩, mk30, sk30⟩, hc30, hok⟩ := bd_some hok
                    dsimp only at hok
                    obtain ⟨m30, s30, hok, hmc30, hms30⟩ := al_some hok
                    obtain ⟨hPc, hDc, hFc⟩ := cut0 (wc := [(a, .inr (6, [.ref a_tape, .ref a_names, .int a_kind, .int r2, .int a_behind, .int 0, .int a_name, .long a_number])), (a_tape, .inr (0, [.ref a_tape_items, .int a_tape_size])), (a_tape_items, .inl (cs 1, a_tape_items_n, .inl a_tape_items_f)), (a_names, .inr (2, [.ref a_names_texts, .int a_names_textsSize, .ref a_names_ends, .ref a_names_older, .ref a_names_newest, .int a_names_sizeBefore])), (a_names_texts, .inl (cs 1, a_names_texts_n, .inl a_names_texts_f)), (a_names_ends, .inr (1, [.ref a_names_ends_items, .int a_names_ends_size])), (a_names_ends_items, .inl (cs 0, a_names_ends_items_n, .inl a_names_ends_items_f)), (a_names_older, .inr (1, [.ref a_names_older_items, .int a_names_older_size])), (a_names_older_items, .inl (cs 0, a_names_older_items_n, .inl a_names_older_items_f)), (a_names_newest, .inl (cs 0, a_names_newest_n, .inl a_names_newest_f))]) hP hD hS hA [7, 9, 8, 0, 1, 2, 3, 4, 5, 6] (by decide) rfl
                    refine va_callv (va_runV (As := [.int (r2 + 1)]) (rest := []) ⟨hx, hb, hml, hown, hg⟩ (c_Signs_takeName l g cs ka a a_tape a_tape_items a_names a_names_texts a_names_ends a_names_ends_items a_names_older a_names_older_items a_names_newest H.size n (r2 + 1) a_kind r2 a_behind (0 : Int32) a_name a_number a_tape_size a_tape_items_n a_tape_items_f a_names_textsSize a_names_sizeBefore a_names_texts_n a_names_texts_f a_names_ends_size a_names_ends_items_n a_names_ends_items_f a_names_older_size a_names_older_items_n a_names_older_items_f a_names_newest_n a_names_newest_f a_kind_30 a_behind_30 a_name_30 a_names_textsSize_30 a_names_texts_n_30 a_names_texts_f_30 a_names_ends_size_30 a_names_ends_items_n_30 a_names_ends_items_f_30 a_names_older_size_30 a_names_older_items_n_30 a_names_older_items_f_30 a_names_newest_f_30 mk30 sk30 hc30) (cwV (C := R_Signs) 1 hg (gw_V wd_477 wd_478 wd_479 wd_467 wd_476) rfl rfl rfl (by decide +kernel) ⟨Nat.le_of_ble_eq_true rfl, Nat.le_of_ble_eq_true rfl⟩) ⟨gP_blind, va_recv (q0 := 7) (ci := 6) (q := (R_Signs, F_Signs, 8)) hK hP rfl rfl, gP_pre hPc hDc hK hgl hkn hkr hS hFc⟩ rfl rfl hl.1 rfl (lv_room (Nat.le_of_ble_eq_true rfl)) d_Signs_look_155 ⟨show 0 + 0 + 0 + 0 + 0 + 0 + 0 + 0 + mk30 ≤ mc from by omega, show 0 + 0 + 0 + 0 + 0 + 0 + 0 + 0 + sk30 ≤ ms from by omega⟩) hS (fun q _ h => hFc q h) hFc (fun u t H locs ht hvm hr30 hB hz1 hk1 hS => ?_)
                    rw [ht] at hB
                    obtain ⟨a_names_texts_30, a_names_ends_items_30, a_names_older_items_30, hP1, hD1⟩ := hB
                    obtain ⟨hP, hD⟩ := jn_A hP hD [7, 9, 8, 0, 1, 2, 3, 4, 5, 6] [] rfl rfl (by decide) (by decide) hk1 hFc hP1 hD1
                    obtain ⟨hP, hD⟩ : PD g A H [(a, .inr (6, [.ref a_tape, .ref a_names, .int a_kind_30, .int r2, .int a_behind_30, .int 0, .int a_name_30, .long a_number])), (a_tape, .inr (0, [.ref a_tape_items, .int a_tape_size])), (a_tape_items, .inl (cs 1, a_tape_items_n, .inl a_tape_items_f)), (a_names, .inr (2, [.ref a_names_texts_30, .int a_names_textsSize_30, .ref a_names_ends, .ref a_names_older, .ref a_names_newest, .int a_names_sizeBefore])), (a_names_texts_30, .inl (cs 1, a_names_texts_n_30, .inl a_names_texts_f_30)), (a_names_ends, .inr (1, [.ref a_names_ends_items_30, .int a_names_ends_size_30])), (a_names_ends_items_30, .inl (cs 0, a_names_ends_items_n_30, .inl a_names_ends_items_f_30)), (a_names_older, .inr (1, [.ref a_names_older_items_30, .int a_names_older_size_30])), (a_names_older_items_30, .inl (cs 0, a_names_older_items_n_30, .inl a_names_older_items_f_30)), (a_names_newest, .inl (cs 0, a_names_newest_n, .inl a_names_newest_f_30))] := ⟨hP, hD⟩
                    refine lv_goto hx hb d_Signs_look_158 rfl ?_
                    obtain ⟨hq, hw⟩ := Prod.mk.inj (Option.some.inj hok)
                    obtain ⟨hmc0, hms0⟩ := Prod.mk.inj hw
                    obtain ⟨hq0, hq⟩ := Prod.mk.inj hq
                    obtain ⟨hq1, hq⟩ := Prod.mk.inj hq
                    obtain ⟨hq2, hq⟩ := Prod.mk.inj hq
                    obtain ⟨hq3, hq⟩ := Prod.mk.inj hq
                    obtain ⟨hq4, hq⟩ := Prod.mk.inj hq
                    obtain ⟨hq5, hq⟩ := Prod.mk.inj hq
                    obtain ⟨hq6, hq⟩ := Prod.mk.inj hq
                    obtain ⟨hq7, hq⟩ := Prod.mk.inj hq
                    obtain ⟨hq8, hq⟩ := Prod.mk.inj hq
                    obtain ⟨hq9, hq⟩ := Prod.mk.inj hq
                    obtain ⟨hq10, hq⟩ := Prod.mk.inj hq
                    obtain ⟨hq11, hq⟩ := Prod.mk.inj hq
                    obtain ⟨hq12, hq⟩ := Prod.mk.inj hq
                    obtain ⟨hq13, hq⟩ := Prod.mk.inj hq
                    obtain ⟨hq14, hq⟩ := Prod.mk.inj hq
                    have hq15 := hq
                    subst hq0
                    subst hq1
                    subst hq2
                    subst hq3
                    subst hq4
                    subst hq5
                    subst hq6
                    subst hq7
                    subst hq8
                    subst hq9
                    subst hq10
                    subst hq11
                    subst hq12
                    subst hq13
                    subst hq14
                    subst hq15
                    obtain ⟨hP9, hD9⟩ := sub2 (ws' := [(a, .inr (6, [.ref a_tape, .ref a_names, .int a_kind_30, .int r2, .int a_behind_30, .int 0, .int a_name_30, .long a_number])), (a_tape, .inr (0, [.ref a_tape_items, .int a_tape_size])), (a_tape_items, .inl (cs 1, a_tape_items_n, .inl a_tape_items_f)), (a_names, .inr (2, [.ref a_names_texts_30, .int a_names_textsSize_30, .ref a_names_ends, .ref a_names_older, .ref a_names_newest, .int a_names_sizeBefore])), (a_names_texts_30, .inl (cs 1, a_names_texts_n_30, .inl a_names_texts_f_30)), (a_names_ends, .inr (1, [.ref a_names_ends_items_30, .int a_names_ends_size_30])), (a_names_ends_items_30, .inl (cs 0, a_names_ends_items_n_30, .inl a_names_ends_items_f_30)), (a_names_older, .inr (1, [.ref a_names_older_items_30, .int a_names_older_size_30])), (a_names_older_items_30, .inl (cs 0, a_names_older_items_n_30, .inl a_names_older_items_f_30)), (a_names_newest, .inl (cs 0, a_names_newest_n, .inl a_names_newest_f_30))]) hP hD [0, 1, 2, 3, 4, 5, 6, 7, 8, 9] rfl (by decide) rfl
                    refine W.widen (k := mc) (n := ms) (by omega) (by omega) ?_
                    rw [hQ]
                    exact W.vret hx hb hr (fun t ht hW => ⟨⟨(), rfl, trivial, a_names_texts_30, a_names_ends_items_30, a_names_older_items_30, by rw [ht]; exact hP9, hD9⟩, hS.F ht⟩) hS.2.2 d_Signs_look_221
              · rw [if_neg h14] at hok
                refine lv_aload_n hx hb d_Signs_look_129 rfl (lv_at hl 1 rfl) ?_
                obtain ⟨⟨⟨a_kind_31, a_behind_31, a_name_31, a_names_textsSize_31, a_names_texts_n_31, a_names_texts_f_31, a_names_ends_size_31, a_names_ends_items_n_31, a_names_ends_items_f_31, a_names_older_size_31, a_names_older_items_n_31, a_names_older_items_f_31, a_names_newest_f_31⟩, mk31, sk31⟩, hc31, hok⟩ := bd_some hok
                dsimp only at hok
                obtain ⟨m31, s31, hok, hmc31, hms31⟩ := al_some hok
                obtain ⟨hPc, hDc, hFc⟩ := cut0 (wc := [(a, .inr (6, [.ref a_tape, .ref a_names, .int a_kind, .int r2, .int a_behind, .int 0, .int a_name, .long a_number])), (a_tape, .inr (0, [.ref a_tape_items, .int a_tape_size])), (a_tape_items, .inl (cs 1, a_tape_items_n, .inl a_tape_items_f)), (a_names, .inr (2, [.ref a_names_texts, .int a_names_textsSize, .ref a_names_ends, .ref a_names_older, .ref a_names_newest, .int a_names_sizeBefore])), (a_names_texts, .inl (cs 1, a_names_texts_n, .inl a_names_texts_f)), (a_names_ends, .inr (1, [.ref a_names_ends_items, .int a_names_ends_size])), (a_names_ends_items, .inl (cs 0, a_names_ends_items_n, .inl a_names_ends_items_f)), (a_names_older, .inr (1, [.ref a_names_older_items, .int a_names_older_size])), (a_names_older_items, .inl (cs 0, a_names_older_items_n, .inl a_names_older_items_f)), (a_names_newest, .inl (cs 0, a_names_newest_n, .inl a_names_newest_f))]) hP hD hS hA [7, 9, 8, 0, 1, 2, 3, 4, 5, 6] (by decide) rfl
                refine va_callv (va_runV (As := []) (rest := []) ⟨hx, hb, hml, hown, hg⟩ (c_Signs_takeSymbols l g cs ka a a_tape a_tape_items a_names a_names_texts a_names_ends a_names_ends_items a_names_older a_names_older_items a_names_newest H.size n a_kind r2 a_behind (0 : Int32) a_name a_number a_tape_size a_tape_items_n a_tape_items_f a_names_textsSize a_names_sizeBefore a_names_texts_n a_names_texts_f a_names_ends_size a_names_ends_items_n a_names_ends_items_f a_names_older_size a_names_older_items_n a_names_older_items_f a_names_newest_n a_names_newest_f a_kind_31 a_behind_31 a_name_31 a_names_textsSize_31 a_names_texts_n_31 a_names_texts_f_31 a_names_ends_size_31 a_names_ends_items_n_31 a_names_ends_items_f_31 a_names_older_size_31 a_names_older_items_n_31 a_names_older_items_f_31 a_names_newest_f_31 mk31 sk31 hc31) (cwV (C := R_Signs) 0 hg (gw_V wd_508 wd_509 wd_510 wd_467 wd_507) rfl rfl rfl (by decide +kernel) ⟨Nat.le_of_ble_eq_true rfl, Nat.le_of_ble_eq_true rfl⟩) ⟨gP_blind, va_recv (q0 := 7) (ci := 6) (q := (R_Signs, F_Signs, 8)) hK hP rfl rfl, gP_pre hPc hDc hK hgl hkn hkr hS hFc⟩ rfl rfl hl.1 rfl (lv_room (Nat.le_of_ble_eq_true rfl)) d_Signs_look_130 ⟨show 0 + 0 + 0 + 0 + 0 + 0 + 0 + 0 + mk31 ≤ mc from by omega, show 0 + 0 + 0 + 0 + 0 + 0 + 0 + 0 + sk31 ≤ ms from by omega⟩) hS (fun q _ h => hFc q h) hFc (fun u t H locs ht hvm hr31 hB hz1 hk1 hS => ?_)
                rw [ht] at hB
                obtain ⟨a_names_texts_31, a_names_ends_items_31, a_names_older_items_31, hP1, hD1⟩ := hB
                obtain ⟨hP, hD⟩ := jn_A hP hD [7, 9, 8, 0, 1, 2, 3, 4, 5, 6] [] rfl rfl (by decide) (by decide) hk1 hFc hP1 hD1
                obtain ⟨hP, hD⟩ : PD g A H [(a, .inr (6, [.ref a_tape, .ref a_names, .int a_kind_31, .int r2, .int a_behind_31, .int 0, .int a_name_31, .long a_number])), (a_tape, .inr (0, [.ref a_tape_items, .int a_tape_size])), (a_tape_items, .inl (cs 1, a_tape_items_n, .inl a_tape_items_f)), (a_names, .inr (2, [.ref a_names_texts_31, .int a_names_textsSize_31, .ref a_names_ends, .ref a_names_older, .ref a_names_newest, .int a_names_sizeBefore])), (a_names_texts_31, .inl (cs 1, a_names_texts_n_31, .inl a_names_texts_f_31)), (a_names_ends, .inr (1, [.ref a_names_ends_items_31, .int a_names_ends_size_31])), (a_names_ends_items_31, .inl (cs 0, a_names_ends_items_n_31, .inl a_names_ends_items_f_31)), (a_names_older, .inr (1, [.ref a_names_older_items_31, .int a_names_older_size_31])), (a_names_older_items_31, .inl (cs 0, a_names_older_items_n_31, .inl a_names_older_items_f_31)), (a_names_newest, .inl (cs 0, a_names_newest_n, .inl a_names_newest_f_31))] := ⟨hP, hD⟩
                refine lv_goto hx hb d_Signs_look_133 rfl ?_
                obtain ⟨hq, hw⟩ := Prod.mk.inj (Option.some.inj hok)
                obtain ⟨hmc0, hms0⟩ := Prod.mk.inj hw
                obtain ⟨hq0, hq⟩ := Prod.mk.inj hq
                obtain ⟨hq1, hq⟩ := Prod.mk.inj hq
                obtain ⟨hq2, hq⟩ := Prod.mk.inj hq
                obtain ⟨hq3, hq⟩ := Prod.mk.inj hq
                obtain ⟨hq4, hq⟩ := Prod.mk.inj hq
                obtain ⟨hq5, hq⟩ := Prod.mk.inj hq
                obtain ⟨hq6, hq⟩ := Prod.mk.inj hq
                obtain ⟨hq7, hq⟩ := Prod.mk.inj hq
                obtain ⟨hq8, hq⟩ := Prod.mk.inj hq
                obtain ⟨hq9, hq⟩ := Prod.mk.inj hq
                obtain ⟨hq10, hq⟩ := Prod.mk.inj hq
                obtain ⟨hq11, hq⟩ := Prod.mk.inj hq
                obtain ⟨hq12, hq⟩ := Prod.mk.inj hq
                obtain ⟨hq13, hq⟩ := Prod.mk.inj hq
                obtain ⟨hq14, hq⟩ := Prod.mk.inj hq
                have hq15 := hq
                subst hq0
                subst hq1
                subst hq2
                subst hq3
                subst hq4
                subst hq5
                subst hq6
                subst hq7
                subst hq8
                subst hq9
                subst hq10
                subst hq11
                subst hq12
                subst hq13
                subst hq14
                subst hq15
                obtain ⟨hP9, hD9⟩ := sub2 (ws' := [(a, .inr (6, [.ref a_tape, .ref a_names, .int a_kind_31, .int r2, .int a_behind_31, .int 0, .int a_name_31, .long a_number])), (a_tape, .inr (0, [.ref a_tape_items, .int a_tape_size])), (a_tape_items, .inl (cs 1, a_tape_items_n, .inl a_tape_items_f)), (a_names, .inr (2, [.ref a_names_texts_31, .int a_names_textsSize_31, .ref a_names_ends, .ref a_names_older, .ref a_names_newest, .int a_names_sizeBefore])), (a_names_texts_31, .inl (cs 1, a_names_texts_n_31, .inl a_names_texts_f_31)), (a_names_ends, .inr (1, [.ref a_names_ends_items_31, .int a_names_ends_size_31])), (a_names_ends_items_31, .inl (cs 0, a_names_ends_items_n_31, .inl a_names_ends_items_f_31)), (a_names_older, .inr (1, [.ref a_names_older_items_31, .int a_names_older_size_31])), (a_names_older_items_31, .inl (cs 0, a_names_older_items_n_31, .inl a_names_older_items_f_31)), (a_names_newest, .inl (cs 0, a_names_newest_n, .inl a_names_newest_f_31))]) hP hD [0, 1, 2, 3, 4, 5, 6, 7, 8, 9] rfl (by decide) rfl
                refine W.widen (k := mc) (n := ms) (by omega) (by omega) ?_
                rw [hQ]
                exact W.vret hx hb hr (fun t ht hW => ⟨⟨(), rfl, trivial, a_names_texts_31, a_names_ends_items_31, a_names_older_items_31, by rw [ht]; exact hP9, hD9⟩, hS.F ht⟩) hS.2.2 d_Signs_look_221
            · rw [if_pos h12] at hok
              refine lv_aload_n hx hb d_Signs_look_115 rfl (lv_at hl 1 rfl) ?_
              obtain ⟨⟨⟨a_kind_32, a_behind_32, a_name_32, a_names_textsSize_32, a_names_texts_n_32, a_names_texts_f_32, a_names_ends_size_32, a_names_ends_items_n_32, a_names_ends_items_f_32, a_names_older_size_32, a_names_older_items_n_32, a_names_older_items_f_32, a_names_newest_f_32⟩, mk32, sk32⟩, hc32, hok⟩ := bd_some hok
              dsimp only at hok
              obtain ⟨m32, s32, hok, hmc32, hms32⟩ := al_some hok
              obtain ⟨hPc, hDc, hFc⟩ := cut0 (wc := [(a, .inr (6, [.ref a_tape, .ref a_names, .int a_kind, .int r2, .int a_behind, .int 0, .int a_name, .long a_number])), (a_tape, .inr (0, [.ref a_tape_items, .int a_tape_size])), (a_tape_items, .inl (cs 1, a_tape_items_n, .inl a_tape_items_f)), (a_names, .inr (2, [.ref a_names_texts, .int a_names_textsSize, .ref a_names_ends, .ref a_names_older, .ref a_names_newest, .int a_names_sizeBefore])), (a_names_texts, .inl (cs 1, a_names_texts_n, .inl a_names_texts_f)), (a_names_ends, .inr (1, [.ref a_names_ends_items, .int a_names_ends_size])), (a_names_ends_items, .inl (cs 0, a_names_ends_items_n, .inl a_names_ends_items_f)), (a_names_older, .inr (1, [.ref a_names_older_items, .int a_names_older_size])), (a_names_older_items, .inl (cs 0, a_names_older_items_n, .inl a_names_older_items_f)), (a_names_newest, .inl (cs 0, a_names_newest_n, .inl a_names_newest_f))]) hP hD hS hA [7, 9, 8, 0, 1, 2, 3, 4, 5, 6] (by decide) rfl
              refine va_callv (va_runV (As := []) (rest := []) ⟨hx, hb, hml, hown, hg⟩ (c_Signs_takeQuoted l g cs ka a a_tape a_tape_items a_names a_names_texts a_names_ends a_names_ends_items a_names_older a_names_older_items a_names_newest H.size n a_kind r2 a_behind (0 : Int32) a_name a_number a_tape_size a_tape_items_n a_tape_items_f a_names_textsSize a_names_sizeBefore a_names_texts_n a_names_texts_f a_names_ends_size a_names_ends_items_n a_names_ends_items_f a_names_older_size a_names_older_items_n a_names_older_items_f a_names_newest_n a_names_newest_f a_kind_32 a_behind_32 a_name_32 a_names_textsSize_32 a_names_texts_n_32 a_names_texts_f_32 a_names_ends_size_32 a_names_ends_items_n_32 a_names_ends_items_f_32 a_names_older_size_32 a_names_older_items_n_32 a_names_older_items_f_32 a_names_newest_f_32 mk32 sk32 hc32) (cwV (C := R_Signs) 0 hg (gw_V wd_512 wd_513 wd_514 wd_467 wd_511) rfl rfl rfl (by decide +kernel) ⟨Nat.le_of_ble_eq_true rfl, Nat.le_of_ble_eq_true rfl⟩) ⟨gP_blind, va_recv (q0 := 7) (ci := 6) (q := (R_Signs, F_Signs, 8)) hK hP rfl rfl, gP_pre hPc hDc hK hgl hkn hkr hS hFc⟩ rfl rfl hl.1 rfl (lv_room (Nat.le_of_ble_eq_true rfl)) d_Signs_look_116 ⟨show 0 + 0 + 0 + 0 + 0 + 0 + 0 + mk32 ≤ mc from by omega, show 0 + 0 + 0 + 0 + 0 + 0 + 0 + sk32 ≤ ms from by omega⟩) hS (fun q _ h => hFc q h) hFc (fun u t H locs ht hvm hr32 hB hz1 hk1 hS => ?_)
              rw [ht] at hB
              obtain ⟨a_names_texts_32, a_names_ends_items_32, a_names_older_items_32, hP1, hD1⟩ := hB
              obtain ⟨hP, hD⟩ := jn_A hP hD [7, 9, 8, 0, 1, 2, 3, 4, 5, 6] [] rfl rfl (by decide) (by decide) hk1 hFc hP1 hD1
              obtain ⟨hP, hD⟩ : PD g A H [(a, .inr (6, [.ref a_tape, .ref a_names, .int a_kind_32, .int r2, .int a_behind_32, .int 0, .int a_name_32, .long a_number])), (a_tape, .inr (0, [.ref a_tape_items, .int a_tape_size])), (a_tape_items, .inl (cs 1, a_tape_items_n, .inl a_tape_items_f)), (a_names, .inr (2, [.ref a_names_texts_32, .int a_names_textsSize_32, .ref a_names_ends, .ref a_names_older, .ref a_names_newest, .int a_names_sizeBefore])), (a_names_texts_32, .inl (cs 1, a_names_texts_n_32, .inl a_names_texts_f_32)), (a_names_ends, .inr (1, [.ref a_names_ends_items_32, .int a_names_ends_size_32])), (a_names_ends_items_32, .inl (cs 0, a_names_ends_items_n_32, .inl a_names_ends_items_f_32)), (a_names_older, .inr (1, [.ref a_names_older_items_32, .int a_names_older_size_32])), (a_names_older_items_32, .inl (cs 0, a_names_older_items_n_32, .inl a_names_older_items_f_32)), (a_names_newest, .inl (cs 0, a_names_newest_n, .inl a_names_newest_f_32))] := ⟨hP, hD⟩
              refine lv_goto hx hb d_Signs_look_119 rfl ?_
              obtain ⟨hq, hw⟩ := Prod.mk.inj (Option.some.inj hok)
              obtain ⟨hmc0, hms0⟩ := Prod.mk.inj hw
              obtain ⟨hq0, hq⟩ := Prod.mk.inj hq
              obtain ⟨hq1, hq⟩ := Prod.mk.inj hq
              obtain ⟨hq2, hq⟩ := Prod.mk.inj hq
              obtain ⟨hq3, hq⟩ := Prod.mk.inj hq
              obtain ⟨hq4, hq⟩ := Prod.mk.inj hq
              obtain ⟨hq5, hq⟩ := Prod.mk.inj hq
              obtain ⟨hq6, hq⟩ := Prod.mk.inj hq
              obtain ⟨hq7, hq⟩ := Prod.mk.inj hq
              obtain ⟨hq8, hq⟩ := Prod.mk.inj hq
              obtain ⟨hq9, hq⟩ := Prod.mk.inj hq
              obtain ⟨hq10, hq⟩ := Prod.mk.inj hq
              obtain ⟨hq11, hq⟩ := Prod.mk.inj hq
              obtain ⟨hq12, hq⟩ := Prod.mk.inj hq
              obtain ⟨hq13, hq⟩ := Prod.mk.inj hq
              obtain ⟨hq14, hq⟩ := Prod.mk.inj hq
              have hq15 := hq
              subst hq0
              subst hq1
              subst hq2
              subst hq3
              subst hq4
              subst hq5
              subst hq6
              subst hq7
              subst hq8
              subst hq9
              subst hq10
              subst hq11
              subst hq12
              subst hq13
              subst hq14
              subst hq15
              obtain ⟨hP9, hD9⟩ := sub2 (ws' := [(a, .inr (6, [.ref a_tape, .ref a_names, .int a_kind_32, .int r2, .int a_behind_32, .int 0, .int a_name_32, .long a_number])), (a_tape, .inr (0, [.ref a_tape_items, .int a_tape_size])), (a_tape_items, .inl (cs 1, a_tape_items_n, .inl a_tape_items_f)), (a_names, .inr (2, [.ref a_names_texts_32, .int a_names_textsSize_32, .ref a_names_ends, .ref a_names_older, .ref a_names_newest, .int a_names_sizeBefore])), (a_names_texts_32, .inl (cs 1, a_names_texts_n_32, .inl a_names_texts_f_32)), (a_names_ends, .inr (1, [.ref a_names_ends_items_32, .int a_names_ends_size_32])), (a_names_ends_items_32, .inl (cs 0, a_names_ends_items_n_32, .inl a_names_ends_items_f_32)), (a_names_older, .inr (1, [.ref a_names_older_items_32, .int a_names_older_size_32])), (a_names_older_items_32, .inl (cs 0, a_names_older_items_n_32, .inl a_names_older_items_f_32)), (a_names_newest, .inl (cs 0, a_names_newest_n, .inl a_names_newest_f_32))]) hP hD [0, 1, 2, 3, 4, 5, 6, 7, 8, 9] rfl (by decide) rfl
              refine W.widen (k := mc) (n := ms) (by omega) (by omega) ?_
              rw [hQ]
              exact W.vret hx hb hr (fun t ht hW => ⟨⟨(), rfl, trivial, a_names_texts_32, a_names_ends_items_32, a_names_older_items_32, by rw [ht]; exact hP9, hD9⟩, hS.F ht⟩) hS.2.2 d_Signs_look_221
          · rw [if_neg h11] at hok
            refine lv_aload_n hx hb d_Signs_look_102 rfl (lv_at hl 1 rfl) ?_
            obtain ⟨⟨a_kind_33, a_behind_33, a_number_33⟩, hc33, hok⟩ := bd_some hok
            dsimp only at hok
            obtain ⟨hPc, hDc, hFc⟩ := cut0 (wc := [(a, .inr (6, [.ref a_tape, .ref a_names, .int a_kind, .int r2, .int a_behind, .int 0, .int a_name, .long a_number])), (a_tape, .inr (0, [.ref a_tape_items, .int a_tape_size])), (a_tape_items, .inl (cs 1, a_tape_items_n, .inl a_tape_items_f))]) hP hD hS hA [7, 9, 8] (by decide) rfl
            refine va_callv (va_runV (As := []) (rest := []) ⟨hx, hb, hml, hown, hg⟩ (c_Signs_takeInteger l g cs ka a_names a a_tape a_tape_items H.size n a_kind r2 a_behind (0 : Int32) a_name a_number a_tape_size a_tape_items_n a_tape_items_f a_kind_33 a_behind_33 a_number_33 hc33) (cwV (C := R_Signs) 0 hg (gw_V wd_516 wd_517 wd_518 wd_467 wd_515) rfl rfl rfl (by decide +kernel) ⟨Nat.le_of_ble_eq_true rfl, Nat.le_of_ble_eq_true rfl⟩) ⟨gP_blind, va_recv (q0 := 7) (ci := 6) (q := (R_Signs, F_Signs, 8)) hK hP rfl rfl, gP_pre hPc hDc hK hgl hkn hkr hS hFc⟩ rfl rfl hl.1 rfl (lv_room (Nat.le_of_ble_eq_true rfl)) d_Signs_look_103 ⟨show 0 + 0 + 0 + 0 + 0 + 0 + 0 + 0 ≤ mc from by omega, show 0 + 0 + 0 + 0 + 0 + 0 + 0 + 0 ≤ ms from by omega⟩) hS (fun q _ h => hFc q h) hFc (fun u t H locs ht hvm hr33 hB hz1 hk1 hS => ?_)
            rw [ht] at hB
            obtain ⟨hP1, hD1⟩ := hB
            obtain ⟨hP, hD⟩ := jn_A hP hD [7, 9, 8] [0, 1, 2, 3, 4, 5, 6] rfl rfl (by decide) (by decide) hk1 hFc hP1 hD1
            obtain ⟨hP, hD⟩ : PD g A H [(a_names, .inr (2, [.ref a_names_texts, .int a_names_textsSize, .ref a_names_ends, .ref a_names_older, .ref a_names_newest, .int a_names_sizeBefore])), (a_names_texts, .inl (cs 1, a_names_texts_n, .inl a_names_texts_f)), (a_names_ends, .inr (1, [.ref a_names_ends_items, .int a_names_ends_size])), (a_names_ends_items, .inl (cs 0, a_names_ends_items_n, .inl a_names_ends_items_f)), (a_names_older, .inr (1, [.ref a_names_older_items, .int a_names_older_size])), (a_names_older_items, .inl (cs 0, a_names_older_items_n, .inl a_names_older_items_f)), (a_names_newest, .inl (cs 0, a_names_newest_n, .inl a_names_newest_f)), (a, .inr (6, [.ref a_tape, .ref a_names, .int a_kind_33, .int r2, .int a_behind_33, .int 0, .int a_name, .long a_number_33])), (a_tape, .inr (0, [.ref a_tape_items, .int a_tape_size])), (a_tape_items, .inl (cs 1, a_tape_items_n, .inl a_tape_items_f))] := ⟨hP, hD⟩
            refine lv_goto hx hb d_Signs_look_106 rfl ?_
            obtain ⟨hq, hw⟩ := Prod.mk.inj (Option.some.inj hok)
            obtain ⟨hmc0, hms0⟩ := Prod.mk.inj hw
            obtain ⟨hq0, hq⟩ := Prod.mk.inj hq
            obtain ⟨hq1, hq⟩ := Prod.mk.inj hq
            obtain ⟨hq2, hq⟩ := Prod.mk.inj hq
            obtain ⟨hq3, hq⟩ := Prod.mk.inj hq
            obtain ⟨hq4, hq⟩ := Prod.mk.inj hq
            obtain ⟨hq5, hq⟩ := Prod.mk.inj hq
            obtain ⟨hq6, hq⟩ := Prod.mk.inj hq
            obtain ⟨hq7, hq⟩ := Prod.mk.inj hq
            obtain ⟨hq8, hq⟩ := Prod.mk.inj hq
            obtain ⟨hq9, hq⟩ := Prod.mk.inj hq
            obtain ⟨hq10, hq⟩ := Prod.mk.inj hq
            obtain ⟨hq11, hq⟩ := Prod.mk.inj hq
            obtain ⟨hq12, hq⟩ := Prod.mk.inj hq
            obtain ⟨hq13, hq⟩ := Prod.mk.inj hq
            obtain ⟨hq14, hq⟩ := Prod.mk.inj hq
            have hq15 := hq
            subst hq0
            subst hq1
            subst hq2
            subst hq3
            subst hq4
            subst hq5
            subst hq6
            subst hq7
            subst hq8
            subst hq9
            subst hq10
            subst hq11
            subst hq12
            subst hq13
            subst hq14
            subst hq15
            obtain ⟨hP9, hD9⟩ := sub2 (ws' := [(a, .inr (6, [.ref a_tape, .ref a_names, .int a_kind_33, .int r2, .int a_behind_33, .int 0, .int a_name, .long a_number_33])), (a_tape, .inr (0, [.ref a_tape_items, .int a_tape_size])), (a_tape_items, .inl (cs 1, a_tape_items_n, .inl a_tape_items_f)), (a_names, .inr (2, [.ref a_names_texts, .int a_names_textsSize, .ref a_names_ends, .ref a_names_older, .ref a_names_newest, .int a_names_sizeBefore])), (a_names_texts, .inl (cs 1, a_names_texts_n, .inl a_names_texts_f)), (a_names_ends, .inr (1, [.ref a_names_ends_items, .int a_names_ends_size])), (a_names_ends_items, .inl (cs 0, a_names_ends_items_n, .inl a_names_ends_items_f)), (a_names_older, .inr (1, [.ref a_names_older_items, .int a_names_older_size])), (a_names_older_items, .inl (cs 0, a_names_older_items_n, .inl a_names_older_items_f)), (a_names_newest, .inl (cs 0, a_names_newest_n, .inl a_names_newest_f))]) hP hD [7, 8, 9, 0, 1, 2, 3, 4, 5, 6] rfl (by decide) rfl
            refine W.widen (k := mc) (n := ms) (by omega) (by omega) ?_
            rw [hQ]
            exact W.vret hx hb hr (fun t ht hW => ⟨⟨(), rfl, trivial, a_names_texts, a_names_ends_items, a_names_older_items, by rw [ht]; exact hP9, hD9⟩, hS.F ht⟩) hS.2.2 d_Signs_look_221
        · rw [if_neg h9] at hok
          refine lv_aload_n hx hb d_Signs_look_84 rfl (lv_at hl 1 rfl) ?_
          refine lv_aload_n hx hb d_Signs_look_85 rfl (lv_at hl 1 rfl) ?_
          obtain ⟨r34, hc34, hok⟩ := bd_some hok
          obtain ⟨hPc, hDc, hFc⟩ := cut0 (wc := [(a, .inr (6, [.ref a_tape, .ref a_names, .int a_kind, .int r2, .int a_behind, .int 0, .int a_name, .long a_number])), (a_tape, .inr (0, [.ref a_tape_items, .int a_tape_size])), (a_tape_items, .inl (cs 1, a_tape_items_n, .inl a_tape_items_f))]) hP hD hS hA [7, 9, 8] (by decide) rfl
          refine va_calli (va_runV (As := []) (rest := [.ref a]) ⟨hx, hb, hml, hown, hg⟩ (c_Signs_wordEnd l g cs ka a_names a a_tape a_tape_items H.size n a_kind r2 a_behind (0 : Int32) a_name a_number a_tape_size a_tape_items_n a_tape_items_f r34 hc34) (cwV (C := R_Signs) 0 hg (gw_V wd_473 wd_474 wd_475 wd_467 wd_472) rfl rfl rfl (by decide +kernel) ⟨Nat.le_of_ble_eq_true rfl, Nat.le_of_ble_eq_true rfl⟩) ⟨gP_blind, va_recv (q0 := 7) (ci := 6) (q := (R_Signs, F_Signs, 8)) hK hP rfl rfl, gP_pre hPc hDc hK hgl hkn hkr hS hFc⟩ rfl rfl hl.1 rfl (lv_room (Nat.le_of_ble_eq_true rfl)) d_Signs_look_86 ⟨show 0 + 0 + 0 + 0 + 0 + 0 + 0 ≤ mc from by omega, show 0 + 0 + 0 + 0 + 0 + 0 + 0 ≤ ms from by omega⟩) hS (fun q _ h => hFc q h) hFc (fun r34' u t H locs ht hvm hr34 hB hz1 hk1 hS => ?_)
          subst hr34
          rw [ht] at hB
          obtain ⟨hP1, hD1⟩ := hB
          obtain ⟨hP, hD⟩ := jn_A hP hD [7, 9, 8] [0, 1, 2, 3, 4, 5, 6] rfl rfl (by decide) (by decide) hk1 hFc hP1 hD1
          obtain ⟨hP, hD⟩ : PD g A H [(a_names, .inr (2, [.ref a_names_texts, .int a_names_textsSize, .ref a_names_ends, .ref a_names_older, .ref a_names_newest, .int a_names_sizeBefore])), (a_names_texts, .inl (cs 1, a_names_texts_n, .inl a_names_texts_f)), (a_names_ends, .inr (1, [.ref a_names_ends_items, .int a_names_ends_size])), (a_names_ends_items, .inl (cs 0, a_names_ends_items_n, .inl a_names_ends_items_f)), (a_names_older, .inr (1, [.ref a_names_older_items, .int a_names_older_size])), (a_names_older_items, .inl (cs 0, a_names_older_items_n, .inl a_names_older_items_f)), (a_names_newest, .inl (cs 0, a_names_newest_n, .inl a_names_newest_f)), (a, .inr (6, [.ref a_tape, .ref a_names, .int a_kind, .int r2, .int a_behind, .int 0, .int a_name, .long a_number])), (a_tape, .inr (0, [.ref a_tape_items, .int a_tape_size])), (a_tape_items, .inl (cs 1, a_tape_items_n, .inl a_tape_items_f))] := ⟨hP, hD⟩
          obtain ⟨⟨⟨a_kind_35, a_behind_35, a_name_35, a_names_textsSize_35, a_names_texts_n_35, a_names_texts_f_35, a_names_ends_size_35, a_names_ends_items_n_35, a_names_ends_items_f_35, a_names_older_size_35, a_names_older_items_n_35, a_names_older_items_f_35, a_names_newest_f_35⟩, mk35, sk35⟩, hc35, hok⟩ := bd_some hok
          dsimp only at hok
          obtain ⟨m35, s35, hok, hmc35, hms35⟩ := al_some hok
          obtain ⟨hPc, hDc, hFc⟩ := cut0 (wc := [(a, .inr (6, [.ref a_tape, .ref a_names, .int a_kind, .int r2, .int a_behind, .int 0, .int a_name, .long a_number])), (a_tape, .inr (0, [.ref a_tape_items, .int a_tape_size])), (a_tape_items, .inl (cs 1, a_tape_items_n, .inl a_tape_items_f)), (a_names, .inr (2, [.ref a_names_texts, .int a_names_textsSize, .ref a_names_ends, .ref a_names_older, .ref a_names_newest, .int a_names_sizeBefore])), (a_names_texts, .inl (cs 1, a_names_texts_n, .inl a_names_texts_f)), (a_names_ends, .inr (1, [.ref a_names_ends_items, .int a_names_ends_size])), (a_names_ends_items, .inl (cs 0, a_names_ends_items_n, .inl a_names_ends_items_f)), (a_names_older, .inr (1, [.ref a_names_older_items, .int a_names_older_size])), (a_names_older_items, .inl (cs 0, a_names_older_items_n, .inl a_names_older_items_f)), (a_names_newest, .inl (cs 0, a_names_newest_n, .inl a_names_newest_f))]) hP hD hS hA [7, 8, 9, 0, 1, 2, 3, 4, 5, 6] (by decide) rfl
          refine va_callv (va_runV (As := [.int r34]) (rest := []) ⟨hx, hb, hml, hown, hg⟩ (c_Signs_takeName l g cs ka a a_tape a_tape_items a_names a_names_texts a_names_ends a_names_ends_items a_names_older a_names_older_items a_names_newest H.size n r34 a_kind r2 a_behind (0 : Int32) a_name a_number a_tape_size a_tape_items_n a_tape_items_f a_names_textsSize a_names_sizeBefore a_names_texts_n a_names_texts_f a_names_ends_size a_names_ends_items_n a_names_ends_items_f a_names_older_size a_names_older_items_n a_names_older_items_f a_names_newest_n a_names_newest_f a_kind_35 a_behind_35 a_name_35 a_names_textsSize_35 a_names_texts_n_35 a_names_texts_f_35 a_names_ends_size_35 a_names_ends_items_n_35 a_names_ends_items_f_35 a_names_older_size_35 a_names_older_items_n_35 a_names_older_items_f_35 a_names_newest_f_35 mk35 sk35 hc35) (cwV (C := R_Signs) 1 hg (gw_V wd_477 wd_478 wd_479 wd_467 wd_476) rfl rfl rfl (by decide +kernel) ⟨Nat.le_of_ble_eq_true rfl, Nat.le_of_ble_eq_true rfl⟩) ⟨gP_blind, va_recv (q0 := 7) (ci := 6) (q := (R_Signs, F_Signs, 8)) hK hP rfl rfl, gP_pre hPc hDc hK hgl hkn hkr hS hFc⟩ rfl rfl hl.1 rfl (lv_room (Nat.le_of_ble_eq_true rfl)) d_Signs_look_89 ⟨show 0 + 0 + 0 + 0 + 0 + 0 + 0 + mk35 ≤ mc from by omega, show 0 + 0 + 0 + 0 + 0 + 0 + 0 + sk35 ≤ ms from by omega⟩) hS (fun q _ h => hFc q h) hFc (fun u t H locs ht hvm hr35 hB hz1 hk1 hS => ?_)
          rw [ht] at hB
          obtain ⟨a_names_texts_35, a_names_ends_items_35, a_names_older_items_35, hP1, hD1⟩ := hB
          obtain ⟨hP, hD⟩ := jn_A hP hD [7, 8, 9, 0, 1, 2, 3, 4, 5, 6] [] rfl rfl (by decide) (by decide) hk1 hFc hP1 hD1
          obtain ⟨hP, hD⟩ : PD g A H [(a, .inr (6, [.ref a_tape, .ref a_names, .int a_kind_35, .int r2, .int a_behind_35, .int 0, .int a_name_35, .long a_number])), (a_tape, .inr (0, [.ref a_tape_items, .int a_tape_size])), (a_tape_items, .inl (cs 1, a_tape_items_n, .inl a_tape_items_f)), (a_names, .inr (2, [.ref a_names_texts_35, .int a_names_textsSize_35, .ref a_names_ends, .ref a_names_older, .ref a_names_newest, .int a_names_sizeBefore])), (a_names_texts_35, .inl (cs 1, a_names_texts_n_35, .inl a_names_texts_f_35)), (a_names_ends, .inr (1, [.ref a_names_ends_items_35, .int a_names_ends_size_35])), (a_names_ends_items_35, .inl (cs 0, a_names_ends_items_n_35, .inl a_names_ends_items_f_35)), (a_names_older, .inr (1, [.ref a_names_older_items_35, .int a_names_older_size_35])), (a_names_older_items_35, .inl (cs 0, a_names_older_items_n_35, .inl a_names_older_items_f_35)), (a_names_newest, .inl (cs 0, a_names_newest_n, .inl a_names_newest_f_35))] := ⟨hP, hD⟩
          refine lv_goto hx hb d_Signs_look_92 rfl ?_
          obtain ⟨hq, hw⟩ := Prod.mk.inj (Option.some.inj hok)
          obtain ⟨hmc0, hms0⟩ := Prod.mk.inj hw
          obtain ⟨hq0, hq⟩ := Prod.mk.inj hq
          obtain ⟨hq1, hq⟩ := Prod.mk.inj hq
          obtain ⟨hq2, hq⟩ := Prod.mk.inj hq
          obtain ⟨hq3, hq⟩ := Prod.mk.inj hq
          obtain ⟨hq4, hq⟩ := Prod.mk.inj hq
          obtain ⟨hq5, hq⟩ := Prod.mk.inj hq
          obtain ⟨hq6, hq⟩ := Prod.mk.inj hq
          obtain ⟨hq7, hq⟩ := Prod.mk.inj hq
          obtain ⟨hq8, hq⟩ := Prod.mk.inj hq
          obtain ⟨hq9, hq⟩ := Prod.mk.inj hq
          obtain ⟨hq10, hq⟩ := Prod.mk.inj hq
          obtain ⟨hq11, hq⟩ := Prod.mk.inj hq
          obtain ⟨hq12, hq⟩ := Prod.mk.inj hq
          obtain ⟨hq13, hq⟩ := Prod.mk.inj hq
          obtain ⟨hq14, hq⟩ := Prod.mk.inj hq
          have hq15 := hq
          subst hq0
          subst hq1
          subst hq2
          subst hq3
          subst hq4
          subst hq5
          subst hq6
          subst hq7
          subst hq8
          subst hq9
          subst hq10
          subst hq11
          subst hq12
          subst hq13
          subst hq14
          subst hq15
          obtain ⟨hP9, hD9⟩ := sub2 (ws' := [(a, .inr (6, [.ref a_tape, .ref a_names, .int a_kind_35, .int r2, .int a_behind_35, .int 0, .int a_name_35, .long a_number])), (a_tape, .inr (0, [.ref a_tape_items, .int a_tape_size])), (a_tape_items, .inl (cs 1, a_tape_items_n, .inl a_tape_items_f)), (a_names, .inr (2, [.ref a_names_texts_35, .int a_names_textsSize_35, .ref a_names_ends, .ref a_names_older, .ref a_names_newest, .int a_names_sizeBefore])), (a_names_texts_35, .inl (cs 1, a_names_texts_n_35, .inl a_names_texts_f_35)), (a_names_ends, .inr (1, [.ref a_names_ends_items_35, .int a_names_ends_size_35])), (a_names_ends_items_35, .inl (cs 0, a_names_ends_items_n_35, .inl a_names_ends_items_f_35)), (a_names_older, .inr (1, [.ref a_names_older_items_35, .int a_names_older_size_35])), (a_names_older_items_35, .inl (cs 0, a_names_older_items_n_35, .inl a_names_older_items_f_35)), (a_names_newest, .inl (cs 0, a_names_newest_n, .inl a_names_newest_f_35))]) hP hD [0, 1, 2, 3, 4, 5, 6, 7, 8, 9] rfl (by decide) rfl
          refine W.widen (k := mc) (n := ms) (by omega) (by omega) ?_
          rw [hQ]
          exact W.vret hx hb hr (fun t ht hW => ⟨⟨(), rfl, trivial, a_names_texts_35, a_names_ends_items_35, a_names_older_items_35, by rw [ht]; exact hP9, hD9⟩, hS.F ht⟩) hS.2.2 d_Signs_look_221
      · rw [if_neg h7] at hok
        refine lv_aload_n hx hb d_Signs_look_70 rfl (lv_at hl 1 rfl) ?_
        obtain ⟨⟨⟨a_kind_36, a_behind_36, a_name_36, a_names_textsSize_36, a_names_texts_n_36, a_names_texts_f_36, a_names_ends_size_36, a_names_ends_items_n_36, a_names_ends_items_f_36, a_names_older_size_36, a_names_older_items_n_36, a_names_older_items_f_36, a_names_newest_f_36⟩, mk36, sk36⟩, hc36, hok⟩ := bd_some hok
        dsimp only at hok
        obtain ⟨m36, s36, hok, hmc36, hms36⟩ := al_some hok
        obtain ⟨hPc, hDc, hFc⟩ := cut0 (wc := [(a, .inr (6, [.ref a_tape, .ref a_names, .int a_kind, .int r2, .int a_behind, .int 0, .int a_name, .long a_number])), (a_tape, .inr (0, [.ref a_tape_items, .int a_tape_size])), (a_tape_items, .inl (cs 1, a_tape_items_n, .inl a_tape_items_f)), (a_names, .inr (2, [.ref a_names_texts, .int a_names_textsSize, .ref a_names_ends, .ref a_names_older, .ref a_names_newest, .int a_names_sizeBefore])), (a_names_texts, .inl (cs 1, a_names_texts_n, .inl a_names_texts_f)), (a_names_ends, .inr (1, [.ref a_names_ends_items, .int a_names_ends_size])), (a_names_ends_items, .inl (cs 0, a_names_ends_items_n, .inl a_names_ends_items_f)), (a_names_older, .inr (1, [.ref a_names_older_items, .int a_names_older_size])), (a_names_older_items, .inl (cs 0, a_names_older_items_n, .inl a_names_older_items_f)), (a_names_newest, .inl (cs 0, a_names_newest_n, .inl a_names_newest_f))]) hP hD hS hA [7, 9, 8, 0, 1, 2, 3, 4, 5, 6] (by decide) rfl
        refine va_callv (va_runV (As := []) (rest := []) ⟨hx, hb, hml, hown, hg⟩ (c_Signs_takeVariable l g cs ka a a_tape a_tape_items a_names a_names_texts a_names_ends a_names_ends_items a_names_older a_names_older_items a_names_newest H.size n a_kind r2 a_behind (0 : Int32) a_name a_number a_tape_size a_tape_items_n a_tape_items_f a_names_textsSize a_names_sizeBefore a_names_texts_n a_names_texts_f a_names_ends_size a_names_ends_items_n a_names_ends_items_f a_names_older_size a_names_older_items_n a_names_older_items_f a_names_newest_n a_names_newest_f a_kind_36 a_behind_36 a_name_36 a_names_textsSize_36 a_names_texts_n_36 a_names_texts_f_36 a_names_ends_size_36 a_names_ends_items_n_36 a_names_ends_items_f_36 a_names_older_size_36 a_names_older_items_n_36 a_names_older_items_f_36 a_names_newest_f_36 mk36 sk36 hc36) (cwV (C := R_Signs) 0 hg (gw_V wd_520 wd_521 wd_522 wd_467 wd_519) rfl rfl rfl (by decide +kernel) ⟨Nat.le_of_ble_eq_true rfl, Nat.le_of_ble_eq_true rfl⟩) ⟨gP_blind, va_recv (q0 := 7) (ci := 6) (q := (R_Signs, F_Signs, 8)) hK hP rfl rfl, gP_pre hPc hDc hK hgl hkn hkr hS hFc⟩ rfl rfl hl.1 rfl (lv_room (Nat.le_of_ble_eq_true rfl)) d_Signs_look_71 ⟨show 0 + 0 + 0 + 0 + 0 + mk36 ≤ mc from by omega, show 0 + 0 + 0 + 0 + 0 + sk36 ≤ ms from by omega⟩) hS (fun q _ h => hFc q h) hFc (fun u t H locs ht hvm hr36 hB hz1 hk1 hS => ?_)
        rw [ht] at hB
        obtain ⟨a_names_texts_36, a_names_ends_items_36, a_names_older_items_36, hP1, hD1⟩ := hB
        obtain ⟨hP, hD⟩ := jn_A hP hD [7, 9, 8, 0, 1, 2, 3, 4, 5, 6] [] rfl rfl (by decide) (by decide) hk1 hFc hP1 hD1
        obtain ⟨hP, hD⟩ : PD g A H [(a, .inr (6, [.ref a_tape, .ref a_names, .int a_kind_36, .int r2, .int a_behind_36, .int 0, .int a_name_36, .long a_number])), (a_tape, .inr (0, [.ref a_tape_items, .int a_tape_size])), (a_tape_items, .inl (cs 1, a_tape_items_n, .inl a_tape_items_f)), (a_names, .inr (2, [.ref a_names_texts_36, .int a_names_textsSize_36, .ref a_names_ends, .ref a_names_older, .ref a_names_newest, .int a_names_sizeBefore])), (a_names_texts_36, .inl (cs 1, a_names_texts_n_36, .inl a_names_texts_f_36)), (a_names_ends, .inr (1, [.ref a_names_ends_items_36, .int a_names_ends_size_36])), (a_names_ends_items_36, .inl (cs 0, a_names_ends_items_n_36, .inl a_names_ends_items_f_36)), (a_names_older, .inr (1, [.ref a_names_older_items_36, .int a_names_older_size_36])), (a_names_older_items_36, .inl (cs 0, a_names_older_items_n_36, .inl a_names_older_items_f_36)), (a_names_newest, .inl (cs 0, a_names_newest_n, .inl a_names_newest_f_36))] := ⟨hP, hD⟩
        refine lv_goto hx hb d_Signs_look_74 rfl ?_
        obtain ⟨hq, hw⟩ := Prod.mk.inj (Option.some.inj hok)
        obtain ⟨hmc0, hms0⟩ := Prod.mk.inj hw
        obtain ⟨hq0, hq⟩ := Prod.mk.inj hq
        obtain ⟨hq1, hq⟩ := Prod.mk.inj hq
        obtain ⟨hq2, hq⟩ := Prod.mk.inj hq
        obtain ⟨hq3, hq⟩ := Prod.mk.inj hq
        obtain ⟨hq4, hq⟩ := Prod.mk.inj hq
        obtain ⟨hq5, hq⟩ := Prod.mk.inj hq
        obtain ⟨hq6, hq⟩ := Prod.mk.inj hq
        obtain ⟨hq7, hq⟩ := Prod.mk.inj hq
        obtain ⟨hq8, hq⟩ := Prod.mk.inj hq
        obtain ⟨hq9, hq⟩ := Prod.mk.inj hq
        obtain ⟨hq10, hq⟩ := Prod.mk.inj hq
        obtain ⟨hq11, hq⟩ := Prod.mk.inj hq
        obtain ⟨hq12, hq⟩ := Prod.mk.inj hq
        obtain ⟨hq13, hq⟩ := Prod.mk.inj hq
        obtain ⟨hq14, hq⟩ := Prod.mk.inj hq
        have hq15 := hq
        subst hq0
        subst hq1
        subst hq2
        subst hq3
        subst hq4
        subst hq5
        subst hq6
        subst hq7
        subst hq8
        subst hq9
        subst hq10
        subst hq11
        subst hq12
        subst hq13
        subst hq14
        subst hq15
        obtain ⟨hP9, hD9⟩ := sub2 (ws' := [(a, .inr (6, [.ref a_tape, .ref a_names, .int a_kind_36, .int r2, .int a_behind_36, .int 0, .int a_name_36, .long a_number])), (a_tape, .inr (0, [.ref a_tape_items, .int a_tape_size])), (a_tape_items, .inl (cs 1, a_tape_items_n, .inl a_tape_items_f)), (a_names, .inr (2, [.ref a_names_texts_36, .int a_names_textsSize_36, .ref a_names_ends, .ref a_names_older, .ref a_names_newest, .int a_names_sizeBefore])), (a_names_texts_36, .inl (cs 1, a_names_texts_n_36, .inl a_names_texts_f_36)), (a_names_ends, .inr (1, [.ref a_names_ends_items_36, .int a_names_ends_size_36])), (a_names_ends_items_36, .inl (cs 0, a_names_ends_items_n_36, .inl a_names_ends_items_f_36)), (a_names_older, .inr (1, [.ref a_names_older_items_36, .int a_names_older_size_36])), (a_names_older_items_36, .inl (cs 0, a_names_older_items_n_36, .inl a_names_older_items_f_36)), (a_names_newest, .inl (cs 0, a_names_newest_n, .inl a_names_newest_f_36))]) hP hD [0, 1, 2, 3, 4, 5, 6, 7, 8, 9] rfl (by decide) rfl
        refine W.widen (k := mc) (n := ms) (by omega) (by omega) ?_
        rw [hQ]
        exact W.vret hx hb hr (fun t ht hW => ⟨⟨(), rfl, trivial, a_names_texts_36, a_names_ends_items_36, a_names_older_items_36, by rw [ht]; exact hP9, hD9⟩, hS.F ht⟩) hS.2.2 d_Signs_look_221
    · rw [if_neg h5] at hok
      refine lv_aload_n hx hb d_Signs_look_51 rfl (lv_at hl 1 rfl) ?_
      refine lv_iconst (v := 5) hx hb d_Signs_look_52 (by decide) ?_
      refine lv_aload_n hx hb d_Signs_look_53 rfl (lv_at hl 1 rfl) ?_
      refine va_get (D := g) (ci := 6) (v := .int r2) (C := R_Signs) (T := F_Signs) (N := 8) hx hb hg ul_Signs hown hK hP 7 rfl rfl 3 (by decide) (hg _ wd_442) (fun _ h9 => h9) rfl d_Signs_look_54 ?_
      obtain ⟨⟨a_kind_37, a_behind_37⟩, hc37, hok⟩ := bd_some hok
      dsimp only at hok
      obtain ⟨hPc, hDc, hFc⟩ := cut0 (wc := [(a, .inr (6, [.ref a_tape, .ref a_names, .int a_kind, .int r2, .int a_behind, .int 0, .int a_name, .long a_number]))]) hP hD hS hA [7] (by decide) rfl
      refine va_callv (va_runV (As := [.int 5, .int r2]) (rest := []) ⟨hx, hb, hml, hown, hg⟩ (c_Signs_takeTo l g cs ka a_tape a_names a H.size (5 : Int32) r2 a_kind r2 a_behind (0 : Int32) a_name a_number a_kind_37 a_behind_37 hc37) (cwV (C := R_Signs) 2 hg (gw_V wd_468 wd_469 wd_470 wd_467 wd_466) rfl rfl rfl (by decide +kernel) ⟨Nat.le_of_ble_eq_true rfl, Nat.le_of_ble_eq_true rfl⟩) ⟨gP_blind, va_recv (q0 := 7) (ci := 6) (q := (R_Signs, F_Signs, 8)) hK hP rfl rfl, gP_pre hPc hDc hK hgl hkn hkr hS hFc⟩ rfl rfl hl.1 rfl (lv_room (Nat.le_of_ble_eq_true rfl)) d_Signs_look_57 ⟨show 0 + 0 + 0 + 0 + 0 ≤ mc from by omega, show 0 + 0 + 0 + 0 + 0 ≤ ms from by omega⟩) hS (fun q _ h => hFc q h) hFc (fun u t H locs ht hvm hr37 hB hz1 hk1 hS => ?_)
      rw [ht] at hB
      obtain ⟨hP1, hD1⟩ := hB
      obtain ⟨hP, hD⟩ := jn_A hP hD [7] [0, 1, 2, 3, 4, 5, 6, 8, 9] rfl rfl (by decide) (by decide) hk1 hFc hP1 hD1
      obtain ⟨hP, hD⟩ : PD g A H [(a_names, .inr (2, [.ref a_names_texts, .int a_names_textsSize, .ref a_names_ends, .ref a_names_older, .ref a_names_newest, .int a_names_sizeBefore])), (a_names_texts, .inl (cs 1, a_names_texts_n, .inl a_names_texts_f)), (a_names_ends, .inr (1, [.ref a_names_ends_items, .int a_names_ends_size])), (a_names_ends_items, .inl (cs 0, a_names_ends_items_n, .inl a_names_ends_items_f)), (a_names_older, .inr (1, [.ref a_names_older_items, .int a_names_older_size])), (a_names_older_items, .inl (cs 0, a_names_older_items_n, .inl a_names_older_items_f)), (a_names_newest, .inl (cs 0, a_names_newest_n, .inl a_names_newest_f)), (a_tape_items, .inl (cs 1, a_tape_items_n, .inl a_tape_items_f)), (a_tape, .inr (0, [.ref a_tape_items, .int a_tape_size])), (a, .inr (6, [.ref a_tape, .ref a_names, .int a_kind_37, .int r2, .int a_behind_37, .int 0, .int a_name, .long a_number]))] := ⟨hP, hD⟩
      refine lv_goto hx hb d_Signs_look_60 rfl ?_
      obtain ⟨hq, hw⟩ := Prod.mk.inj (Option.some.inj hok)
      obtain ⟨hmc0, hms0⟩ := Prod.mk.inj hw
      obtain ⟨hq0, hq⟩ := Prod.mk.inj hq
      obtain ⟨hq1, hq⟩ := Prod.mk.inj hq
      obtain ⟨hq2, hq⟩ := Prod.mk.inj hq
      obtain ⟨hq3, hq⟩ := Prod.mk.inj hq
      obtain ⟨hq4, hq⟩ := Prod.mk.inj hq
      obtain ⟨hq5, hq⟩ := Prod.mk.inj hq
      obtain ⟨hq6, hq⟩ := Prod.mk.inj hq
      obtain ⟨hq7, hq⟩ := Prod.mk.inj hq
      obtain ⟨hq8, hq⟩ := Prod.mk.inj hq
      obtain ⟨hq9, hq⟩ := Prod.mk.inj hq
      obtain ⟨hq10, hq⟩ := Prod.mk.inj hq
      obtain ⟨hq11, hq⟩ := Prod.mk.inj hq
      obtain ⟨hq12, hq⟩ := Prod.mk.inj hq
      obtain ⟨hq13, hq⟩ := Prod.mk.inj hq
      obtain ⟨hq14, hq⟩ := Prod.mk.inj hq
      have hq15 := hq
      subst hq0
      subst hq1
      subst hq2
      subst hq3
      subst hq4
      subst hq5
      subst hq6
      subst hq7
      subst hq8
      subst hq9
      subst hq10
      subst hq11
      subst hq12
      subst hq13
      subst hq14
      subst hq15
      obtain ⟨hP9, hD9⟩ := sub2 (ws' := [(a, .inr (6, [.ref a_tape, .ref a_names, .int a_kind_37, .int r2, .int a_behind_37, .int 0, .int a_name, .long a_number])), (a_tape, .inr (0, [.ref a_tape_items, .int a_tape_size])), (a_tape_items, .inl (cs 1, a_tape_items_n, .inl a_tape_items_f)), (a_names, .inr (2, [.ref a_names_texts, .int a_names_textsSize, .ref a_names_ends, .ref a_names_older, .ref a_names_newest, .int a_names_sizeBefore])), (a_names_texts, .inl (cs 1, a_names_texts_n, .inl a_names_texts_f)), (a_names_ends, .inr (1, [.ref a_names_ends_items, .int a_names_ends_size])), (a_names_ends_items, .inl (cs 0, a_names_ends_items_n, .inl a_names_ends_items_f)), (a_names_older, .inr (1, [.ref a_names_older_items, .int a_names_older_size])), (a_names_older_items, .inl (cs 0, a_names_older_items_n, .inl a_names_older_items_f)), (a_names_newest, .inl (cs 0, a_names_newest_n, .inl a_names_newest_f))]) hP hD [9, 8, 7, 0, 1, 2, 3, 4, 5, 6] rfl (by decide) rfl
      refine W.widen (k := mc) (n := ms) (by omega) (by omega) ?_
      rw [hQ]
      exact W.vret hx hb hr (fun t ht hW => ⟨⟨(), rfl, trivial, a_names_texts, a_names_ends_items, a_names_older_items, by rw [ht]; exact hP9, hD9⟩, hS.F ht⟩) hS.2.2 d_Signs_look_221
  · rw [if_pos h1] at hok
    obtain ⟨hq, hw⟩ := Prod.mk.inj (Option.some.inj hok)
    obtain ⟨hmc0, hms0⟩ := Prod.mk.inj hw
    obtain ⟨hq0, hq⟩ := Prod.mk.inj hq
    obtain ⟨hq1, hq⟩ := Prod.mk.inj hq
    obtain ⟨hq2, hq⟩ := Prod.mk.inj hq
    obtain ⟨hq3, hq⟩ := Prod.mk.inj hq
    obtain ⟨hq4, hq⟩ := Prod.mk.inj hq
    obtain ⟨hq5, hq⟩ := Prod.mk.inj hq
    obtain ⟨hq6, hq⟩ := Prod.mk.inj hq
    obtain ⟨hq7, hq⟩ := Prod.mk.inj hq
    obtain ⟨hq8, hq⟩ := Prod.mk.inj hq
    obtain ⟨hq9, hq⟩ := Prod.mk.inj hq
    obtain ⟨hq10, hq⟩ := Prod.mk.inj hq
    obtain ⟨hq11, hq⟩ := Prod.mk.inj hq
    obtain ⟨hq12, hq⟩ := Prod.mk.inj hq
    obtain ⟨hq13, hq⟩ := Prod.mk.inj hq
    obtain ⟨hq14, hq⟩ := Prod.mk.inj hq
    have hq15 := hq
    subst hq0
    subst hq1
    subst hq2
    subst hq3
    subst hq4
    subst hq5
    subst hq6
    subst hq7
    subst hq8
    subst hq9
    subst hq10
    subst hq11
    subst hq12
    subst hq13
    subst hq14
    subst hq15
    obtain ⟨hP9, hD9⟩ := sub2 (ws' := [(a, .inr (6, [.ref a_tape, .ref a_names, .int a_kind, .int a_place, .int a_behind, .int a_passed, .int a_name, .long a_number])), (a_tape, .inr (0, [.ref a_tape_items, .int a_tape_size])), (a_tape_items, .inl (cs 1, a_tape_items_n, .inl a_tape_items_f)), (a_names, .inr (2, [.ref a_names_texts, .int a_names_textsSize, .ref a_names_ends, .ref a_names_older, .ref a_names_newest, .int a_names_sizeBefore])), (a_names_texts, .inl (cs 1, a_names_texts_n, .inl a_names_texts_f)), (a_names_ends, .inr (1, [.ref a_names_ends_items, .int a_names_ends_size])), (a_names_ends_items, .inl (cs 0, a_names_ends_items_n, .inl a_names_ends_items_f)), (a_names_older, .inr (1, [.ref a_names_older_items, .int a_names_older_size])), (a_names_older_items, .inl (cs 0, a_names_older_items_n, .inl a_names_older_items_f)), (a_names_newest, .inl (cs 0, a_names_newest_n, .inl a_names_newest_f))]) hP hD [0, 1, 2, 3, 4, 5, 6, 7, 8, 9] rfl (by decide) rfl
    refine W.widen (k := mc) (n := ms) (by omega) (by omega) ?_
    rw [hQ]
    exact W.vret hx hb hr (fun t ht hW => ⟨⟨(), rfl, trivial, a_names_texts, a_names_ends_items, a_names_older_items, by rw [ht]; exact hP9, hD9⟩, hS.F ht⟩) hS.2.2 d_Signs_look_7
