theorem wd_403 : ((.fieldLinkNest "UnifyBench$Names" 40 "UnifyBench$Known" "ALL" "[LUnifyBench$Known;" "UnifyBench") : Cond) ∈ NWL := nwl_in (gt_1 80 (by decide +kernel)) rfl
theorem wd_404 : ((.code y_Names_isKnown prog_6_method_17_code 1 (some .boolean)) : Cond) ∈ GW := gw_4 166 (by decide +kernel) rfl
theorem wd_405 : ((.methodLink "UnifyBench$Names" 98 y_Names_isKnown) : Cond) ∈ GW := gw_4 164 (by decide +kernel) rfl
theorem wd_406 : ((.static y_Names_isKnown) : Cond) ∈ GW := gw_4 165 (by decide +kernel) rfl
theorem wd_407 : ((.fieldLinkNest "UnifyBench$Names" 102 "UnifyBench$Known" "level" "I" "UnifyBench") : Cond) ∈ NWL := nwl_in (gt_8 181 (by decide +kernel)) rfl
theorem wd_408 : ((.fieldLinkNest "UnifyBench$Names" 105 "UnifyBench$Known" "left" "I" "UnifyBench") : Cond) ∈ NWL := nwl_in (gt_8 182 (by decide +kernel)) rfl
theorem wd_409 : ((.fieldLinkNest "UnifyBench$Names" 108 "UnifyBench$Known" "right" "I" "UnifyBench") : Cond) ∈ NWL := nwl_in (gt_8 183 (by decide +kernel)) rfl
theorem wd_410 : ((.fieldLinkNest "UnifyBench$Names" 111 "UnifyBench$Known" "prefixLevel" "I" "UnifyBench") : Cond) ∈ NWL := nwl_in (gt_8 180 (by decide +kernel)) rfl
theorem wd_411 : ((.methodLink "UnifyBench$Names" 1 y_Object_init) : Cond) ∈ GW := gw_1 62 (by decide +kernel) rfl
theorem wd_412 : ((.classLink "UnifyBench$Names" 17 "UnifyBench$Ints") : Cond) ∈ GW := gw_1 63 (by decide +kernel) rfl
theorem wd_413 : ((.methodLinkNest "UnifyBench$Names" 19 y_Ints_init "UnifyBench") : Cond) ∈ NWL := nwl_in (gt_1 65 (by decide +kernel)) rfl
theorem wd_414 : ((.methodLink "UnifyBench$Names" 34 y_Arrays_fill) : Cond) ∈ GW := gw_1 77 (by decide +kernel) rfl
theorem wd_415 : ((.fieldLinkNest "UnifyBench$Names" 46 "UnifyBench$Known" "text" "Ljava/lang/String;" "UnifyBench") : Cond) ∈ NWL := nwl_in (gt_8 177 (by decide +kernel)) rfl
theorem wd_416 : ((.code y_Names_startText prog_6_method_2_code 1 none) : Cond) ∈ GW := gw_1 85 (by decide +kernel) rfl
theorem wd_417 : ((.methodLink "UnifyBench$Names" 50 y_Names_startText) : Cond) ∈ GW := gw_1 82 (by decide +kernel) rfl
theorem wd_418 : ((.instanceMethod y_Names_startText) : Cond) ∈ GW := gw_1 83 (by decide +kernel) rfl
theorem wd_419 : ((.selects "UnifyBench$Names" y_Names_startText y_Names_startText) : Cond) ∈ GW := gw_1 84 (by decide +kernel) rfl
theorem wd_420 : ((.methodLink "UnifyBench$Names" 53 y_String_length) : Cond) ∈ GW := gw_1 98 (by decide +kernel) rfl
theorem wd_421 : ((.code y_Names_numberOfText prog_6_method_4_code 5 (some .int)) : Cond) ∈ GW := gw_1 169 (by decide +kernel) rfl
theorem wd_422 : ((.methodLink "UnifyBench$Names" 67 y_Names_numberOfText) : Cond) ∈ GW := gw_1 166 (by decide +kernel) rfl
theorem wd_423 : ((.instanceMethod y_Names_numberOfText) : Cond) ∈ GW := gw_1 167 (by decide +kernel) rfl
theorem wd_424 : ((.selects "UnifyBench$Names" y_Names_numberOfText y_Names_numberOfText) : Cond) ∈ GW := gw_1 168 (by decide +kernel) rfl
theorem wd_425 : ((.code y_String_charAt prog_28_method_56_code 2 (some .char)) : Cond) ∈ GW := gw_1 111 (by decide +kernel) rfl
theorem wd_426 : ((.methodLink "UnifyBench$Names" 59 y_String_charAt) : Cond) ∈ GW := gw_1 108 (by decide +kernel) rfl
theorem wd_427 : ((.instanceMethod y_String_charAt) : Cond) ∈ GW := gw_1 109 (by decide +kernel) rfl
theorem wd_428 : ((.selects "java/lang/String" y_String_charAt y_String_charAt) : Cond) ∈ GW := gw_1 110 (by decide +kernel) rfl
theorem wd_429 : ((.code y_Names_addToText prog_6_method_3_code 2 none) : Cond) ∈ GW := gw_1 149 (by decide +kernel) rfl
theorem wd_430 : ((.methodLink "UnifyBench$Names" 63 y_Names_addToText) : Cond) ∈ GW := gw_1 146 (by decide +kernel) rfl
theorem wd_431 : ((.instanceMethod y_Names_addToText) : Cond) ∈ GW := gw_1 147 (by decide +kernel) rfl
theorem wd_432 : ((.selects "UnifyBench$Names" y_Names_addToText y_Names_addToText) : Cond) ∈ GW := gw_1 148 (by decide +kernel) rfl
theorem d_Names_isKnown_0 : decode b_Names_isKnown 0 = .ok (.iload_n 0, 1) := by decide +kernel
theorem d_Names_isKnown_1 : decode b_Names_isKnown 1 = .ok (.ifCond .lt 15, 3) := by decide +kernel
theorem d_Names_isKnown_4 : decode b_Names_isKnown 4 = .ok (.iload_n 0, 1) := by decide +kernel
theorem d_Names_isKnown_5 : decode b_Names_isKnown 5 = .ok (.getstatic 40, 3) := by decide +kernel
theorem d_Names_isKnown_8 : decode b_Names_isKnown 8 = .ok (.arraylength, 1) := by decide +kernel
theorem d_Names_isKnown_9 : decode b_Names_isKnown 9 = .ok (.if_icmp .ge 7, 3) := by decide +kernel
theorem d_Names_isKnown_12 : decode b_Names_isKnown 12 = .ok (.iconst 1, 1) := by decide +kernel
theorem d_Names_isKnown_13 : decode b_Names_isKnown 13 = .ok (.goto 4, 3) := by decide +kernel
theorem d_Names_isKnown_16 : decode b_Names_isKnown 16 = .ok (.iconst 0, 1) := by decide +kernel
theorem d_Names_isKnown_17 : decode b_Names_isKnown 17 = .ok (.ireturn, 1) := by decide +kernel
def p_Names_isKnown (name : Int32) : Option Int32 := if name < 0 then (some (0 : Int32)) else (if 24 ≤ name then (some (0 : Int32)) else (some (1 : Int32)))
set_option maxHeartbeats 4000000 in
set_option maxRecDepth 100000 in
theorem c_Names_isKnown (l : Launch) (g : va_G) (cs : Nat → ClassId) (ka : Nat → Nat) (sz : Nat) (name : Int32) (r : Int32) (hok : p_Names_isKnown name = some r) : Met l y_Names_isKnown (.code y_Names_isKnown b_Names_isKnown 1 (some .boolean) :: GW) { frames := 0, cells := 0, slots := 0, locals := 0 } (va_Pc [.int name] (gP g cs ka [] sz)) (va_Qi (fun (r' : Int32) (_ : Unit) => r = r') (fun _ t => va_P g classes [] t.heap ∧ va_D (va_A [] sz) []) (va_A [] sz)) 0 0 (va_A [] sz) := by
  refine Met.ofW (cc := b_Names_isKnown) (maxL := 1) (ret := (some .boolean)) (by decide) rfl ?_
  intro p e s m args below meth c s₁ B hml hv
  obtain ⟨rfl, hsz, hP, hK, hD0, hgl, hkn, hkr⟩ := hv
  have hx := B.exec
  have hb := B.bytes
  have hr := B.returns
  have hg : ∀ w ∈ GW, w.before ([.int name] : List Value).toArray s = true := fun w hw => atoms_spec (ws := .code y_Names_isKnown b_Names_isKnown 1 (some .boolean) :: GW) B.pre w (List.mem_cons_of_mem _ hw)
  have hown : s.vm.findClass R_Names = some m.cls := findClass_of_methodNamed B.named
  have hlocks := B.notSynchronized
  subst hsz
  have hD := hD0.self (sz := s.heap.size)
  generalize hAe : va_A [] s.heap.size = A at hD hkn ⊢
  have hA : ∀ q : Nat, s.heap.size ≤ q → A q := fun q h => by rw [← hAe]; exact Or.inr h
  have hS : va_S A s.heap s.heap [] := va_S.rf
  have hP : va_P g classes [] s.heap := hP
  have hl := lv_entry ([.int name]) (n := 1) (Nat.le_of_ble_eq_true rfl)
  rw [lg_entry_eq]
  generalize (lg_sl ([.int name]) ++ List.replicate (1 - (lg_sl ([.int name])).length) Slot.unset).toArray = ls at hl ⊢
  have hl : lv_has ls 1 [(0, .int name)] := hl
  refine gq (fun Q hQ => ?_)
  obtain ⟨H, hH⟩ : ∃ H : Heap, H = s.heap := ⟨_, rfl⟩
  rw [← hH] at hP
  have hS : va_S A s.heap H [] := by rw [hH]; exact hS
  refine W.eqH hH ?_
  obtain ⟨locs, hlc⟩ : ∃ L : List Loc, L = [] := ⟨_, rfl⟩
  rw [← hlc] at hS ⊢
  unfold p_Names_isKnown at hok
  refine lv_iload_n hx hb d_Names_isKnown_0 rfl (lv_at hl 0 rfl) ?_
  refine lv_if_lt hx hb d_Names_isKnown_1 rfl (fun h1 => ?_) (fun h1 => ?_)
  · rw [if_pos h1] at hok
    refine lv_iconst (v := 0) hx hb d_Names_isKnown_16 (by decide) ?_
    have hq := Option.some.inj hok
    have hq0 := hq
    subst hq0
    obtain ⟨hP9, hD9⟩ := sub2 (ws' := []) hP hD [] rfl (by decide) rfl
    rw [hQ]
    exact W.zret (v := 0) hx hb hr rfl (fun t ht hW => ⟨⟨_, (), rfl, rfl, by rw [ht]; exact hP9, hD9⟩, hS.F ht⟩) hS.2.2 d_Names_isKnown_17
  · rw [if_neg h1] at hok
    refine lv_iload_n hx hb d_Names_isKnown_4 rfl (lv_at hl 0 rfl) ?_
    refine va_getsN hx hb hkn.1 hS hown (va_Nw.use rfl (hgl _ wd_403)) (fun _ h9 => h9) d_Names_isKnown_5 ?_
    refine va_tlen (v := 24) hx hb hkn.2.1 hS rfl d_Names_isKnown_8 ?_
    refine lv_icmp_ge hx hb d_Names_isKnown_9 rfl (fun h2 => ?_) (fun h2 => ?_)
    · rw [if_pos h2] at hok
      refine lv_iconst (v := 0) hx hb d_Names_isKnown_16 (by decide) ?_
      have hq := Option.some.inj hok
      have hq0 := hq
      subst hq0
      obtain ⟨hP9, hD9⟩ := sub2 (ws' := []) hP hD [] rfl (by decide) rfl
      rw [hQ]
      exact W.zret (v := 0) hx hb hr rfl (fun t ht hW => ⟨⟨_, (), rfl, rfl, by rw [ht]; exact hP9, hD9⟩, hS.F ht⟩) hS.2.2 d_Names_isKnown_17
    · rw [if_neg h2] at hok
      refine lv_iconst (v := 1) hx hb d_Names_isKnown_12 (by decide) ?_
      refine lv_goto hx hb d_Names_isKnown_13 rfl ?_
      have hq := Option.some.inj hok
      have hq0 := hq
      subst hq0
      obtain ⟨hP9, hD9⟩ := sub2 (ws' := []) hP hD [] rfl (by decide) rfl
      rw [hQ]
      exact W.zret (v := 1) hx hb hr rfl (fun t ht hW => ⟨⟨_, (), rfl, rfl, by rw [ht]; exact hP9, hD9⟩, hS.F ht⟩) hS.2.2 d_Names_isKnown_17

theorem d_Names_sidesLevel_0 : decode b_Names_sidesLevel 0 = .ok (.iload_n 1, 1) := by decide +kernel
theorem d_Names_sidesLevel_1 : decode b_Names_sidesLevel 1 = .ok (.invokestatic 98, 3) := by decide +kernel
theorem d_Names_sidesLevel_4 : decode b_Names_sidesLevel 4 = .ok (.ifCond .eq 14, 3) := by decide +kernel
theorem d_Names_sidesLevel_7 : decode b_Names_sidesLevel 7 = .ok (.getstatic 40, 3) := by decide +kernel
theorem d_Names_sidesLevel_10 : decode b_Names_sidesLevel 10 = .ok (.iload_n 1, 1) := by decide +kernel
theorem d_Names_sidesLevel_11 : decode b_Names_sidesLevel 11 = .ok (.aaload, 1) := by decide +kernel
theorem d_Names_sidesLevel_12 : decode b_Names_sidesLevel 12 = .ok (.getfield 102, 3) := by decide +kernel
theorem d_Names_sidesLevel_15 : decode b_Names_sidesLevel 15 = .ok (.goto 4, 3) := by decide +kernel
theorem d_Names_sidesLevel_18 : decode b_Names_sidesLevel 18 = .ok (.iconst 0, 1) := by decide +kernel
theorem d_Names_sidesLevel_19 : decode b_Names_sidesLevel 19 = .ok (.ireturn, 1) := by decide +kernel
def p_Names_sidesLevel (name : Int32) (a_textsSize : Int32) (a_sizeBefore : Int32) : Option Int32 := (p_Names_isKnown name).bind (fun r1 => if r1 = 0 then (some (0 : Int32)) else (ck (ixb name 24) (some (kn_level.getD name.toNatClampNeg 0))))
set_option maxHeartbeats 4000000 in
set_option maxRecDepth 100000 in
theorem c_Names_sidesLevel (l : Launch) (g : va_G) (cs : Nat → ClassId) (ka : Nat → Nat) (a_texts : Nat) (a_ends : Nat) (a_older : Nat) (a_newest : Nat) (a : Nat) (sz : Nat) (name : Int32) (a_textsSize : Int32) (a_sizeBefore : Int32) (r : Int32) (hok : p_Names_sidesLevel name a_textsSize a_sizeBefore = some r) : Met l y_Names_sidesLevel (.code y_Names_sidesLevel b_Names_sidesLevel 2 (some .int) :: GW) { frames := 1, cells := 0, slots := 0, locals := 20 } (va_Pc [.ref a, .int name] (gP g cs ka [(a, .inr (2, [.ref a_texts, .int a_textsSize, .ref a_ends, .ref a_older, .ref a_newest, .int a_sizeBefore]))] sz)) (va_Qi (fun (r' : Int32) (_ : Unit) => r = r') (fun _ t => va_P g classes [(a, .inr (2, [.ref a_texts, .int a_textsSize, .ref a_ends, .ref a_older, .ref a_newest, .int a_sizeBefore]))] t.heap ∧ va_D (va_A [(a, .inr (2, [.ref a_texts, .int a_textsSize, .ref a_ends, .ref a_older, .ref a_newest, .int a_sizeBefore]))] sz) [(a, .inr (2, [.ref a_texts, .int a_textsSize, .ref a_ends, .ref a_older, .ref a_newest, .int a_sizeBefore]))]) (va_A [(a, .inr (2, [.ref a_texts, .int a_textsSize, .ref a_ends, .ref a_older, .ref a_newest, .int a_sizeBefore]))] sz)) 0 0 (va_A [(a, .inr (2, [.ref a_texts, .int a_textsSize, .ref a_ends, .ref a_older, .ref a_newest, .int a_sizeBefore]))] sz) := by
  refine Met.ofW (cc := b_Names_sidesLevel) (maxL := 2) (ret := (some .int)) (by decide) rfl ?_
  intro p e s m args below meth c s₁ B hml hv
  obtain ⟨rfl, hsz, hP, hK, hD0, hgl, hkn, hkr⟩ := hv
  have hx := B.exec
  have hb := B.bytes
  have hr := B.returns
  have hg : ∀ w ∈ GW, w.before ([.ref a, .int name] : List Value).toArray s = true := fun w hw => atoms_spec (ws := .code y_Names_sidesLevel b_Names_sidesLevel 2 (some .int) :: GW) B.pre w (List.mem_cons_of_mem _ hw)
  have hown : s.vm.findClass R_Names = some m.cls := findClass_of_methodNamed B.named
  have hlocks := B.notSynchronized
  subst hsz
  have hD := hD0.self (sz := s.heap.size)
  generalize hAe : va_A [(a, .inr (2, [.ref a_texts, .int a_textsSize, .ref a_ends, .ref a_older, .ref a_newest, .int a_sizeBefore]))] s.heap.size = A at hD hkn ⊢
  have hA : ∀ q : Nat, s.heap.size ≤ q → A q := fun q h => by rw [← hAe]; exact Or.inr h
  have hS : va_S A s.heap s.heap [] := va_S.rf
  have hP : va_P g classes [(a, .inr (2, [.ref a_texts, .int a_textsSize, .ref a_ends, .ref a_older, .ref a_newest, .int a_sizeBefore]))] s.heap := hP
  have hl := lv_entry ([.ref a, .int name]) (n := 2) (Nat.le_of_ble_eq_true rfl)
  rw [lg_entry_eq]
  generalize (lg_sl ([.ref a, .int name]) ++ List.replicate (2 - (lg_sl ([.ref a, .int name])).length) Slot.unset).toArray = ls at hl ⊢
  have hl : lv_has ls 2 [(0, .ref a), (1, .int name)] := hl
  refine gq (fun Q hQ => ?_)
  obtain ⟨H, hH⟩ : ∃ H : Heap, H = s.heap := ⟨_, rfl⟩
  rw [← hH] at hP
  have hS : va_S A s.heap H [] := by rw [hH]; exact hS
  refine W.eqH hH ?_
  obtain ⟨locs, hlc⟩ : ∃ L : List Loc, L = [] := ⟨_, rfl⟩
  rw [← hlc] at hS ⊢
  unfold p_Names_sidesLevel at hok
  refine lv_iload_n hx hb d_Names_sidesLevel_0 rfl (lv_at hl 1 rfl) ?_
  obtain ⟨r1, hc1, hok⟩ := bd_some hok
  obtain ⟨hPc, hDc, hFc⟩ := cut0 (wc := []) hP hD hS hA [] (by decide) rfl
  refine va_calli (va_runS (As := [.int name]) (rest := []) ⟨hx, hb, hml, hown, hg⟩ (c_Names_isKnown l g cs ka H.size name r1 hc1) (va_cwS 1 hg (gw_S wd_405 wd_406 wd_287 wd_404) rfl rfl rfl (by decide +kernel) ⟨Nat.le_of_ble_eq_true rfl, Nat.le_of_ble_eq_true rfl⟩) ⟨gP_blind, gP_pre hPc hDc hK hgl hkn hkr hS hFc⟩ rfl rfl hl.1 rfl (lv_room (Nat.le_of_ble_eq_true rfl)) d_Names_sidesLevel_1 ⟨Nat.le_of_ble_eq_true rfl, Nat.le_of_ble_eq_true rfl⟩) hS (fun q _ h => hFc q h) hFc (fun r1' u t H locs ht hvm hr1 hB hz1 hk1 hS => ?_)
  subst hr1
  rw [ht] at hB
  obtain ⟨hP1, hD1⟩ := hB
  obtain ⟨hP, hD⟩ := jn_A hP hD [] [0] rfl rfl (by decide) (by decide) hk1 hFc hP1 hD1
  obtain ⟨hP, hD⟩ : PD g A H [(a, .inr (2, [.ref a_texts, .int a_textsSize, .ref a_ends, .ref a_older, .ref a_newest, .int a_sizeBefore]))] := ⟨hP, hD⟩
  refine lv_if_eq hx hb d_Names_sidesLevel_4 rfl (fun h2 => ?_) (fun h2 => ?_)
  · rw [if_pos h2] at hok
    refine lv_iconst (v := 0) hx hb d_Names_sidesLevel_18 (by decide) ?_
    have hq := Option.some.inj hok
    have hq0 := hq
    subst hq0
    obtain ⟨hP9, hD9⟩ := sub2 (ws' := [(a, .inr (2, [.ref a_texts, .int a_textsSize, .ref a_ends, .ref a_older, .ref a_newest, .int a_sizeBefore]))]) hP hD [0] rfl (by decide) rfl
    rw [hQ]
    exact W.iret (v := 0) hx hb hr (fun t ht hW => ⟨⟨_, (), rfl, rfl, by rw [ht]; exact hP9, hD9⟩, hS.F ht⟩) hS.2.2 d_Names_sidesLevel_19
  · rw [if_neg h2] at hok
    refine va_getsN hx hb hkn.1 hS hown (va_Nw.use rfl (hgl _ wd_403)) (fun _ h9 => h9) d_Names_sidesLevel_7 ?_
    refine lv_iload_n hx hb d_Names_sidesLevel_10 rfl (lv_at hl 1 rfl) ?_
    obtain ⟨hi3, hok⟩ := ck_some hok
    refine vb_tq hx hb hkn.2.1 hS (ixb_in hi3) rfl d_Names_sidesLevel_11 ?_
    refine vk_getfN hx hb (hkn.2.2.1 name.toNatClampNeg (ixb_lt hi3)).2.1 hS hown (va_Nw.use rfl (hgl _ wd_407)) (fun _ h9 => h9) d_Names_sidesLevel_12 ?_
    refine lv_goto hx hb d_Names_sidesLevel_15 rfl ?_
    have hq := Option.some.inj hok
    have hq0 := hq
    subst hq0
    obtain ⟨hP9, hD9⟩ := sub2 (ws' := [(a, .inr (2, [.ref a_texts, .int a_textsSize, .ref a_ends, .ref a_older, .ref a_newest, .int a_sizeBefore]))]) hP hD [0] rfl (by decide) rfl
    rw [hQ]
    exact W.iret (v := kn_level.getD name.toNatClampNeg 0) hx hb hr (fun t ht hW => ⟨⟨_, (), rfl, rfl, by rw [ht]; exact hP9, hD9⟩, hS.F ht⟩) hS.2.2 d_Names_sidesLevel_19

theorem d_Names_leftMost_0 : decode b_Names_leftMost 0 = .ok (.iload_n 1, 1) := by decide +kernel
theorem d_Names_leftMost_1 : decode b_Names_leftMost 1 = .ok (.invokestatic 98, 3) := by decide +kernel
theorem d_Names_leftMost_4 : decode b_Names_leftMost 4 = .ok (.ifCond .eq 14, 3) := by decide +kernel
theorem d_Names_leftMost_7 : decode b_Names_leftMost 7 = .ok (.getstatic 40, 3) := by decide +kernel
theorem d_Names_leftMost_10 : decode b_Names_leftMost 10 = .ok (.iload_n 1, 1) := by decide +kernel
theorem d_Names_leftMost_11 : decode b_Names_leftMost 11 = .ok (.aaload, 1) := by decide +kernel
theorem d_Names_leftMost_12 : decode b_Names_leftMost 12 = .ok (.getfield 105, 3) := by decide +kernel
theorem d_Names_leftMost_15 : decode b_Names_leftMost 15 = .ok (.goto 4, 3) := by decide +kernel
theorem d_Names_leftMost_18 : decode b_Names_leftMost 18 = .ok (.iconst 0, 1) := by decide +kernel
theorem d_Names_leftMost_19 : decode b_Names_leftMost 19 = .ok (.ireturn, 1) := by decide +kernel
def p_Names_leftMost (name : Int32) (a_textsSize : Int32) (a_sizeBefore : Int32) : Option Int32 := (p_Names_isKnown name).bind (fun r1 => if r1 = 0 then (some (0 : Int32)) else (ck (ixb name 24) (some (kn_left.getD name.toNatClampNeg 0))))
set_option maxHeartbeats 4000000 in
set_option maxRecDepth 100000 in
theorem c_Names_leftMost (l : Launch) (g : va_G) (cs : Nat → ClassId) (ka : Nat → Nat) (a_texts : Nat) (a_ends : Nat) (a_older : Nat) (a_newest : Nat) (a : Nat) (sz : Nat) (name : Int32) (a_textsSize : Int32) (a_sizeBefore : Int32) (r : Int32) (hok : p_Names_leftMost name a_textsSize a_sizeBefore = some r) : Met l y_Names_leftMost (.code y_Names_leftMost b_Names_leftMost 2 (some .int) :: GW) { frames := 1, cells := 0, slots := 0, locals := 20 } (va_Pc [.ref a, .int name] (gP g cs ka [(a, .inr (2, [.ref a_texts, .int a_textsSize, .ref a_ends, .ref a_older, .ref a_newest, .int a_sizeBefore]))] sz)) (va_Qi (fun (r' : Int32) (_ : Unit) => r = r') (fun _ t => va_P g classes [(a, .inr (2, [.ref a_texts, .int a_textsSize, .ref a_ends, .ref a_older, .ref a_newest, .int a_sizeBefore]))] t.heap ∧ va_D (va_A [(a, .inr (2, [.ref a_texts, .int a_textsSize, .ref a_ends, .ref a_older, .ref a_newest, .int a_sizeBefore]))] sz) [(a, .inr (2, [.ref a_texts, .int a_textsSize, .ref a_ends, .ref a_older, .ref a_newest, .int a_sizeBefore]))]) (va_A [(a, .inr (2, [.ref a_texts, .int a_textsSize, .ref a_ends, .ref a_older, .ref a_newest, .int a_sizeBefore]))] sz)) 0 0 (va_A [(a, .inr (2, [.ref a_texts, .int a_textsSize, .ref a_ends, .ref a_older, .ref a_newest, .int a_sizeBefore]))] sz) := by
  refine Met.ofW (cc := b_Names_leftMost) (maxL := 2) (ret := (some .int)) (by decide) rfl ?_
  intro p e s m args below meth c s₁ B hml hv
  obtain ⟨rfl, hsz, hP, hK, hD0, hgl, hkn, hkr⟩ := hv
  have hx := B.exec
  have hb := B.bytes
  have hr := B.returns
  have hg : ∀ w ∈ GW, w.before ([.ref a, .int name] : List Value).toArray s = true := fun w hw => atoms_spec (ws := .code y_Names_leftMost b_Names_leftMost 2 (some .int) :: GW) B.pre w (List.mem_cons_of_mem _ hw)
  have hown : s.vm.findClass R_Names = some m.cls := findClass_of_methodNamed B.named
  have hlocks := B.notSynchronized
  subst hsz
  have hD := hD0.self (sz := s.heap.size)
  generalize hAe : va_A [(a, .inr (2, [.ref a_texts, .int a_textsSize, .ref a_ends, .ref a_older, .ref a_newest, .int a_sizeBefore]))] s.heap.size = A at hD hkn ⊢
  have hA : ∀ q : Nat, s.heap.size ≤ q → A q := fun q h => by rw [← hAe]; exact Or.inr h
  have hS : va_S A s.heap s.heap [] := va_S.rf
  have hP : va_P g classes [(a, .inr (2, [.ref a_texts, .int a_textsSize, .ref a_ends, .ref a_older, .ref a_newest, .int a_sizeBefore]))] s.heap := hP
  have hl := lv_entry ([.ref a, .int name]) (n := 2) (Nat.le_of_ble_eq_true rfl)
  rw [lg_entry_eq]
  generalize (lg_sl ([.ref a, .int name]) ++ List.replicate (2 - (lg_sl ([.ref a, .int name])).length) Slot.unset).toArray = ls at hl ⊢
  have hl : lv_has ls 2 [(0, .ref a), (1, .int name)] := hl
  refine gq (fun Q hQ => ?_)
  obtain ⟨H, hH⟩ : ∃ H : Heap, H = s.heap := ⟨_, rfl⟩
  rw [← hH] at hP
  have hS : va_S A s.heap H [] := by rw [hH]; exact hS
  refine W.eqH hH ?_
  obtain ⟨locs, hlc⟩ : ∃ L : List Loc, L = [] := ⟨_, rfl⟩
  rw [← hlc] at hS ⊢
  unfold p_Names_leftMost at hok
  refine lv_iload_n hx hb d_Names_leftMost_0 rfl (lv_at hl 1 rfl) ?_
  obtain ⟨r1, hc1, hok⟩ := bd_some hok
  obtain ⟨hPc, hDc, hFc⟩ := cut0 (wc := []) hP hD hS hA [] (by decide) rfl
  refine va_calli (va_runS (As := [.int name]) (rest := []) ⟨hx, hb, hml, hown, hg⟩ (c_Names_isKnown l g cs ka H.size name r1 hc1) (va_cwS 1 hg (gw_S wd_405 wd_406 wd_287 wd_404) rfl rfl rfl (by decide +kernel) ⟨Nat.le_of_ble_eq_true rfl, Nat.le_of_ble_eq_true rfl⟩) ⟨gP_blind, gP_pre hPc hDc hK hgl hkn hkr hS hFc⟩ rfl rfl hl.1 rfl (lv_room (Nat.le_of_ble_eq_true rfl)) d_Names_leftMost_1 ⟨Nat.le_of_ble_eq_true rfl, Nat.le_of_ble_eq_true rfl⟩) hS (fun q _ h => hFc q h) hFc (fun r1' u t H locs ht hvm hr1 hB hz1 hk1 hS => ?_)
  subst hr1
  rw [ht] at hB
  obtain ⟨hP1, hD1⟩ := hB
  obtain ⟨hP, hD⟩ := jn_A hP hD [] [0] rfl rfl (by decide) (by decide) hk1 hFc hP1 hD1
  obtain ⟨hP, hD⟩ : PD g A H [(a, .inr (2, [.ref a_texts, .int a_textsSize, .ref a_ends, .ref a_older, .ref a_newest, .int a_sizeBefore]))] := ⟨hP, hD⟩
  refine lv_if_eq hx hb d_Names_leftMost_4 rfl (fun h2 => ?_) (fun h2 => ?_)
  · rw [if_pos h2] at hok
    refine lv_iconst (v := 0) hx hb d_Names_leftMost_18 (by decide) ?_
    have hq := Option.some.inj hok
    have hq0 := hq
    subst hq0
    obtain ⟨hP9, hD9⟩ := sub2 (ws' := [(a, .inr (2, [.ref a_texts, .int a_textsSize, .ref a_ends, .ref a_older, .ref a_newest, .int a_sizeBefore]))]) hP hD [0] rfl (by decide) rfl
    rw [hQ]
    exact W.iret (v := 0) hx hb hr (fun t ht hW => ⟨⟨_, (), rfl, rfl, by rw [ht]; exact hP9, hD9⟩, hS.F ht⟩) hS.2.2 d_Names_leftMost_19
  · rw [if_neg h2] at hok
    refine va_getsN hx hb hkn.1 hS hown (va_Nw.use rfl (hgl _ wd_403)) (fun _ h9 => h9) d_Names_leftMost_7 ?_
    refine lv_iload_n hx hb d_Names_leftMost_10 rfl (lv_at hl 1 rfl) ?_
    obtain ⟨hi3, hok⟩ := ck_some hok
    refine vb_tq hx hb hkn.2.1 hS (ixb_in hi3) rfl d_Names_leftMost_11 ?_
    refine vk_getfN hx hb (hkn.2.2.1 name.toNatClampNeg (ixb_lt hi3)).2.2.1 hS hown (va_Nw.use rfl (hgl _ wd_408)) (fun _ h9 => h9) d_Names_leftMost_12 ?_
    refine lv_goto hx hb d_Names_leftMost_15 rfl ?_
    have hq := Option.some.inj hok
    have hq0 := hq
    subst hq0
    obtain ⟨hP9, hD9⟩ := sub2 (ws' := [(a, .inr (2, [.ref a_texts, .int a_textsSize, .ref a_ends, .ref a_older, .ref a_newest, .int a_sizeBefore]))]) hP hD [0] rfl (by decide) rfl
    rw [hQ]
    exact W.iret (v := kn_left.getD name.toNatClampNeg 0) hx hb hr (fun t ht hW => ⟨⟨_, (), rfl, rfl, by rw [ht]; exact hP9, hD9⟩, hS.F ht⟩) hS.2.2 d_Names_leftMost_19

theorem d_Names_rightMost_0 : decode b_Names_rightMost 0 = .ok (.iload_n 1, 1) := by decide +kernel
theorem d_Names_rightMost_1 : decode b_Names_rightMost 1 = .ok (.invokestatic 98, 3) := by decide +kernel
theorem d_Names_rightMost_4 : decode b_Names_rightMost 4 = .ok (.ifCond .eq 14, 3) := by decide +kernel
theorem d_Names_rightMost_7 : decode b_Names_rightMost 7 = .ok (.getstatic 40, 3) := by decide +kernel
theorem d_Names_rightMost_10 : decode b_Names_rightMost 10 = .ok (.iload_n 1, 1) := by decide +kernel
theorem d_Names_rightMost_11 : decode b_Names_rightMost 11 = .ok (.aaload, 1) := by decide +kernel
theorem d_Names_rightMost_12 : decode b_Names_rightMost 12 = .ok (.getfield 108, 3) := by decide +kernel
theorem d_Names_rightMost_15 : decode b_Names_rightMost 15 = .ok (.goto 4, 3) := by decide +kernel
theorem d_Names_rightMost_18 : decode b_Names_rightMost 18 = .ok (.iconst 0, 1) := by decide +kernel
theorem d_Names_rightMost_19 : decode b_Names_rightMost 19 = .ok (.ireturn, 1) := by decide +kernel
def p_Names_rightMost (name : Int32) (a_textsSize : Int32) (a_sizeBefore : Int32) : Option Int32 := (p_Names_isKnown name).bind (fun r1 => if r1 = 0 then (some (0 : Int32)) else (ck (ixb name 24) (some (kn_right.getD name.toNatClampNeg 0))))
set_option maxHeartbeats 4000000 in
set_option maxRecDepth 100000 in
theorem c_Names_rightMost (l : Launch) (g : va_G) (cs : Nat → ClassId) (ka : Nat → Nat) (a_texts : Nat) (a_ends : Nat) (a_older : Nat) (a_newest : Nat) (a : Nat) (sz : Nat) (name : Int32) (a_textsSize : Int32) (a_sizeBefore : Int32) (r : Int32) (hok : p_Names_rightMost name a_textsSize a_sizeBefore = some r) : Met l y_Names_rightMost (.code y_Names_rightMost b_Names_rightMost 2 (some .int) :: GW) { frames := 1, cells := 0, slots := 0, locals := 20 } (va_Pc [.ref a, .int name] (gP g cs ka [(a, .inr (2, [.ref a_texts, .int a_textsSize, .ref a_ends, .ref a_older, .ref a_newest, .int a_sizeBefore]))] sz)) (va_Qi (fun (r' : Int32) (_ : Unit) => r = r') (fun _ t => va_P g classes [(a, .inr (2, [.ref a_texts, .int a_textsSize, .ref a_ends, .ref a_older, .ref a_newest, .int a_sizeBefore]))] t.heap ∧ va_D (va_A [(a, .inr (2, [.ref a_texts, .int a_textsSize, .ref a_ends, .ref a_older, .ref a_newest, .int a_sizeBefore]))] sz) [(a, .inr (2, [.ref a_texts, .int a_textsSize, .ref a_ends, .ref a_older, .ref a_newest, .int a_sizeBefore]))]) (va_A [(a, .inr (2, [.ref a_texts, .int a_textsSize, .ref a_ends, .ref a_older, .ref a_newest, .int a_sizeBefore]))] sz)) 0 0 (va_A [(a, .inr (2, [.ref a_texts, .int a_textsSize, .ref a_ends, .ref a_older, .ref a_newest, .int a_sizeBefore]))] sz) := by
  refine Met.ofW (cc := b_Names_rightMost) (maxL := 2) (ret := (some .int)) (by decide) rfl ?_
  intro p e s m args below meth c s₁ B hml hv
  obtain ⟨rfl, hsz, hP, hK, hD0, hgl, hkn, hkr⟩ := hv
  have hx := B.exec
  have hb := B.bytes
  have hr := B.returns
  have hg : ∀ w ∈ GW, w.before ([.ref a, .int name] : List Value).toArray s = true := fun w hw => atoms_spec (ws := .code y_Names_rightMost b_Names_rightMost 2 (some .int) :: GW) B.pre w (List.mem_cons_of_mem _ hw)
  have hown : s.vm.findClass R_Names = some m.cls := findClass_of_methodNamed B.named
  have hlocks := B.notSynchronized
  subst hsz
  have hD := hD0.self (sz := s.heap.size)
  generalize hAe : va_A [(a, .inr (2, [.ref a_texts, .int a_textsSize, .ref a_ends, .ref a_older, .ref a_newest, .int a_sizeBefore]))] s.heap.size = A at hD hkn ⊢
  have hA : ∀ q : Nat, s.heap.size ≤ q → A q := fun q h => by rw [← hAe]; exact Or.inr h
  have hS : va_S A s.heap s.heap [] := va_S.rf
  have hP : va_P g classes [(a, .inr (2, [.ref a_texts, .int a_textsSize, .ref a_ends, .ref a_older, .ref a_newest, .int a_sizeBefore]))] s.heap := hP
  have hl := lv_entry ([.ref a, .int name]) (n := 2) (Nat.le_of_ble_eq_true rfl)
  rw [lg_entry_eq]
  generalize (lg_sl ([.ref a, .int name]) ++ List.replicate (2 - (lg_sl ([.ref a, .int name])).length) Slot.unset).toArray = ls at hl ⊢
  have hl : lv_has ls 2 [(0, .ref a), (1, .int name)] := hl
  refine gq (fun Q hQ => ?_)
  obtain ⟨H, hH⟩ : ∃ H : Heap, H = s.heap := ⟨_, rfl⟩
  rw [← hH] at hP
  have hS : va_S A s.heap H [] := by rw [hH]; exact hS
  refine W.eqH hH ?_
  obtain ⟨locs, hlc⟩ : ∃ L : List Loc, L = [] := ⟨_, rfl⟩
  rw [← hlc] at hS ⊢
  unfold p_Names_rightMost at hok
  refine lv_iload_n hx hb d_Names_rightMost_0 rfl (lv_at hl 1 rfl) ?_
  obtain ⟨r1, hc1, hok⟩ := bd_some hok
  obtain ⟨hPc, hDc, hFc⟩ := cut0 (wc := []) hP hD hS hA [] (by decide) rfl
  refine va_calli (va_runS (As := [.int name]) (rest := []) ⟨hx, hb, hml, hown, hg⟩ (c_Names_isKnown l g cs ka H.size name r1 hc1) (va_cwS 1 hg (gw_S wd_405 wd_406 wd_287 wd_404) rfl rfl rfl (by decide +kernel) ⟨Nat.le_of_ble_eq_true rfl, Nat.le_of_ble_eq_true rfl⟩) ⟨gP_blind, gP_pre hPc hDc hK hgl hkn hkr hS hFc⟩ rfl rfl hl.1 rfl (lv_room (Nat.le_of_ble_eq_true rfl)) d_Names_rightMost_1 ⟨Nat.le_of_ble_eq_true rfl, Nat.le_of_ble_eq_true rfl⟩) hS (fun q _ h => hFc q h) hFc (fun r1' u t H locs ht hvm hr1 hB hz1 hk1 hS => ?_)
  subst hr1
  rw [ht] at hB
  obtain ⟨hP1, hD1⟩ := hB
  obtain ⟨hP, hD⟩ := jn_A hP hD [] [0] rfl rfl (by decide) (by decide) hk1 hFc hP1 hD1
  obtain ⟨hP, hD⟩ : PD g A H [(a, .inr (2, [.ref a_texts, .int a_textsSize, .ref a_ends, .ref a_older, .ref a_newest, .int a_sizeBefore]))] := ⟨hP, hD⟩
  refine lv_if_eq hx hb d_Names_rightMost_4 rfl (fun h2 => ?_) (fun h2 => ?_)
  · rw [if_pos h2] at hok
    refine lv_iconst (v := 0) hx hb d_Names_rightMost_18 (by decide) ?_
    have hq := Option.some.inj hok
    have hq0 := hq
    subst hq0
    obtain ⟨hP9, hD9⟩ := sub2 (ws' := [(a, .inr (2, [.ref a_texts, .int a_textsSize, .ref a_ends, .ref a_older, .ref a_newest, .int a_sizeBefore]))]) hP hD [0] rfl (by decide) rfl
    rw [hQ]
    exact W.iret (v := 0) hx hb hr (fun t ht hW => ⟨⟨_, (), rfl, rfl, by rw [ht]; exact hP9, hD9⟩, hS.F ht⟩) hS.2.2 d_Names_rightMost_19
  · rw [if_neg h2] at hok
    refine va_getsN hx hb hkn.1 hS hown (va_Nw.use rfl (hgl _ wd_403)) (fun _ h9 => h9) d_Names_rightMost_7 ?_
    refine lv_iload_n hx hb d_Names_rightMost_10 rfl (lv_at hl 1 rfl) ?_
    obtain ⟨hi3, hok⟩ := ck_some hok
    refine vb_tq hx hb hkn.2.1 hS (ixb_in hi3) rfl d_Names_rightMost_11 ?_
    refine vk_getfN hx hb (hkn.2.2.1 name.toNatClampNeg (ixb_lt hi3)).2.2.2.1 hS hown (va_Nw.use rfl (hgl _ wd_409)) (fun _ h9 => h9) d_Names_rightMost_12 ?_
    refine lv_goto hx hb d_Names_rightMost_15 rfl ?_
    have hq := Option.some.inj hok
    have hq0 := hq
    subst hq0
    obtain ⟨hP9, hD9⟩ := sub2 (ws' := [(a, .inr (2, [.ref a_texts, .int a_textsSize, .ref a_ends, .ref a_older, .ref a_newest, .int a_sizeBefore]))]) hP hD [0] rfl (by decide) rfl
    rw [hQ]
    exact W.iret (v := kn_right.getD name.toNatClampNeg 0) hx hb hr (fun t ht hW => ⟨⟨_, (), rfl, rfl, by rw [ht]; exact hP9, hD9⟩, hS.F ht⟩) hS.2.2 d_Names_rightMost_19

theorem d_Names_prefixLevel_0 : decode b_Names_prefixLevel 0 = .ok (.iload_n 1, 1) := by decide +kernel
theorem d_Names_prefixLevel_1 : decode b_Names_prefixLevel 1 = .ok (.invokestatic 98, 3) := by decide +kernel
theorem d_Names_prefixLevel_4 : decode b_Names_prefixLevel 4 = .ok (.ifCond .eq 14, 3) := by decide +kernel
theorem d_Names_prefixLevel_7 : decode b_Names_prefixLevel 7 = .ok (.getstatic 40, 3) := by decide +kernel
theorem d_Names_prefixLevel_10 : decode b_Names_prefixLevel 10 = .ok (.iload_n 1, 1) := by decide +kernel
theorem d_Names_prefixLevel_11 : decode b_Names_prefixLevel 11 = .ok (.aaload, 1) := by decide +kernel
theorem d_Names_prefixLevel_12 : decode b_Names_prefixLevel 12 = .ok (.getfield 111, 3) := by decide +kernel
theorem d_Names_prefixLevel_15 : decode b_Names_prefixLevel 15 = .ok (.goto 4, 3) := by decide +kernel
theorem d_Names_prefixLevel_18 : decode b_Names_prefixLevel 18 = .ok (.iconst 0, 1) := by decide +kernel
theorem d_Names_prefixLevel_19 : decode b_Names_prefixLevel 19 = .ok (.ireturn, 1) := by decide +kernel
def p_Names_prefixLevel (name : Int32) (a_textsSize : Int32) (a_sizeBefore : Int32) : Option Int32 := (p_Names_isKnown name).bind (fun r1 => if r1 = 0 then (some (0 : Int32)) else (ck (ixb name 24) (some (kn_prefixLevel.getD name.toNatClampNeg 0))))
set_option maxHeartbeats 4000000 in
set_option maxRecDepth 100000 in
theorem c_Names_prefixLevel (l : Launch) (g : va_G) (cs : Nat → ClassId) (ka : Nat → Nat) (a_texts : Nat) (a_ends : Nat) (a_older : Nat) (a_newest : Nat) (a : Nat) (sz : Nat) (name : Int32) (a_textsSize : Int32) (a_sizeBefore : Int32) (r : Int32) (hok : p_Names_prefixLevel name a_textsSize a_sizeBefore = some r) : Met l y_Names_prefixLevel (.code y_Names_prefixLevel b_Names_prefixLevel 2 (some .int) :: GW) { frames := 1, cells := 0, slots := 0, locals := 20 } (va_Pc [.ref a, .int name] (gP g cs ka [(a, .inr (2, [.ref a_texts, .int a_textsSize, .ref a_ends, .ref a_older, .ref a_newest, .int a_sizeBefore]))] sz)) (va_Qi (fun (r' : Int32) (_ : Unit) => r = r') (fun _ t => va_P g classes [(a, .inr (2, [.ref a_texts, .int a_textsSize, .ref a_ends, .ref a_older, .ref a_newest, .int a_sizeBefore]))] t.heap ∧ va_D (va_A [(a, .inr (2, [.ref a_texts, .int a_textsSize, .ref a_ends, .ref a_older, .ref a_newest, .int a_sizeBefore]))] sz) [(a, .inr (2, [.ref a_texts, .int a_textsSize, .ref a_ends, .ref a_older, .ref a_newest, .int a_sizeBefore]))]) (va_A [(a, .inr (2, [.ref a_texts, .int a_textsSize, .ref a_ends, .ref a_older, .ref a_newest, .int a_sizeBefore]))] sz)) 0 0 (va_A [(a, .inr (2, [.ref a_texts, .int a_textsSize, .ref a_ends, .ref a_older, .ref a_newest, .int a_sizeBefore]))] sz) := by
  refine Met.ofW (cc := b_Names_prefixLevel) (maxL := 2) (ret := (some .int)) (by decide) rfl ?_
  intro p e s m args below meth c s₁ B hml hv
  obtain ⟨rfl, hsz, hP, hK, hD0, hgl, hkn, hkr⟩ := hv
  have hx := B.exec
  have hb := B.bytes
  have hr := B.returns
  have hg : ∀ w ∈ GW, w.before ([.ref a, .int name] : List Value).toArray s = true := fun w hw => atoms_spec (ws := .code y_Names_prefixLevel b_Names_prefixLevel 2 (some .int) :: GW) B.pre w (List.mem_cons_of_mem _ hw)
  have hown : s.vm.findClass R_Names = some m.cls := findClass_of_methodNamed B.named
  have hlocks := B.notSynchronized
  subst hsz
  have hD := hD0.self (sz := s.heap.size)
  generalize hAe : va_A [(a, .inr (2, [.ref a_texts, .int a_textsSize, .ref a_ends, .ref a_older, .ref a_newest, .int a_sizeBefore]))] s.heap.size = A at hD hkn ⊢
  have hA : ∀ q : Nat, s.heap.size ≤ q → A q := fun q h => by rw [← hAe]; exact Or.inr h
  have hS : va_S A s.heap s.heap [] := va_S.rf
  have hP : va_P g classes [(a, .inr (2, [.ref a_texts, .int a_textsSize, .ref a_ends, .ref a_older, .ref a_newest, .int a_sizeBefore]))] s.heap := hP
  have hl := lv_entry ([.ref a, .int name]) (n := 2) (Nat.le_of_ble_eq_true rfl)
  rw [lg_entry_eq]
  generalize (lg_sl ([.ref a, .int name]) ++ List.replicate (2 - (lg_sl ([.ref a, .int name])).length) Slot.unset).toArray = ls at hl ⊢
  have hl : lv_has ls 2 [(0, .ref a), (1, .int name)] := hl
  refine gq (fun Q hQ => ?_)
  obtain ⟨H, hH⟩ : ∃ H : Heap, H = s.heap := ⟨_, rfl⟩
  rw [← hH] at hP
  have hS : va_S A s.heap H [] := by rw [hH]; exact hS
  refine W.eqH hH ?_
  obtain ⟨locs, hlc⟩ : ∃ L : List Loc, L = [] := ⟨_, rfl⟩
  rw [← hlc] at hS ⊢
  unfold p_Names_prefixLevel at hok
  refine lv_iload_n hx hb d_Names_prefixLevel_0 rfl (lv_at hl 1 rfl) ?_
  obtain ⟨r1, hc1, hok⟩ := bd_some hok
  obtain ⟨hPc, hDc, hFc⟩ := cut0 (wc := []) hP hD hS hA [] (by decide) rfl
  refine va_calli (va_runS (As := [.int name]) (rest := []) ⟨hx, hb, hml, hown, hg⟩ (c_Names_isKnown l g cs ka H.size name r1 hc1) (va_cwS 1 hg (gw_S wd_405 wd_406 wd_287 wd_404) rfl rfl rfl (by decide +kernel) ⟨Nat.le_of_ble_eq_true rfl, Nat.le_of_ble_eq_true rfl⟩) ⟨gP_blind, gP_pre hPc hDc hK hgl hkn hkr hS hFc⟩ rfl rfl hl.1 rfl (lv_room (Nat.le_of_ble_eq_true rfl)) d_Names_prefixLevel_1 ⟨Nat.le_of_ble_eq_true rfl, Nat.le_of_ble_eq_true rfl⟩) hS (fun q _ h => hFc q h) hFc (fun r1' u t H locs ht hvm hr1 hB hz1 hk1 hS => ?_)
  subst hr1
  rw [ht] at hB
  obtain ⟨hP1, hD1⟩ := hB
  obtain ⟨hP, hD⟩ := jn_A hP hD [] [0] rfl rfl (by decide) (by decide) hk1 hFc hP1 hD1
  obtain ⟨hP, hD⟩ : PD g A H [(a, .inr (2, [.ref a_texts, .int a_textsSize, .ref a_ends, .ref a_older, .ref a_newest, .int a_sizeBefore]))] := ⟨hP, hD⟩
  refine lv_if_eq hx hb d_Names_prefixLevel_4 rfl (fun h2 => ?_) (fun h2 => ?_)
  · rw [if_pos h2] at hok
    refine lv_iconst (v := 0) hx hb d_Names_prefixLevel_18 (by decide) ?_
    have hq := Option.some.inj hok
    have hq0 := hq
    subst hq0
    obtain ⟨hP9, hD9⟩ := sub2 (ws' := [(a, .inr (2, [.ref a_texts, .int a_textsSize, .ref a_ends, .ref a_older, .ref a_newest, .int a_sizeBefore]))]) hP hD [0] rfl (by decide) rfl
    rw [hQ]
    exact W.iret (v := 0) hx hb hr (fun t ht hW => ⟨⟨_, (), rfl, rfl, by rw [ht]; exact hP9, hD9⟩, hS.F ht⟩) hS.2.2 d_Names_prefixLevel_19
  · rw [if_neg h2] at hok
    refine va_getsN hx hb hkn.1 hS hown (va_Nw.use rfl (hgl _ wd_403)) (fun _ h9 => h9) d_Names_prefixLevel_7 ?_
    refine lv_iload_n hx hb d_Names_prefixLevel_10 rfl (lv_at hl 1 rfl) ?_
    obtain ⟨hi3, hok⟩ := ck_some hok
    refine vb_tq hx hb hkn.2.1 hS (ixb_in hi3) rfl d_Names_prefixLevel_11 ?_
    refine vk_getfN hx hb (hkn.2.2.1 name.toNatClampNeg (ixb_lt hi3)).2.2.2.2 hS hown (va_Nw.use rfl (hgl _ wd_410)) (fun _ h9 => h9) d_Names_prefixLevel_12 ?_
    refine lv_goto hx hb d_Names_prefixLevel_15 rfl ?_
    have hq := Option.some.inj hok
    have hq0 := hq
    subst hq0
    obtain ⟨hP9, hD9⟩ := sub2 (ws' := [(a, .inr (2, [.ref a_texts, .int a_textsSize, .ref a_ends, .ref a_older, .ref a_newest, .int a_sizeBefore]))]) hP hD [0] rfl (by decide) rfl
    rw [hQ]
    exact W.iret (v := kn_prefixLevel.getD name.toNatClampNeg 0) hx hb hr (fun t ht hW => ⟨⟨_, (), rfl, rfl, by rw [ht]; exact hP9, hD9⟩, hS.F ht⟩) hS.2.2 d_Names_prefixLevel_19

theorem d_Names_forgetAll_0 : decode b_Names_forgetAll 0 = .ok (.aload_n 0, 1) := by decide +kernel
theorem d_Names_forgetAll_1 : decode b_Names_forgetAll 1 = .ok (.getstatic 40, 3) := by decide +kernel
theorem d_Names_forgetAll_4 : decode b_Names_forgetAll 4 = .ok (.arraylength, 1) := by decide +kernel
theorem d_Names_forgetAll_5 : decode b_Names_forgetAll 5 = .ok (.invokevirtual 115, 3) := by decide +kernel
theorem d_Names_forgetAll_8 : decode b_Names_forgetAll 8 = .ok (.return_, 1) := by decide +kernel
def p_Names_forgetAll (n : Nat) (a_textsSize : Int32) (a_sizeBefore : Int32) (a_texts_n : Nat) (a_texts_f : Nat → Int32) (a_ends_size : Int32) (a_ends_items_n : Nat) (a_ends_items_f : Nat → Int32) (a_older_size : Int32) (a_older_items_n : Nat) (a_older_items_f : Nat → Int32) (a_newest_n : Nat) (a_newest_f : Nat → Int32) : Option (Int32 × Int32 × (Nat → Int32)) := (p_Names_forgetFrom n (24 : Int32) a_textsSize a_sizeBefore a_texts_n a_texts_f a_ends_size a_ends_items_n a_ends_items_f a_older_size a_older_items_n a_older_items_f a_newest_n a_newest_f).bind (fun (a_ends_size_1, a_older_size_1, a_newest_f_1) => some (a_ends_size_1, a_older_size_1, a_newest_f_1))
set_option maxHeartbeats 4000000 in
set_option maxRecDepth 100000 in
theorem c_Names_forgetAll (l : Launch) (g : va_G) (cs : Nat → ClassId) (ka : Nat → Nat) (a a_texts a_ends a_ends_items a_older a_older_items a_newest : Nat) (sz : Nat) (n : Nat) (a_textsSize : Int32) (a_sizeBefore : Int32) (a_texts_n : Nat) (a_texts_f : Nat → Int32) (a_ends_size : Int32) (a_ends_items_n : Nat) (a_ends_items_f : Nat → Int32) (a_older_size : Int32) (a_older_items_n : Nat) (a_older_items_f : Nat → Int32) (a_newest_n : Nat) (a_newest_f : Nat → Int32) (o_a_ends_size : Int32) (o_a_older_size : Int32) (o_a_newest_f : Nat → Int32) (hok : p_Names_forgetAll n a_textsSize a_sizeBefore a_texts_n a_texts_f a_ends_size a_ends_items_n a_ends_items_f a_older_size a_older_items_n a_older_items_f a_newest_n a_newest_f = some (o_a_ends_size, o_a_older_size, o_a_newest_f)) : Met l y_Names_forgetAll (.code y_Names_forgetAll b_Names_forgetAll 1 none :: GW) { frames := 3, cells := 0, slots := 0, locals := 67 } (va_Pc [.ref a] (gP g cs ka [(a, .inr (2, [.ref a_texts, .int a_textsSize, .ref a_ends, .ref a_older, .ref a_newest, .int a_sizeBefore])), (a_texts, .inl (cs 1, a_texts_n, .inl a_texts_f)), (a_ends, .inr (1, [.ref a_ends_items, .int a_ends_size])), (a_ends_items, .inl (cs 0, a_ends_items_n, .inl a_ends_items_f)), (a_older, .inr (1, [.ref a_older_items, .int a_older_size])), (a_older_items, .inl (cs 0, a_older_items_n, .inl a_older_items_f)), (a_newest, .inl (cs 0, a_newest_n, .inl a_newest_f))] sz)) (va_Qv (fun _ : Unit => True) (fun _ t => va_P g classes [(a, .inr (2, [.ref a_texts, .int a_textsSize, .ref a_ends, .ref a_older, .ref a_newest, .int a_sizeBefore])), (a_texts, .inl (cs 1, a_texts_n, .inl a_texts_f)), (a_ends, .inr (1, [.ref a_ends_items, .int o_a_ends_size])), (a_ends_items, .inl (cs 0, a_ends_items_n, .inl a_ends_items_f)), (a_older, .inr (1, [.ref a_older_items, .int o_a_older_size])), (a_older_items, .inl (cs 0, a_older_items_n, .inl a_older_items_f)), (a_newest, .inl (cs 0, a_newest_n, .inl o_a_newest_f))] t.heap ∧ va_D (va_A [(a, .inr (2, [.ref a_texts, .int a_textsSize, .ref a_ends, .ref a_older, .ref a_newest, .int a_sizeBefore])), (a_texts, .inl (cs 1, a_texts_n, .inl a_texts_f)), (a_ends, .inr (1, [.ref a_ends_items, .int a_ends_size])), (a_ends_items, .inl (cs 0, a_ends_items_n, .inl a_ends_items_f)), (a_older, .inr (1, [.ref a_older_items, .int a_older_size])), (a_older_items, .inl (cs 0, a_older_items_n, .inl a_older_items_f)), (a_newest, .inl (cs 0, a_newest_n, .inl a_newest_f))] sz) [(a, .inr (2, [.ref a_texts, .int a_textsSize, .ref a_ends, .ref a_older, .ref a_newest, .int a_sizeBefore])), (a_texts, .inl (cs 1, a_texts_n, .inl a_texts_f)), (a_ends, .inr (1, [.ref a_ends_items, .int o_a_ends_size])), (a_ends_items, .inl (cs 0, a_ends_items_n, .inl a_ends_items_f)), (a_older, .inr (1, [.ref a_older_items, .int o_a_older_size])), (a_older_items, .inl (cs 0, a_older_items_n, .inl a_older_items_f)), (a_newest, .inl (cs 0, a_newest_n, .inl o_a_newest_f))]) (va_A [(a, .inr (2, [.ref a_texts, .int a_textsSize, .ref a_ends, .ref a_older, .ref a_newest, .int a_sizeBefore])), (a_texts, .inl (cs 1, a_texts_n, .inl a_texts_f)), (a_ends, .inr (1, [.ref a_ends_items, .int a_ends_size])), (a_ends_items, .inl (cs 0, a_ends_items_n, .inl a_ends_items_f)), (a_older, .inr (1, [.ref a_older_items, .int a_older_size])), (a_older_items, .inl (cs 0, a_older_items_n, .inl a_older_items_f)), (a_newest, .inl (cs 0, a_newest_n, .inl a_newest_f))] sz)) 0 0 (va_A [(a, .inr (2, [.ref a_texts, .int a_textsSize, .ref a_ends, .ref a_older, .ref a_newest, .int a_sizeBefore])), (a_texts, .inl (cs 1, a_texts_n, .inl a_texts_f)), (a_ends, .inr (1, [.ref a_ends_items, .int a_ends_size])), (a_ends_items, .inl (cs 0, a_ends_items_n, .inl a_ends_items_f)), (a_older, .inr (1, [.ref a_older_items, .int a_older_size])), (a_older_items, .inl (cs 0, a_older_items_n, .inl a_older_items_f)), (a_newest, .inl (cs 0, a_newest_n, .inl a_newest_f))] sz) := by
  refine Met.ofW (cc := b_Names_forgetAll) (maxL := 1) (ret := none) (by decide) rfl ?_
  intro p e s m args below meth c s₁ B hml hv
  obtain ⟨rfl, hsz, hP, hK, hD0, hgl, hkn, hkr⟩ := hv
  have hx := B.exec
  have hb := B.bytes
  have hr := B.returns
  have hg : ∀ w ∈ GW, w.before ([.ref a] : List Value).toArray s = true := fun w hw => atoms_spec (ws := .code y_Names_forgetAll b_Names_forgetAll 1 none :: GW) B.pre w (List.mem_cons_of_mem _ hw)
  have hown : s.vm.findClass R_Names = some m.cls := findClass_of_methodNamed B.named
  have hlocks := B.notSynchronized
  subst hsz
  have hD := hD0.self (sz := s.heap.size)
  generalize hAe : va_A [(a, .inr (2, [.ref a_texts, .int a_textsSize, .ref a_ends, .ref a_older, .ref a_newest, .int a_sizeBefore])), (a_texts, .inl (cs 1, a_texts_n, .inl a_texts_f)), (a_ends, .inr (1, [.ref a_ends_items, .int a_ends_size])), (a_ends_items, .inl (cs 0, a_ends_items_n, .inl a_ends_items_f)), (a_older, .inr (1, [.ref a_older_items, .int a_older_size])), (a_older_items, .inl (cs 0, a_older_items_n, .inl a_older_items_f)), (a_newest, .inl (cs 0, a_newest_n, .inl a_newest_f))] s.heap.size = A at hD hkn ⊢
  have hA : ∀ q : Nat, s.heap.size ≤ q → A q := fun q h => by rw [← hAe]; exact Or.inr h
  have hS : va_S A s.heap s.heap [] := va_S.rf
  have hP : va_P g classes [(a, .inr (2, [.ref a_texts, .int a_textsSize, .ref a_ends, .ref a_older, .ref a_newest, .int a_sizeBefore])), (a_texts, .inl (cs 1, a_texts_n, .inl a_texts_f)), (a_ends, .inr (1, [.ref a_ends_items, .int a_ends_size])), (a_ends_items, .inl (cs 0, a_ends_items_n, .inl a_ends_items_f)), (a_older, .inr (1, [.ref a_older_items, .int a_older_size])), (a_older_items, .inl (cs 0, a_older_items_n, .inl a_older_items_f)), (a_newest, .inl (cs 0, a_newest_n, .inl a_newest_f))] s.heap := hP
  have hl := lv_entry ([.ref a]) (n := 1) (Nat.le_of_ble_eq_true rfl)
  rw [lg_entry_eq]
  generalize (lg_sl ([.ref a]) ++ List.replicate (1 - (lg_sl ([.ref a])).length) Slot.unset).toArray = ls at hl ⊢
  have hl : lv_has ls 1 [(0, .ref a)] := hl
  refine gq (fun Q hQ => ?_)
  obtain ⟨H, hH⟩ : ∃ H : Heap, H = s.heap := ⟨_, rfl⟩
  rw [← hH] at hP
  have hS : va_S A s.heap H [] := by rw [hH]; exact hS
  refine W.eqH hH ?_
  obtain ⟨locs, hlc⟩ : ∃ L : List Loc, L = [] := ⟨_, rfl⟩
  rw [← hlc] at hS ⊢
  unfold p_Names_forgetAll at hok
  refine lv_aload_n hx hb d_Names_forgetAll_0 rfl (lv_at hl 0 rfl) ?_
  refine va_getsN hx hb hkn.1 hS hown (va_Nw.use rfl (hgl _ wd_403)) (fun _ h9 => h9) d_Names_forgetAll_1 ?_
  refine va_tlen (v := 24) hx hb hkn.2.1 hS rfl d_Names_forgetAll_4 ?_
  obtain ⟨⟨a_ends_size_1, a_older_size_1, a_newest_f_1⟩, hc1, hok⟩ := bd_some hok
  dsimp only at hok
  obtain ⟨hPc, hDc, hFc⟩ := cut0 (wc := [(a, .inr (2, [.ref a_texts, .int a_textsSize, .ref a_ends, .ref a_older, .ref a_newest, .int a_sizeBefore])), (a_texts, .inl (cs 1, a_texts_n, .inl a_texts_f)), (a_ends, .inr (1, [.ref a_ends_items, .int a_ends_size])), (a_ends_items, .inl (cs 0, a_ends_items_n, .inl a_ends_items_f)), (a_older, .inr (1, [.ref a_older_items, .int a_older_size])), (a_older_items, .inl (cs 0, a_older_items_n, .inl a_older_items_f)), (a_newest, .inl (cs 0, a_newest_n, .inl a_newest_f))]) hP hD hS hA [0, 1, 2, 3, 4, 5, 6] (by decide) rfl
  refine va_callv (va_runV (As := [.int 24]) (rest := []) ⟨hx, hb, hml, hown, hg⟩ (c_Names_forgetFrom l g cs ka a a_texts a_ends a_ends_items a_older a_older_items a_newest H.size n (24 : Int32) a_textsSize a_sizeBefore a_texts_n a_texts_f a_ends_size a_ends_items_n a_ends_items_f a_older_size a_older_items_n a_older_items_f a_newest_n a_newest_f a_ends_size_1 a_older_size_1 a_newest_f_1 hc1) (cwV (C := R_Names) 1 hg (gw_V wd_315 wd_316 wd_317 wd_287 wd_314) rfl rfl rfl (by decide +kernel) ⟨Nat.le_of_ble_eq_true rfl, Nat.le_of_ble_eq_true rfl⟩) ⟨gP_blind, va_recv (q0 := 0) (ci := 2) (q := (R_Names, F_Names, 6)) hK hP rfl rfl, gP_pre hPc hDc hK hgl hkn hkr hS hFc⟩ rfl rfl hl.1 rfl (lv_room (Nat.le_of_ble_eq_true rfl)) d_Names_forgetAll_5 ⟨Nat.le_of_ble_eq_true rfl, Nat.le_of_ble_eq_true rfl⟩) hS (fun q _ h => hFc q h) hFc (fun u t H locs ht hvm hr1 hB hz1 hk1 hS => ?_)
  rw [ht] at hB
  obtain ⟨hP1, hD1⟩ := hB
  obtain ⟨hP, hD⟩ := jn_A hP hD [0, 1, 2, 3, 4, 5, 6] [] rfl rfl (by decide) (by decide) hk1 hFc hP1 hD1
  obtain ⟨hP, hD⟩ : PD g A H [(a, .inr (2, [.ref a_texts, .int a_textsSize, .ref a_ends, .ref a_older, .ref a_newest, .int a_sizeBefore])), (a_texts, .inl (cs 1, a_texts_n, .inl a_texts_f)), (a_ends, .inr (1, [.ref a_ends_items, .int a_ends_size_1])), (a_ends_items, .inl (cs 0, a_ends_items_n, .inl a_ends_items_f)), (a_older, .inr (1, [.ref a_older_items, .int a_older_size_1])), (a_older_items, .inl (cs 0, a_older_items_n, .inl a_older_items_f)), (a_newest, .inl (cs 0, a_newest_n, .inl a_newest_f_1))] := ⟨hP, hD⟩
  have hq := Option.some.inj hok
  obtain ⟨hq0, hq⟩ := Prod.mk.inj hq
  obtain ⟨hq1, hq⟩ := Prod.mk.inj hq
  have hq2 := hq
  subst hq0
  subst hq1
  subst hq2
  obtain ⟨hP9, hD9⟩ := sub2 (ws' := [(a, .inr (2, [.ref a_texts, .int a_textsSize, .ref a_ends, .ref a_older, .ref a_newest, .int a_sizeBefore])), (a_texts, .inl (cs 1, a_texts_n, .inl a_texts_f)), (a_ends, .inr (1, [.ref a_ends_items, .int a_ends_size_1])), (a_ends_items, .inl (cs 0, a_ends_items_n, .inl a_ends_items_f)), (a_older, .inr (1, [.ref a_older_items, .int a_older_size_1])), (a_older_items, .inl (cs 0, a_older_items_n, .inl a_older_items_f)), (a_newest, .inl (cs 0, a_newest_n, .inl a_newest_f_1))]) hP hD [0, 1, 2, 3, 4, 5, 6] rfl (by decide) rfl
  rw [hQ]
  exact W.vret hx hb hr (fun t ht hW => ⟨⟨(), rfl, trivial, by rw [ht]; exact hP9, hD9⟩, hS.F ht⟩) hS.2.2 d_Names_forgetAll_8

theorem d_Names_init_0 : decode b_Names_init 0 = .ok (.aload_n 0, 1) := by decide +kernel
theorem d_Names_init_1 : decode b_Names_init 1 = .ok (.invokespecial 1, 3) := by decide +kernel
theorem d_Names_init_4 : decode b_Names_init 4 = .ok (.aload_n 0, 1) := by decide +kernel
theorem d_Names_init_5 : decode b_Names_init 5 = .ok (.sipush 256, 3) := by decide +kernel
theorem d_Names_init_8 : decode b_Names_init 8 = .ok (.newarray .byte, 2) := by decide +kernel
theorem d_Names_init_10 : decode b_Names_init 10 = .ok (.putfield 7, 3) := by decide +kernel
theorem d_Names_init_13 : decode b_Names_init 13 = .ok (.aload_n 0, 1) := by decide +kernel
theorem d_Names_init_14 : decode b_Names_init 14 = .ok (.iconst 0, 1) := by decide +kernel
theorem d_Names_init_15 : decode b_Names_init 15 = .ok (.putfield 13, 3) := by decide +kernel
theorem d_Names_init_18 : decode b_Names_init 18 = .ok (.aload_n 0, 1) := by decide +kernel
theorem d_Names_init_19 : decode b_Names_init 19 = .ok (.new 17, 3) := by decide +kernel
theorem d_Names_init_22 : decode b_Names_init 22 = .ok (.dup, 1) := by decide +kernel
theorem d_Names_init_23 : decode b_Names_init 23 = .ok (.invokespecial 19, 3) := by decide +kernel
theorem d_Names_init_26 : decode b_Names_init 26 = .ok (.putfield 20, 3) := by decide +kernel
theorem d_Names_init_29 : decode b_Names_init 29 = .ok (.aload_n 0, 1) := by decide +kernel
theorem d_Names_init_30 : decode b_Names_init 30 = .ok (.new 17, 3) := by decide +kernel
theorem d_Names_init_33 : decode b_Names_init 33 = .ok (.dup, 1) := by decide +kernel
theorem d_Names_init_34 : decode b_Names_init 34 = .ok (.invokespecial 19, 3) := by decide +kernel
theorem d_Names_init_37 : decode b_Names_init 37 = .ok (.putfield 24, 3) := by decide +kernel
theorem d_Names_init_40 : decode b_Names_init 40 = .ok (.aload_n 0, 1) := by decide +kernel
theorem d_Names_init_41 : decode b_Names_init 41 = .ok (.sipush 128, 3) := by decide +kernel
theorem d_Names_init_44 : decode b_Names_init 44 = .ok (.newarray .int, 2) := by decide +kernel
theorem d_Names_init_46 : decode b_Names_init 46 = .ok (.putfield 27, 3) := by decide +kernel
theorem d_Names_init_49 : decode b_Names_init 49 = .ok (.aload_n 0, 1) := by decide +kernel
theorem d_Names_init_50 : decode b_Names_init 50 = .ok (.iconst 0, 1) := by decide +kernel
theorem d_Names_init_51 : decode b_Names_init 51 = .ok (.putfield 31, 3) := by decide +kernel
theorem d_Names_init_54 : decode b_Names_init 54 = .ok (.aload_n 0, 1) := by decide +kernel
theorem d_Names_init_55 : decode b_Names_init 55 = .ok (.getfield 27, 3) := by decide +kernel
theorem d_Names_init_58 : decode b_Names_init 58 = .ok (.iconst (-1), 1) := by decide +kernel
theorem d_Names_init_59 : decode b_Names_init 59 = .ok (.invokestatic 34, 3) := by decide +kernel
theorem d_Names_init_62 : decode b_Names_init 62 = .ok (.iconst 0, 1) := by decide +kernel
theorem d_Names_init_63 : decode b_Names_init 63 = .ok (.istore_n 1, 1) := by decide +kernel
theorem d_Names_init_64 : decode b_Names_init 64 = .ok (.iload_n 1, 1) := by decide +kernel
theorem d_Names_init_65 : decode b_Names_init 65 = .ok (.getstatic 40, 3) := by decide +kernel
theorem d_Names_init_68 : decode b_Names_init 68 = .ok (.arraylength, 1) := by decide +kernel
theorem d_Names_init_69 : decode b_Names_init 69 = .ok (.if_icmp .ge 52, 3) := by decide +kernel
theorem d_Names_init_72 : decode b_Names_init 72 = .ok (.getstatic 40, 3) := by decide +kernel
theorem d_Names_init_75 : decode b_Names_init 75 = .ok (.iload_n 1, 1) := by decide +kernel
theorem d_Names_init_76 : decode b_Names_init 76 = .ok (.aaload, 1) := by decide +kernel
theorem d_Names_init_77 : decode b_Names_init 77 = .ok (.getfield 46, 3) := by decide +kernel
theorem d_Names_init_80 : decode b_Names_init 80 = .ok (.astore_n 2, 1) := by decide +kernel
theorem d_Names_init_81 : decode b_Names_init 81 = .ok (.aload_n 0, 1) := by decide +kernel
theorem d_Names_init_82 : decode b_Names_init 82 = .ok (.invokevirtual 50, 3) := by decide +kernel
theorem d_Names_init_85 : decode b_Names_init 85 = .ok (.iconst 0, 1) := by decide +kernel
theorem d_Names_init_86 : decode b_Names_init 86 = .ok (.istore_n 3, 1) := by decide +kernel
theorem d_Names_init_87 : decode b_Names_init 87 = .ok (.iload_n 3, 1) := by decide +kernel
theorem d_Names_init_88 : decode b_Names_init 88 = .ok (.aload_n 2, 1) := by decide +kernel
theorem d_Names_init_89 : decode b_Names_init 89 = .ok (.invokevirtual 53, 3) := by decide +kernel
theorem d_Names_init_92 : decode b_Names_init 92 = .ok (.if_icmp .ge 18, 3) := by decide +kernel
theorem d_Names_init_95 : decode b_Names_init 95 = .ok (.aload_n 0, 1) := by decide +kernel
theorem d_Names_init_96 : decode b_Names_init 96 = .ok (.aload_n 2, 1) := by decide +kernel
theorem d_Names_init_97 : decode b_Names_init 97 = .ok (.iload_n 3, 1) := by decide +kernel
theorem d_Names_init_98 : decode b_Names_init 98 = .ok (.invokevirtual 59, 3) := by decide +kernel
theorem d_Names_init_101 : decode b_Names_init 101 = .ok (.invokevirtual 63, 3) := by decide +kernel
theorem d_Names_init_104 : decode b_Names_init 104 = .ok (.iinc 3 1, 3) := by decide +kernel
theorem d_Names_init_107 : decode b_Names_init 107 = .ok (.goto (-20), 3) := by decide +kernel
theorem d_Names_init_110 : decode b_Names_init 110 = .ok (.aload_n 0, 1) := by decide +kernel
theorem d_Names_init_111 : decode b_Names_init 111 = .ok (.invokevirtual 67, 3) := by decide +kernel
theorem d_Names_init_114 : decode b_Names_init 114 = .ok (.pop, 1) := by decide +kernel
theorem d_Names_init_115 : decode b_Names_init 115 = .ok (.iinc 1 1, 3) := by decide +kernel
theorem d_Names_init_118 : decode b_Names_init 118 = .ok (.goto (-54), 3) := by decide +kernel
theorem d_Names_init_121 : decode b_Names_init 121 = .ok (.return_, 1) := by decide +kernel
def p_Names_init_87 (n : Nat) (x1_8 : Int32) (new2_size_8 : Int32) (new4_size_8 : Int32) (new2_items_8n : Nat) (new2_items_8f : Nat → Int32) (new4_items_8n : Nat) (new4_items_8f : Nat → Int32) (new6_8f : Nat → Int32) (K_8 : Int32 → Int32 → Int32 → Int32 → Nat → (Nat → Int32) → Nat → (Nat → Int32) → Nat → (Nat → Int32) → (Nat → Int32) → Option ((Int32 × Int32 × Nat × (Nat → Int32) × Int32 × Nat × (Nat → Int32) × Int32 × Nat × (Nat → Int32) × Nat × (Nat → Int32)) × Nat × Nat)) (kf12 : Nat) (x3_12 : Int32) (a_textsSize_12 : Int32) (a_texts_12n : Nat) (a_texts_12f : Nat → Int32) : Option ((Int32 × Int32 × Nat × (Nat → Int32) × Int32 × Nat × (Nat → Int32) × Int32 × Nat × (Nat → Int32) × Nat × (Nat → Int32)) × Nat × Nat) := match kf12 with
  | 0 => none
  | kf12 + 1 => (p_String_length (kn_text.getD x1_8.toNatClampNeg 0)).bind (fun r13 => if r13 ≤ x3_12 then ((p_Names_numberOfText n a_textsSize_12 (0 : Int32) a_texts_12n a_texts_12f new2_size_8 new2_items_8n new2_items_8f new4_size_8 new4_items_8n new4_items_8f 128 new6_8f).bind (fun ((r15, a_ends_size_15, a_ends_items_n_15, a_ends_items_f_15, a_older_size_15, a_older_items_n_15, a_older_items_f_15, a_newest_f_15), mk15, sk15) => al mk15 sk15 (K_8 (x1_8 + 1) a_textsSize_12 a_ends_size_15 a_older_size_15 a_texts_12n a_texts_12f a_ends_items_n_15 a_ends_items_f_15 a_older_items_n_15 a_older_items_f_15 a_newest_f_15))) else ((p_String_charAt (kn_text.getD x1_8.toNatClampNeg 0) x3_12).bind (fun r16 => (p_Names_addToText r16 a_textsSize_12 (0 : Int32) a_texts_12n a_texts_12f).bind (fun ((a_textsSize_17, a_texts_n_17, a_texts_f_17), mk17, sk17) => al mk17 sk17 (p_Names_init_87 n x1_8 new2_size_8 new4_size_8 new2_items_8n new2_items_8f new4_items_8n new4_items_8f new6_8f K_8 kf12 (x3_12 + 1) a_textsSize_17 a_texts_n_17 a_texts_f_17)))))
def p_Names_init_64 (n : Nat) (kf8 : Nat) (x1_8 : Int32) (a_textsSize_8 : Int32) (new2_size_8 : Int32) (new4_size_8 : Int32) (a_texts_8n : Nat) (a_texts_8f : Nat → Int32) (new2_items_8n : Nat) (new2_items_8f : Nat → Int32) (new4_items_8n : Nat) (new4_items_8f : Nat → Int32) (new6_8f : Nat → Int32) : Option ((Int32 × Int32 × Nat × (Nat → Int32) × Int32 × Nat × (Nat → Int32) × Int32 × Nat × (Nat → Int32) × Nat × (Nat → Int32)) × Nat × Nat) := match kf8 with
  | 0 => none
  | kf8 + 1 => if 24 ≤ x1_8 then (some ((a_textsSize_8, (0 : Int32), a_texts_8n, a_texts_8f, new2_size_8, new2_items_8n, new2_items_8f, new4_size_8, new4_items_8n, new4_items_8f, 128, new6_8f), 0, 0)) else (ck (ixb x1_8 24) ((p_Names_startText a_textsSize_8 (0 : Int32) new2_size_8 new2_items_8n new2_items_8f).bind (fun a_textsSize_11 => p_Names_init_87 n x1_8 new2_size_8 new4_size_8 new2_items_8n new2_items_8f new4_items_8n new4_items_8f new6_8f (fun w0 w1 w2 w3 w4 w5 w6 w7 w8 w9 w10 => p_Names_init_64 n kf8 w0 w1 w2 w3 w4 w5 w6 w7 w8 w9 w10) n (0 : Int32) a_textsSize_11 a_texts_8n a_texts_8f)))
def p_Names_init (n : Nat) : Option ((Int32 × Int32 × Nat × (Nat → Int32) × Int32 × Nat × (Nat → Int32) × Int32 × Nat × (Nat → Int32) × Nat × (Nat → Int32)) × Nat × Nat) := al 1 256 (al 1 2 ((p_Ints_init).bind (fun ((a_size_3, a_items_n_3, a_items_f_3), mk3, sk3) => al mk3 sk3 (al 1 2 ((p_Ints_init).bind (fun ((a_size_5, a_items_n_5, a_items_f_5), mk5, sk5) => al mk5 sk5 (al 1 128 ((p_Arrays_fill n ((-1) : Int32) 128 (fun _ => 0 : Nat → Int32)).bind (fun b_f_7 => p_Names_init_64 n n (0 : Int32) (0 : Int32) a_size_3 a_size_5 256 (fun _ => 0 : Nat → Int32) a_items_n_3 a_items_f_3 a_items_n_5 a_items_f_5 b_f_7)))))))))
set_option maxHeartbeats 4000000 in
set_option maxRecDepth 100000 in
theorem c_Names_init (l : Launch) (g : va_G) (cs : Nat → ClassId) (ka : Nat → Nat) (a : Nat) (sz : Nat) (n : Nat) (o_a_textsSize : Int32) (o_a_sizeBefore : Int32) (o_a_texts_n : Nat) (o_a_texts_f : Nat → Int32) (o_a_ends_size : Int32) (o_a_ends_items_n : Nat) (o_a_ends_items_f : Nat → Int32) (o_a_older_size : Int32) (o_a_older_items_n : Nat) (o_a_older_items_f : Nat → Int32) (o_a_newest_n : Nat) (o_a_newest_f : Nat → Int32) (mc ms : Nat) (hok : p_Names_init n = some ((o_a_textsSize, o_a_sizeBefore, o_a_texts_n, o_a_texts_f, o_a_ends_size, o_a_ends_items_n, o_a_ends_items_f, o_a_older_size, o_a_older_items_n, o_a_older_items_f, o_a_newest_n, o_a_newest_f), mc, ms)) : Met l y_Names_init (.code y_Names_init b_Names_init 4 none :: GW) { frames := 4, cells := mc, slots := ms, locals := 167 } (va_Pc [.ref a] (gP g cs ka [(a, .inr (2, [.null, .int 0, .null, .null, .null, .int 0]))] sz)) (va_Qv (fun _ : Unit => True) (fun _ t => ∃ b_a_texts b_a_ends b_a_ends_items b_a_older b_a_older_items b_a_newest : Nat, va_P g classes [(a, .inr (2, [.ref b_a_texts, .int o_a_textsSize, .ref b_a_ends, .ref b_a_older, .ref b_a_newest, .int o_a_sizeBefore])), (b_a_texts, .inl (cs 1, o_a_texts_n, .inl o_a_texts_f)), (b_a_ends, .inr (1, [.ref b_a_ends_items, .int o_a_ends_size])), (b_a_ends_items, .inl (cs 0, o_a_ends_items_n, .inl o_a_ends_items_f)), (b_a_older, .inr (1, [.ref b_a_older_items, .int o_a_older_size])), (b_a_older_items, .inl (cs 0, o_a_older_items_n, .inl o_a_older_items_f)), (b_a_newest, .inl (cs 0, o_a_newest_n, .inl o_a_newest_f))] t.heap ∧ va_D (va_A [(a, .inr (2, [.null, .int 0, .null, .null, .null, .int 0]))] sz) [(a, .inr (2, [.ref b_a_texts, .int o_a_textsSize, .ref b_a_ends, .ref b_a_older, .ref b_a_newest, .int o_a_sizeBefore])), (b_a_texts, .inl (cs 1, o_a_texts_n, .inl o_a_texts_f)), (b_a_ends, .inr (1, [.ref b_a_ends_items, .int o_a_ends_size])), (b_a_ends_items, .inl (cs 0, o_a_ends_items_n, .inl o_a_ends_items_f)), (b_a_older, .inr (1, [.ref b_a_older_items, .int o_a_older_size])), (b_a_older_items, .inl (cs 0, o_a_older_items_n, .inl o_a_older_items_f)), (b_a_newest, .inl (cs 0, o_a_newest_n, .inl o_a_newest_f))]) (va_A [(a, .inr (2, [.null, .int 0, .null, .null, .null, .int 0]))] sz)) mc ms (va_A [(a, .inr (2, [.null, .int 0, .null, .null, .null, .int 0]))] sz) := by
  refine Met.ofW (cc := b_Names_init) (maxL := 4) (ret := none) (by decide) rfl ?_
  intro p e s m args below meth c s₁ B hml hv
  obtain ⟨rfl, hsz, hP, hK, hD0, hgl, hkn, hkr⟩ := hv
  have hx := B.exec
  have hb := B.bytes
  have hr := B.returns
  have hg : ∀ w ∈ GW, w.before ([.ref a] : List Value).toArray s = true := fun w hw => atoms_spec (ws := .code y_Names_init b_Names_init 4 none :: GW) B.pre w (List.mem_cons_of_mem _ hw)
  have hown : s.vm.findClass R_Names = some m.cls := findClass_of_methodNamed B.named
  have hlocks := B.notSynchronized
  have hin : meth.name = "<init>" := (name_of_methodNamed B.named B.method).1
  subst hsz
  have hD := hD0.self (sz := s.heap.size)
  generalize hAe : va_A [(a, .inr (2, [.null, .int 0, .null, .null, .null, .int 0]))] s.heap.size = A at hD hkn ⊢
  have hA : ∀ q : Nat, s.heap.size ≤ q → A q := fun q h => by rw [← hAe]; exact Or.inr h
  have hS : va_S A s.heap s.heap [] := va_S.rf
  have hP : va_P g classes [(a, .inr (2, [.null, .int 0, .null, .null, .null, .int 0]))] s.heap := hP
  have hl := lv_entry ([.ref a]) (n := 4) (Nat.le_of_ble_eq_true rfl)
  rw [lg_entry_eq]
  generalize (lg_sl ([.ref a]) ++ List.replicate (4 - (lg_sl ([.ref a])).length) Slot.unset).toArray = ls at hl ⊢
  have hl : lv_has ls 4 [(0, .ref a)] := hl
  refine gq (fun Q hQ => ?_)
  obtain ⟨H, hH⟩ : ∃ H : Heap, H = s.heap := ⟨_, rfl⟩
  rw [← hH] at hP
  have hS : va_S A s.heap H [] := by rw [hH]; exact hS
  refine W.eqH hH ?_
  obtain ⟨locs, hlc⟩ : ∃ L : List Loc, L = [] := ⟨_, rfl⟩
  rw [← hlc] at hS ⊢
  unfold p_Names_init at hok
  refine lv_aload_n hx hb d_Names_init_0 rfl (lv_at hl 0 rfl) ?_
  refine W.objInit hx hb hown (hg _ wd_411) (hg _ wd_158) (hg _ wd_159) rfl (by rw [hml]; exact hl.1) rfl d_Names_init_1 (Nat.le_of_ble_eq_true rfl) (Nat.le_of_ble_eq_true rfl) ?_
  refine W.eq (g2 := F0 m 4 ls []) rfl ?_
  refine lv_aload_n hx hb d_Names_init_4 rfl (lv_at hl 0 rfl) ?_
  refine lv_sipush (v := 256) hx hb d_Names_init_5 (by decide) ?_
  obtain ⟨m1, s1, hok, hmc1, hms1⟩ := al_some hok
  refine g_newB hx hb (hg _ wd_209) hK hP hD hS hA (256) (by decide) (by decide) (by decide) (show 0 + 1 ≤ mc from by omega) (show 0 + 256 ≤ ms from by omega) d_Names_init_8 (fun q1 H hP hD hS => ?_)
  obtain ⟨hP, hD⟩ : PD g A H [(a, .inr (2, [.null, .int 0, .null, .null, .null, .int 0])), (q1, .inl (cs 1, 256, .inl (fun _ => 0)))] := ⟨hP, hD⟩
  refine va_put (D := g) (ci := 2) (v := .ref q1) (ty := .array .byte) (C := R_Names) (T := F_Names) (N := 6) hx hb hg ul_Names t_Names tk_Names n_Names hown hK hP hD hS 0 rfl rfl 0 (by decide) (hg _ wd_284) (fun _ h9 => h9) rfl (by decide +kernel) rfl rfl (Nat.le_of_ble_eq_true rfl) d_Names_init_10 (fun H locs hP hD hS => ?_)
  obtain ⟨hP, hD⟩ : PD g A H [(a, .inr (2, [.ref q1, .int 0, .null, .null, .null, .int 0])), (q1, .inl (cs 1, 256, .inl (fun _ => 0)))] := ⟨hP, hD⟩
  refine lv_aload_n hx hb d_Names_init_13 rfl (lv_at hl 0 rfl) ?_
  refine lv_iconst (v := 0) hx hb d_Names_init_14 (by decide) ?_
  refine va_put (D := g) (ci := 2) (v := .int 0) (ty := .int) (C := R_Names) (T := F_Names) (N := 6) hx hb hg ul_Names t_Names tk_Names n_Names hown hK hP hD hS 0 rfl rfl 1 (by decide) (hg _ wd_283) (fun _ h9 => h9) rfl (by decide +kernel) rfl rfl (Nat.le_of_ble_eq_true rfl) d_Names_init_15 (fun H locs hP hD hS => ?_)
  obtain ⟨hP, hD⟩ : PD g A H [(a, .inr (2, [.ref q1, .int 0, .null, .null, .null, .int 0])), (q1, .inl (cs 1, 256, .inl (fun _ => 0)))] := ⟨hP, hD⟩
  refine lv_aload_n hx hb d_Names_init_18 rfl (lv_at hl 0 rfl) ?_
  obtain ⟨m2, s2, hok, hmc2, hms2⟩ := al_some hok
  refine va_new (ci := 1) (fs := [.null, .int 0]) (C := R_Ints) (T := F_Ints) (N := 2) hx hb hg ul_Ints t_Ints tk_Ints hown (hg _ wd_412) (hg _ wd_233) (hg _ wd_234) hK hP hD hS hA rfl nf_Ints (show 0 + 1 + 1 ≤ mc from by omega) (show 0 + 256 + 2 ≤ ms from by omega) d_Names_init_19 (fun q2 H hP hD hS => ?_)
  obtain ⟨hP, hD⟩ : PD g A H [(a, .inr (2, [.ref q1, .int 0, .null, .null, .null, .int 0])), (q1, .inl (cs 1, 256, .inl (fun _ => 0))), (q2, .inr (1, [.null, .int 0]))] := ⟨hP, hD⟩
  refine lv_dup hx hb d_Names_init_22 rfl ?_
  obtain ⟨⟨⟨a_size_3, a_items_n_3, a_items_f_3⟩, mk3, sk3⟩, hc3, hok⟩ := bd_some hok
  dsimp only at hok
  obtain ⟨m3, s3, hok, hmc3, hms3⟩ := al_some hok
  obtain ⟨hPc, hDc, hFc⟩ := cut0 (wc := [(q2, .inr (1, [.null, .int 0]))]) hP hD hS hA [2] (by decide) rfl
  refine va_callv (va_runIN (As := []) (rest := [.ref q2, .ref a]) ⟨hx, hb, hml, hown, hg⟩ (c_Ints_init l g cs ka q2 H.size a_size_3 a_items_n_3 a_items_f_3 mk3 sk3 hc3) ⟨va_cnB 0 hg (gw_c wd_235) rfl rfl rfl (hgl _ wd_413) (hg _ wd_234) (by decide +kernel) ⟨Nat.le_of_ble_eq_true rfl, Nat.le_of_ble_eq_true rfl⟩, rfl, hg _ wd_237⟩ ⟨gP_blind, gP_pre hPc hDc hK hgl hkn hkr hS hFc⟩ rfl rfl hl.1 rfl (lv_room (Nat.le_of_ble_eq_true rfl)) d_Names_init_23 ⟨show 0 + 1 + 1 + mk3 ≤ mc from by omega, show 0 + 256 + 2 + sk3 ≤ ms from by omega⟩) hS (fun q _ h => hFc q h) hFc (fun u t H locs ht hvm hr3 hB hz1 hk1 hS => ?_)
  rw [ht] at hB
  obtain ⟨a_items_3, hP1, hD1⟩ := hB
  obtain ⟨hP, hD⟩ := jn_A hP hD [2] [0, 1] rfl rfl (by decide) (by decide) hk1 hFc hP1 hD1
  obtain ⟨hP, hD⟩ : PD g A H [(a, .inr (2, [.ref q1, .int 0, .null, .null, .null, .int 0])), (q1, .inl (cs 1, 256, .inl (fun _ => 0))), (q2, .inr (1, [.ref a_items_3, .int a_size_3])), (a_items_3, .inl (cs 0, a_items_n_3, .inl a_items_f_3))] := ⟨hP, hD⟩
  refine va_putF (D := g) (ci := 2) (v := .ref q2) (ty := .object "UnifyBench$Ints") (C := R_Names) (T := F_Names) (N := 6) hx hb hg ul_Names t_Names tk_Names n_Names hown hK hP hD hS 0 rfl rfl 2 (by decide) (hg _ wd_281) (fun _ h9 => h9) rfl hin rfl (by decide +kernel) rfl rfl (Nat.le_of_ble_eq_true rfl) d_Names_init_26 (fun H locs hP hD hS => ?_)
  obtain ⟨hP, hD⟩ : PD g A H [(a, .inr (2, [.ref q1, .int 0, .ref q2, .null, .null, .int 0])), (q1, .inl (cs 1, 256, .inl (fun _ => 0))), (q2, .inr (1, [.ref a_items_3, .int a_size_3])), (a_items_3, .inl (cs 0, a_items_n_3, .inl a_items_f_3))] := ⟨hP, hD⟩
  refine lv_aload_n hx hb d_Names_init_29 rfl (lv_at hl 0 rfl) ?_
  obtain ⟨m4, s4, hok, hmc4, hms4⟩ := al_some hok
  refine va_new (ci := 1) (fs := [.null, .int 0]) (C := R_Ints) (T := F_Ints) (N := 2) hx hb hg ul_Ints t_Ints tk_Ints hown (hg _ wd_412) (hg _ wd_233) (hg _ wd_234) hK hP hD hS hA rfl nf_Ints (show 0 + 1 + 1 + mk3 + 1 ≤ mc from by omega) (show 0 + 256 + 2 + sk3 + 2 ≤ ms from by omega) d_Names_init_30 (fun q4 H hP hD hS => ?_)
  obtain ⟨hP, hD⟩ : PD g A H [(a, .inr (2, [.ref q1, .int 0, .ref q2, .null, .null, .int 0])), (q1, .inl (cs 1, 256, .inl (fun _ => 0))), (q2, .inr (1, [.ref a_items_3, .int a_size_3])), (a_items_3, .inl (cs 0, a_items_n_3, .inl a_items_f_3)), (q4, .inr (1, [.null, .int 0]))] := ⟨hP, hD⟩
  refine lv_dup hx hb d_Names_init_33 rfl ?_
  obtain ⟨⟨⟨a_size_5, a_items_n_5, a_items_f_5⟩, mk5, sk5⟩, hc5, hok⟩ := bd_some hok
  dsimp only at hok
  obtain ⟨m5, s5, hok, hmc5, hms5⟩ := al_some hok
  obtain ⟨hPc, hDc, hFc⟩ := cut0 (wc := [(q4, .inr (1, [.null, .int 0]))]) hP hD hS hA [4] (by decide) rfl
  refine va_callv (va_runIN (As := []) (rest := [.ref q4, .ref a]) ⟨hx, hb, hml, hown, hg⟩ (c_Ints_init l g cs ka q4 H.size a_size_5 a_items_n_5 a_items_f_5 mk5 sk5 hc5) ⟨va_cnB 0 hg (gw_c wd_235) rfl rfl rfl (hgl _ wd_413) (hg _ wd_234) (by decide +kernel) ⟨Nat.le_of_ble_eq_true rfl, Nat.le_of_ble_eq_true rfl⟩, rfl, hg _ wd_237⟩ ⟨gP_blind, gP_pre hPc hDc hK hgl hkn hkr hS hFc⟩ rfl rfl hl.1 rfl (lv_room (Nat.le_of_ble_eq_true rfl)) d_Names_init_34 ⟨show 0 + 1 + 1 + mk3 + 1 + mk5 ≤ mc from by omega, show 0 + 256 + 2 + sk3 + 2 + sk5 ≤ ms from by omega⟩) hS (fun q _ h => hFc q h) hFc (fun u t H locs ht hvm hr5 hB hz1 hk1 hS => ?_)
  rw [ht] at hB
  obtain ⟨a_items_5, hP1, hD1⟩ := hB
  obtain ⟨hP, hD⟩ := jn_A hP hD [4] [0, 1, 2, 3] rfl rfl (by decide) (by decide) hk1 hFc hP1 hD1
  obtain ⟨hP, hD⟩ : PD g A H [(a, .inr (2, [.ref q1, .int 0, .ref q2, .null, .null, .int 0])), (q1, .inl (cs 1, 256, .inl (fun _ => 0))), (q2, .inr (1, [.ref a_items_3, .int a_size_3])), (a_items_3, .inl (cs 0, a_items_n_3, .inl a_items_f_3)), (q4, .inr (1, [.ref a_items_5, .int a_size_5])), (a_items_5, .inl (cs 0, a_items_n_5, .inl a_items_f_5))] := ⟨hP, hD⟩
  refine va_putF (D := g) (ci := 2) (v := .ref q4) (ty := .object "UnifyBench$Ints") (C := R_Names) (T := F_Names) (N := 6) hx hb hg ul_Names t_Names tk_Names n_Names hown hK hP hD hS 0 rfl rfl 3 (by decide) (hg _ wd_302) (fun _ h9 => h9) rfl hin rfl (by decide +kernel) rfl rfl (Nat.le_of_ble_eq_true rfl) d_Names_init_37 (fun H locs hP hD hS => ?_)
  obtain ⟨hP, hD⟩ : PD g A H [(a, .inr (2, [.ref q1, .int 0, .ref q2, .ref q4, .null, .int 0])), (q1, .inl (cs 1, 256, .inl (fun _ => 0))), (q2, .inr (1, [.ref a_items_3, .int a_size_3])), (a_items_3, .inl (cs 0, a_items_n_3, .inl a_items_f_3)), (q4, .inr (1, [.ref a_items_5, .int a_size_5])), (a_items_5, .inl (cs 0, a_items_n_5, .inl a_items_f_5))] := ⟨hP, hD⟩
  refine lv_aload_n hx hb d_Names_init_40 rfl (lv_at hl 0 rfl) ?_
  refine lv_sipush (v := 128) hx hb d_Names_init_41 (by decide) ?_
  obtain ⟨m6, s6, hok, hmc6, hms6⟩ := al_some hok
  refine g_newI hx hb (hg _ wd_142) hK hP hD hS hA (128) (by decide) (by decide) (by decide) (show 0 + 1 + 1 + mk3 + 1 + mk5 + 1 ≤ mc from by omega) (show 0 + 256 + 2 + sk3 + 2 + sk5 + 128 ≤ ms from by omega) d_Names_init_44 (fun q6 H hP hD hS => ?_)
  obtain ⟨hP, hD⟩ : PD g A H [(a, .inr (2, [.ref q1, .int 0, .ref q2, .ref q4, .null, .int 0])), (q1, .inl (cs 1, 256, .inl (fun _ => 0))), (q2, .inr (1, [.ref a_items_3, .int a_size_3])), (a_items_3, .inl (cs 0, a_items_n_3, .inl a_items_f_3)), (q4, .inr (1, [.ref a_items_5, .int a_size_5])), (a_items_5, .inl (cs 0, a_items_n_5, .inl a_items_f_5)), (q6, .inl (cs 0, 128, .inl (fun _ => 0)))] := ⟨hP, hD⟩
  refine va_putF (D := g) (ci := 2) (v := .ref q6) (ty := .array .int) (C := R_Names) (T := F_Names) (N := 6) hx hb hg ul_Names t_Names tk_Names n_Names hown hK hP hD hS 0 rfl rfl 4 (by decide) (hg _ wd_300) (fun _ h9 => h9) rfl hin rfl (by decide +kernel) rfl rfl (Nat.le_of_ble_eq_true rfl) d_Names_init_46 (fun H locs hP hD hS => ?_)
  obtain ⟨hP, hD⟩ : PD g A H [(a, .inr (2, [.ref q1, .int 0, .ref q2, .ref q4, .ref q6, .int 0])), (q1, .inl (cs 1, 256, .inl (fun _ => 0))), (q2, .inr (1, [.ref a_items_3, .int a_size_3])), (a_items_3, .inl (cs 0, a_items_n_3, .inl a_items_f_3)), (q4, .inr (1, [.ref a_items_5, .int a_size_5])), (a_items_5, .inl (cs 0, a_items_n_5, .inl a_items_f_5)), (q6, .inl (cs 0, 128, .inl (fun _ => 0)))] := ⟨hP, hD⟩
  refine lv_aload_n hx hb d_Names_init_49 rfl (lv_at hl 0 rfl) ?_
  refine lv_iconst (v := 0) hx hb d_Names_init_50 (by decide) ?_
  refine va_put (D := g) (ci := 2) (v := .int 0) (ty := .int) (C := R_Names) (T := F_Names) (N := 6) hx hb hg ul_Names t_Names tk_Names n_Names hown hK hP hD hS 0 rfl rfl 5 (by decide) (hg _ wd_312) (fun _ h9 => h9) rfl (by decide +kernel) rfl rfl (Nat.le_of_ble_eq_true rfl) d_Names_init_51 (fun H locs hP hD hS => ?_)
  obtain ⟨hP, hD⟩ : PD g A H [(a, .inr (2, [.ref q1, .int 0, .ref q2, .ref q4, .ref q6, .int 0])), (q1, .inl (cs 1, 256, .inl (fun _ => 0))), (q2, .inr (1, [.ref a_items_3, .int a_size_3])), (a_items_3, .inl (cs 0, a_items_n_3, .inl a_items_f_3)), (q4, .inr (1, [.ref a_items_5, .int a_size_5])), (a_items_5, .inl (cs 0, a_items_n_5, .inl a_items_f_5)), (q6, .inl (cs 0, 128, .inl (fun _ => 0)))] := ⟨hP, hD⟩
  refine lv_aload_n hx hb d_Names_init_54 rfl (lv_at hl 0 rfl) ?_
  refine va_get (D := g) (ci := 2) (v := .ref q6) (C := R_Names) (T := F_Names) (N := 6) hx hb hg ul_Names hown hK hP 0 rfl rfl 4 (by decide) (hg _ wd_300) (fun _ h9 => h9) rfl d_Names_init_55 ?_
  refine lv_iconst (v := (-1)) hx hb d_Names_init_58 (by decide) ?_
  obtain ⟨b_f_7, hc7, hok⟩ := bd_some hok
  obtain ⟨hPc, hDc, hFc⟩ := cut0 (wc := [(q6, .inl (cs 0, 128, .inl (fun _ => 0)))]) hP hD hS hA [6] (by decide) rfl
  refine va_callv (va_runS (As := [.ref q6, .int (-1)]) (rest := []) ⟨hx, hb, hml, hown, hg⟩ (c_Arrays_fill l g cs ka q6 H.size n ((-1) : Int32) 128 (fun _ => 0 : Nat → Int32) b_f_7 hc7) (va_cwS 2 hg (gw_S wd_414 wd_258 wd_154 wd_256) rfl rfl rfl (by decide +kernel) ⟨Nat.le_of_ble_eq_true rfl, Nat.le_of_ble_eq_true rfl⟩) ⟨gP_blind, gP_pre hPc hDc hK hgl hkn hkr hS hFc⟩ rfl rfl hl.1 rfl (lv_room (Nat.le_of_ble_eq_true rfl)) d_Names_init_59 ⟨show 0 + 1 + 1 + mk3 + 1 + mk5 + 1 + 0 ≤ mc from by omega, show 0 + 256 + 2 + sk3 + 2 + sk5 + 128 + 0 ≤ ms from by omega⟩) hS (fun q _ h => hFc q h) hFc (fun u t H locs ht hvm hr7 hB hz1 hk1 hS => ?_)
  rw [ht] at hB
  obtain ⟨hP1, hD1⟩ := hB
  obtain ⟨hP, hD⟩ := jn_A hP hD [6] [0, 1, 2, 3, 4, 5] rfl rfl (by decide) (by decide) hk1 hFc hP1 hD1
  obtain ⟨hP, hD⟩ : PD g A H [(a, .inr (2, [.ref q1, .int 0, .ref q2, .ref q4, .ref q6, .int 0])), (q1, .inl (cs 1, 256, .inl (fun _ => 0))), (q2, .inr (1, [.ref a_items_3, .int a_size_3])), (a_items_3, .inl (cs 0, a_items_n_3, .inl a_items_f_3)), (q4, .inr (1, [.ref a_items_5, .int a_size_5])), (a_items_5, .inl (cs 0, a_items_n_5, .inl a_items_f_5)), (q6, .inl (cs 0, 128, .inl b_f_7))] := ⟨hP, hD⟩
  refine lv_iconst (v := 0) hx hb d_Names_init_62 (by decide) ?_
  refine lv_istore_n hx hb d_Names_init_63 rfl hl (by decide) rfl (fun ls hl => ?_)
  have hl : lv_has ls 4 [(1, .int 0), (0, .ref a)] := hl
  have J8 : ∀ (kf8 : Nat) (H : Heap) (locs : List Loc) (ls : Array Slot) (cells8 slots8 mr8 sr8 : Nat) (a_texts_8 : Nat) (new2_items_8 : Nat) (new4_items_8 : Nat) (x1_8 : Int32) (a_textsSize_8 : Int32) (new2_size_8 : Int32) (new4_size_8 : Int32) (a_texts_8n : Nat) (a_texts_8f : Nat → Int32) (new2_items_8n : Nat) (new2_items_8f : Nat → Int32) (new4_items_8n : Nat) (new4_items_8f : Nat → Int32) (new6_8f : Nat → Int32), lv_has ls 4 [(1, .int x1_8), (0, .ref a)] → PD g A H [(a, .inr (2, [.ref a_texts_8, .int a_textsSize_8, .ref q2, .ref q4, .ref q6, .int 0])), (a_texts_8, .inl (cs 1, a_texts_8n, .inl a_texts_8f)), (q2, .inr (1, [.ref new2_items_8, .int new2_size_8])), (new2_items_8, .inl (cs 0, new2_items_8n, .inl new2_items_8f)), (q4, .inr (1, [.ref new4_items_8, .int new4_size_8])), (new4_items_8, .inl (cs 0, new4_items_8n, .inl new4_items_8f)), (q6, .inl (cs 0, 128, .inl new6_8f))] → va_S A s.heap H locs → cells8 + mr8 = mc → slots8 + sr8 = ms → p_Names_init_64 n kf8 x1_8 a_textsSize_8 new2_size_8 new4_size_8 a_texts_8n a_texts_8f new2_items_8n new2_items_8f new4_items_8n new4_items_8f new6_8f = some ((o_a_textsSize, o_a_sizeBefore, o_a_texts_n, o_a_texts_f, o_a_ends_size, o_a_ends_items_n, o_a_ends_items_f, o_a_older_size, o_a_older_items_n, o_a_older_items_f, o_a_newest_n, o_a_newest_f), mr8, sr8) → W p l e (headSpec (.code y_Names_init b_Names_init 4 none :: GW) { frames := 4, cells := mc, slots := ms, locals := 167 }).room s m ([.ref a] : List Value).toArray below meth c H locs cells8 slots8 Q (F0 m 64 ls []) := by
    intro kf8
    induction kf8 with
    | zero => intro H locs ls cells8 slots8 mr8 sr8 a_texts_8 new2_items_8 new4_items_8 x1_8 a_textsSize_8 new2_size_8 new4_size_8 a_texts_8n a_texts_8f new2_items_8n new2_items_8f new4_items_8n new4_items_8f new6_8f hl ⟨hP, hD⟩ hS hmr8 hsr8 hok; rw [p_Names_init_64] at hok; cases hok
    | succ kf8 ih8 =>
      intro H locs ls cells8 slots8 mr8 sr8 a_texts_8 new2_items_8 new4_items_8 x1_8 a_textsSize_8 new2_size_8 new4_size_8 a_texts_8n a_texts_8f new2_items_8n new2_items_8f new4_items_8n new4_items_8f new6_8f hl ⟨hP, hD⟩ hS hmr8 hsr8 hok
      rw [p_Names_init_64] at hok
      refine lv_iload_n hx hb d_Names_init_64 rfl (lv_at hl 0 rfl) ?_
      refine va_getsN hx hb hkn.1 hS hown (va_Nw.use rfl (hgl _ wd_403)) (fun _ h9 => h9) d_Names_init_65 ?_
      refine va_tlen (v := 24) hx hb hkn.2.1 hS rfl d_Names_init_68 ?_
      refine lv_icmp_ge hx hb d_Names_init_69 rfl (fun h9 => ?_) (fun h9 => ?_)
      · rw [if_pos h9] at hok
        obtain ⟨hq, hw⟩ := Prod.mk.inj (Option.some.inj hok)
        obtain ⟨hmc0, hms0⟩ := Prod.mk.inj hw
        obtain ⟨hq0, hq⟩ := Prod.mk.inj hq
        obtain ⟨hq1, hq⟩ := Prod.mk.inj hq
        obtain ⟨hq2, hq⟩ := Prod.mk.inj hq
        obtain ⟨hq3, hq⟩ := Prod.mk.inj hq
        obtain ⟨hq4, hq⟩ := Prod.mk.inj hq
        obtain ⟨hq5, hq⟩ := Prod.mk.inj hq
        obtain ⟨hq6, hq⟩ := Prod.mk.inj hq
        obtain ⟨hq7, hq⟩ := Prod.mk.inj hq
        obtain ⟨hq8, hq⟩ := Prod.mk.inj hq
        obtain ⟨hq9, hq⟩ := Prod.mk.inj hq
        obtain ⟨hq10, hq⟩ := Prod.mk.inj hq
        have hq11 := hq
        subst hq0
        subst hq1
        subst hq2
        subst hq3
        subst hq4
        subst hq5
        subst hq6
        subst hq7
        subst hq8
        subst hq9
        subst hq10
        subst hq11
        obtain ⟨hP9, hD9⟩ := sub2 (ws' := [(a, .inr (2, [.ref a_texts_8, .int a_textsSize_8, .ref q2, .ref q4, .ref q6, .int 0])), (a_texts_8, .inl (cs 1, a_texts_8n, .inl a_texts_8f)), (q2, .inr (1, [.ref new2_items_8, .int new2_size_8])), (new2_items_8, .inl (cs 0, new2_items_8n, .inl new2_items_8f)), (q4, .inr (1, [.ref new4_items_8, .int new4_size_8])), (new4_items_8, .inl (cs 0, new4_items_8n, .inl new4_items_8f)), (q6, .inl (cs 0, 128, .inl new6_8f))]) hP hD [0, 1, 2, 3, 4, 5, 6] rfl (by decide) rfl
        refine W.widen (k := mc) (n := ms) (by omega) (by omega) ?_
        rw [hQ]
        exact W.vret hx hb hr (fun t ht hW => ⟨⟨(), rfl, trivial, a_texts_8, q2, new2_items_8, q4, new4_items_8, q6, by rw [ht]; exact hP9, hD9⟩, hS.F ht⟩) hS.2.2 d_Names_init_121
      · rw [if_neg h9] at hok
        refine va_getsN hx hb hkn.1 hS hown (va_Nw.use rfl (hgl _ wd_403)) (fun _ h9 => h9) d_Names_init_72 ?_
        refine lv_iload_n hx hb d_Names_init_75 rfl (lv_at hl 0 rfl) ?_
        obtain ⟨hi10, hok⟩ := ck_some hok
        refine vb_tq hx hb hkn.2.1 hS (ixb_in hi10) rfl d_Names_init_76 ?_
        refine vk_getfN hx hb (hkn.2.2.1 x1_8.toNatClampNeg (ixb_lt hi10)).1 hS hown (va_Nw.use rfl (hgl _ wd_415)) (fun _ h9 => h9) d_Names_init_77 ?_
        refine lv_astore_n hx hb d_Names_init_80 rfl hl (by decide) rfl (fun ls hl => ?_)
        have hl : lv_has ls 4 [(2, .ref (ka (200 + kn_text.getD x1_8.toNatClampNeg 0))), (1, .int x1_8), (0, .ref a)] := hl
        refine lv_aload_n hx hb d_Names_init_81 rfl (lv_at hl 2 rfl) ?_
        obtain ⟨a_textsSize_11, hc11, hok⟩ := bd_some hok
        obtain ⟨hPc, hDc, hFc⟩ := cut0 (wc := [(a, .inr (2, [.ref a_texts_8, .int a_textsSize_8, .ref q2, .ref q4, .ref q6, .int 0])), (q2, .inr (1, [.ref new2_items_8, .int new2_size_8])), (new2_items_8, .inl (cs 0, new2_items_8n, .inl new2_items_8f))]) hP hD hS hA [0, 2, 3] (by decide) rfl
        refine va_callv (va_runV (As := []) (rest := []) ⟨hx, hb, hml, hown, hg⟩ (c_Names_startText l g cs ka a_texts_8 q4 q6 a q2 new2_items_8 H.size a_textsSize_8 (0 : Int32) new2_size_8 new2_items_8n new2_items_8f a_textsSize_11 hc11) (cwV (C := R_Names) 0 hg (gw_V wd_417 wd_418 wd_419 wd_287 wd_416) rfl rfl rfl (by decide +kernel) ⟨Nat.le_of_ble_eq_true rfl, Nat.le_of_ble_eq_true rfl⟩) ⟨gP_blind, va_recv (q0 := 0) (ci := 2) (q := (R_Names, F_Names, 6)) hK hP rfl rfl, gP_pre hPc hDc hK hgl hkn hkr hS hFc⟩ rfl rfl hl.1 rfl (lv_room (Nat.le_of_ble_eq_true rfl)) d_Names_init_82 ⟨show cells8 + 0 ≤ mc from by omega, show slots8 + 0 ≤ ms from by omega⟩) hS (fun q _ h => hFc q h) hFc (fun u t H locs ht hvm hr11 hB hz1 hk1 hS => ?_)
        rw [ht] at hB
        obtain ⟨hP1, hD1⟩ := hB
        obtain ⟨hP, hD⟩ := jn_A hP hD [0, 2, 3] [1, 4, 5, 6] rfl rfl (by decide) (by decide) hk1 hFc hP1 hD1
        obtain ⟨hP, hD⟩ : PD g A H [(a_texts_8, .inl (cs 1, a_texts_8n, .inl a_texts_8f)), (q4, .inr (1, [.ref new4_items_8, .int new4_size_8])), (new4_items_8, .inl (cs 0, new4_items_8n, .inl new4_items_8f)), (q6, .inl (cs 0, 128, .inl new6_8f)), (a, .inr (2, [.ref a_texts_8, .int a_textsSize_11, .ref q2, .ref q4, .ref q6, .int 0])), (q2, .inr (1, [.ref new2_items_8, .int new2_size_8])), (new2_items_8, .inl (cs 0, new2_items_8n, .inl new2_items_8f))] := ⟨hP, hD⟩
        refine lv_iconst (v := 0) hx hb d_Names_init_85 (by decide) ?_
        refine lv_istore_n hx hb d_Names_init_86 rfl hl (by decide) rfl (fun ls hl => ?_)
        have hl : lv_has ls 4 [(3, .int 0), (2, .ref (ka (200 + kn_text.getD x1_8.toNatClampNeg 0))), (1, .int x1_8), (0, .ref a)] := hl
        have J12 : ∀ (kf12 : Nat) (H : Heap) (locs : List Loc) (ls : Array Slot) (cells12 slots12 mr12 sr12 : Nat) (a_texts_12 : Nat) (x3_12 : Int32) (a_textsSize_12 : Int32) (a_texts_12n : Nat) (a_texts_12f : Nat → Int32), lv_has ls 4 [(3, .int x3_12), (2, .ref (ka (200 + kn_text.getD x1_8.toNatClampNeg 0))), (1, .int x1_8), (0, .ref a)] → PD g A H [(a_texts_12, .inl (cs 1, a_texts_12n, .inl a_texts_12f)), (q4, .inr (1, [.ref new4_items_8, .int new4_size_8])), (new4_items_8, .inl (cs 0, new4_items_8n, .inl new4_items_8f)), (q6, .inl (cs 0, 128, .inl new6_8f)), (a, .inr (2, [.ref a_texts_12, .int a_textsSize_12, .ref q2, .ref q4, .ref q6, .int 0])), (q2, .inr (1, [.ref new2_items_8, .int new2_size_8])), (new2_items_8, .inl (cs 0, new2_items_8n, .inl new2_items_8f))] → va_S A s.heap H locs → cells12 + mr12 = mc → slots12 + sr12 = ms → p_Names_init_87 n x1_8 new2_size_8 new4_size_8 new2_items_8n new2_items_8f new4_items_8n new4_items_8f new6_8f (fun w0 w1 w2 w3 w4 w5 w6 w7 w8 w9 w10 => p_Names_init_64 n kf8 w0 w1 w2 w3 w4 w5 w6 w7 w8 w9 w10) kf12 x3_12 a_textsSize_12 a_texts_12n a_texts_12f = some ((o_a_textsSize, o_a_sizeBefore, o_a_texts_n, o_a_texts_f, o_a_ends_size, o_a_ends_items_n, o_a_ends_items_f, o_a_older_size, o_a_older_items_n, o_a_older_items_f, o_a_newest_n, o_a_newest_f), mr12, sr12) → W p l e (headSpec (.code y_Names_init b_Names_init 4 none :: GW) { frames := 4, cells := mc, slots := ms, locals := 167 }).room s m ([.ref a] : List Value).toArray below meth c H locs cells12 slots12 Q (F0 m 87 ls []) := by
          intro kf12
          induction kf12 with
          | zero => intro H locs ls cells12 slots12 mr12 sr12 a_texts_12 x3_12 a_textsSize_12 a_texts_12n a_texts_12f hl ⟨hP, hD⟩ hS hmr12 hsr12 hok; rw [p_Names_init_87] at hok; cases hok
          | succ kf12 ih12 =>
            intro H locs ls cells12 slots12 mr12 sr12 a_texts_12 x3_12 a_textsSize_12 a_texts_12n a_texts_12f hl ⟨hP, hD⟩ hS hmr12 hsr12 hok
            rw [p_Names_init_87] at hok
            refine lv_iload_n hx hb d_Names_init_87 rfl (lv_at hl 0 rfl) ?_
            refine lv_aload_n hx hb d_Names_init_88 rfl (lv_at hl 1 rfl) ?_
            obtain ⟨r13, hc13, hok⟩ := bd_some hok
            obtain ⟨hPc, hDc, hFc⟩ := cut0 (wc := []) hP hD hS hA [] (by decide) rfl
            refine va_calli (va_runV (As := []) (rest := [.int x3_12]) ⟨hx, hb, hml, hown, hg⟩ (c_String_length l g cs ka H.size (kn_text.getD x1_8.toNatClampNeg 0) r13 hc13) (cwV (C := "java/lang/String") 0 hg (gw_V wd_420 wd_196 wd_197 wd_164 wd_194) rfl rfl rfl (by decide +kernel) ⟨Nat.le_of_ble_eq_true rfl, Nat.le_of_ble_eq_true rfl⟩) ⟨gP_blind, kn_recv hkn (kn_text_lt x1_8.toNatClampNeg) hS, gP_pre hPc hDc hK hgl hkn hkr hS hFc⟩ rfl rfl hl.1 rfl (lv_room (Nat.le_of_ble_eq_true rfl)) d_Names_init_89 ⟨show cells12 + 0 ≤ mc from by omega, show slots12 + 0 ≤ ms from by omega⟩) hS (fun q _ h => hFc q h) hFc (fun r13' u t H locs ht hvm hr13 hB hz1 hk1 hS => ?_)
            subst hr13
            rw [ht] at hB
            obtain ⟨hP1, hD1⟩ := hB
            obtain ⟨hP, hD⟩ := jn_A hP hD [] [0, 1, 2, 3, 4, 5, 6] rfl rfl (by decide) (by decide) hk1 hFc hP1 hD1
            obtain ⟨hP, hD⟩ : PD g A H [(a_texts_12, .inl (cs 1, a_texts_12n, .inl a_texts_12f)), (q4, .inr (1, [.ref new4_items_8, .int new4_size_8])), (new4_items_8, .inl (cs 0, new4_items_8n, .inl new4_items_8f)), (q6, .inl (cs 0, 128, .inl new6_8f)), (a, .inr (2, [.ref a_texts_12, .int a_textsSize_12, .ref q2, .ref q4, .ref q6, .int 0])), (q2, .inr (1, [.ref new2_items_8, .int new2_size_8])), (new2_items_8, .inl (cs 0, new2_items_8n, .inl new2_items_8f))] := ⟨hP, hD⟩
            refine lv_icmp_ge hx hb d_Names_init_92 rfl (fun h14 => ?_) (fun h14 => ?_)
            · rw [if_pos h14] at hok
              refine lv_aload_n hx hb d_Names_init_110 rfl (lv_at hl 3 rfl) ?_
              obtain ⟨⟨⟨r15, a_ends_size_15, a_ends_items_n_15, a_ends_items_f_15, a_older_size_15, a_older_items_n_15, a_older_items_f_15, a_newest_f_15⟩, mk15, sk15⟩, hc15, hok⟩ := bd_some hok
              dsimp only at hok
              obtain ⟨m15, s15, hok, hmc15, hms15⟩ := al_some hok
              obtain ⟨hPc, hDc, hFc⟩ := cut0 (wc := [(a, .inr (2, [.ref a_texts_12, .int a_textsSize_12, .ref q2, .ref q4, .ref q6, .int 0])), (a_texts_12, .inl (cs 1, a_texts_12n, .inl a_texts_12f)), (q2, .inr (1, [.ref new2_items_8, .int new2_size_8])), (new2_items_8, .inl (cs 0, new2_items_8n, .inl new2_items_8f)), (q4, .inr (1, [.ref new4_items_8, .int new4_size_8])), (new4_items_8, .inl (cs 0, new4_items_8n, .inl new4_items_8f)), (q6, .inl (cs 0, 128, .inl new6_8f))]) hP hD hS hA [4, 0, 5, 6, 1, 2, 3] (by decide) rfl
              refine va_calli (va_runV (As := []) (rest := []) ⟨hx, hb, hml, hown, hg⟩ (c_Names_numberOfText l g cs ka a a_texts_12 q2 new2_items_8 q4 new4_items_8 q6 H.size n a_textsSize_12 (0 : Int32) a_texts_12n a_texts_12f new2_size_8 new2_items_8n new2_items_8f new4_size_8 new4_items_8n new4_items_8f 128 new6_8f r15 a_ends_size_15 a_ends_items_n_15 a_ends_items_f_15 a_older_size_15 a_older_items_n_15 a_older_items_f_15 a_newest_f_15 mk15 sk15 hc15) (cwV (C := R_Names) 0 hg (gw_V wd_422 wd_423 wd_424 wd_287 wd_421) rfl rfl rfl (by decide +kernel) ⟨Nat.le_of_ble_eq_true rfl, Nat.le_of_ble_eq_true rfl⟩) ⟨gP_blind, va_recv (q0 := 4) (ci := 2) (q := (R_Names, F_Names, 6)) hK hP rfl rfl, gP_pre hPc hDc hK hgl hkn hkr hS hFc⟩ rfl rfl hl.1 rfl (lv_room (Nat.le_of_ble_eq_true rfl)) d_Names_init_111 ⟨show cells12 + 0 + mk15 ≤ mc from by omega, show slots12 + 0 + sk15 ≤ ms from by omega⟩) hS (fun q _ h => hFc q h) hFc (fun r15' u t H locs ht hvm hr15 hB hz1 hk1 hS => ?_)
              subst hr15
              rw [ht] at hB
              obtain ⟨a_ends_items_15, a_older_items_15, hP1, hD1⟩ := hB
              obtain ⟨hP, hD⟩ := jn_A hP hD [4, 0, 5, 6, 1, 2, 3] [] rfl rfl (by decide) (by decide) hk1 hFc hP1 hD1
              obtain ⟨hP, hD⟩ : PD g A H [(a, .inr (2, [.ref a_texts_12, .int a_textsSize_12, .ref q2, .ref q4, .ref q6, .int 0])), (a_texts_12, .inl (cs 1, a_texts_12n, .inl a_texts_12f)), (q2, .inr (1, [.ref a_ends_items_15, .int a_ends_size_15])), (a_ends_items_15, .inl (cs 0, a_ends_items_n_15, .inl a_ends_items_f_15)), (q4, .inr (1, [.ref a_older_items_15, .int a_older_size_15])), (a_older_items_15, .inl (cs 0, a_older_items_n_15, .inl a_older_items_f_15)), (q6, .inl (cs 0, 128, .inl a_newest_f_15))] := ⟨hP, hD⟩
              refine lv_pop hx hb d_Names_init_114 rfl ?_
              refine lv_iinc (k := 2) (v := x1_8 + 1) hx hb d_Names_init_115 hl rfl rfl (by decide) rfl (fun ls hl => ?_)
              have hl : lv_has ls 4 [(1, .int (x1_8 + 1)), (3, .int x3_12), (2, .ref (ka (200 + kn_text.getD x1_8.toNatClampNeg 0))), (0, .ref a)] := hl
              refine lv_goto hx hb d_Names_init_118 rfl ?_
              exact ih8 _ _ _ _ _ _ _ a_texts_12 a_ends_items_15 a_older_items_15 (x1_8 + 1) a_textsSize_12 a_ends_size_15 a_older_size_15 a_texts_12n a_texts_12f a_ends_items_n_15 a_ends_items_f_15 a_older_items_n_15 a_older_items_f_15 a_newest_f_15 (lv_sub hl [0, 3] rfl) (sub3 hP hD [0, 1, 2, 3, 4, 5, 6] (by decide)) hS (by omega) (by omega) hok
            · rw [if_neg h14] at hok
              refine lv_aload_n hx hb d_Names_init_95 rfl (lv_at hl 3 rfl) ?_
              refine lv_aload_n hx hb d_Names_init_96 rfl (lv_at hl 1 rfl) ?_
              refine lv_iload_n hx hb d_Names_init_97 rfl (lv_at hl 0 rfl) ?_
              obtain ⟨r16, hc16, hok⟩ := bd_some hok
              obtain ⟨hPc, hDc, hFc⟩ := cut0 (wc := []) hP hD hS hA [] (by decide) rfl
              refine va_calli (va_runV (As := [.int x3_12]) (rest := [.ref a]) ⟨hx, hb, hml, hown, hg⟩ (c_String_charAt l g cs ka H.size (kn_text.getD x1_8.toNatClampNeg 0) x3_12 r16 hc16) (cwV (C := "java/lang/String") 1 hg (gw_V wd_426 wd_427 wd_428 wd_164 wd_425) rfl rfl rfl (by decide +kernel) ⟨Nat.le_of_ble_eq_true rfl, Nat.le_of_ble_eq_true rfl⟩) ⟨gP_blind, kn_recv hkn (kn_text_lt x1_8.toNatClampNeg) hS, gP_pre hPc hDc hK hgl hkn hkr hS hFc⟩ rfl rfl hl.1 rfl (lv_room (Nat.le_of_ble_eq_true rfl)) d_Names_init_98 ⟨show cells12 + 0 + 0 ≤ mc from by omega, show slots12 + 0 + 0 ≤ ms from by omega⟩) hS (fun q _ h => hFc q h) hFc (fun r16' u t H locs ht hvm hr16 hB hz1 hk1 hS => ?_)
              subst hr16
              rw [ht] at hB
              obtain ⟨hP1, hD1⟩ := hB
              obtain ⟨hP, hD⟩ := jn_A hP hD [] [0, 1, 2, 3, 4, 5, 6] rfl rfl (by decide) (by decide) hk1 hFc hP1 hD1
              obtain ⟨hP, hD⟩ : PD g A H [(a_texts_12, .inl (cs 1, a_texts_12n, .inl a_texts_12f)), (q4, .inr (1, [.ref new4_items_8, .int new4_size_8])), (new4_items_8, .inl (cs 0, new4_items_8n, .inl new4_items_8f)), (q6, .inl (cs 0, 128, .inl new6_8f)), (a, .inr (2, [.ref a_texts_12, .int a_textsSize_12, .ref q2, .ref q4, .ref q6, .int 0])), (q2, .inr (1, [.ref new2_items_8, .int new2_size_8])), (new2_items_8, .inl (cs 0, new2_items_8n, .inl new2_items_8f))] := ⟨hP, hD⟩
              obtain ⟨⟨⟨a_textsSize_17, a_texts_n_17, a_texts_f_17⟩, mk17, sk17⟩, hc17, hok⟩ := bd_some hok
              dsimp only at hok
              obtain ⟨m17, s17, hok, hmc17, hms17⟩ := al_some hok
              obtain ⟨hPc, hDc, hFc⟩ := cut0 (wc := [(a, .inr (2, [.ref a_texts_12, .int a_textsSize_12, .ref q2, .ref q4, .ref q6, .int 0])), (a_texts_12, .inl (cs 1, a_texts_12n, .inl a_texts_12f))]) hP hD hS hA [4, 0] (by decide) rfl
              refine va_callv (va_runV (As := [.int r16]) (rest := []) ⟨hx, hb, hml, hown, hg⟩ (c_Names_addToText l g cs ka q2 q4 q6 a a_texts_12 H.size r16 a_textsSize_12 (0 : Int32) a_texts_12n a_texts_12f a_textsSize_17 a_texts_n_17 a_texts_f_17 mk17 sk17 hc17) (cwV (C := R_Names) 1 hg (gw_V wd_430 wd_431 wd_432 wd_287 wd_429) rfl rfl rfl (by decide +kernel) ⟨Nat.le_of_ble_eq_true rfl, Nat.le_of_ble_eq_true rfl⟩) ⟨gP_blind, va_recv (q0 := 4) (ci := 2) (q := (R_Names, F_Names, 6)) hK hP rfl rfl, gP_pre hPc hDc hK hgl hkn hkr hS hFc⟩ rfl rfl hl.1 rfl (lv_room (Nat.le_of_ble_eq_true rfl)) d_Names_init_101 ⟨show cells12 + 0 + 0 + mk17 ≤ mc from by omega, show slots12 + 0 + 0 + sk17 ≤ ms from by omega⟩) hS (fun q _ h => hFc q h) hFc (fun u t H locs ht hvm hr17 hB hz1 hk1 hS => ?_)
              rw [ht] at hB
              obtain ⟨a_texts_17, hP1, hD1⟩ := hB
              obtain ⟨hP, hD⟩ := jn_A hP hD [4, 0] [1, 2, 3, 5, 6] rfl rfl (by decide) (by decide) hk1 hFc hP1 hD1
              obtain ⟨hP, hD⟩ : PD g A H [(q4, .inr (1, [.ref new4_items_8, .int new4_size_8])), (new4_items_8, .inl (cs 0, new4_items_8n, .inl new4_items_8f)), (q6, .inl (cs 0, 128, .inl new6_8f)), (q2, .inr (1, [.ref new2_items_8, .int new2_size_8])), (new2_items_8, .inl (cs 0, new2_items_8n, .inl new2_items_8f)), (a, .inr (2, [.ref a_texts_17, .int a_textsSize_17, .ref q2, .ref q4, .ref q6, .int 0])), (a_texts_17, .inl (cs 1, a_texts_n_17, .inl a_texts_f_17))] := ⟨hP, hD⟩
              refine lv_iinc (k := 0) (v := x3_12 + 1) hx hb d_Names_init_104 hl rfl rfl (by decide) rfl (fun ls hl => ?_)
              have hl : lv_has ls 4 [(3, .int (x3_12 + 1)), (2, .ref (ka (200 + kn_text.getD x1_8.toNatClampNeg 0))), (1, .int x1_8), (0, .ref a)] := hl
              refine lv_goto hx hb d_Names_init_107 rfl ?_
              exact ih12 _ _ _ _ _ _ _ a_texts_17 (x3_12 + 1) a_textsSize_17 a_texts_n_17 a_texts_f_17 (lv_sub hl [0, 1, 2, 3] rfl) (sub3 hP hD [6, 0, 1, 2, 5, 3, 4] (by decide)) hS (by omega) (by omega) hok
        exact J12 n H locs ls _ _ _ _ a_texts_8 (0 : Int32) a_textsSize_11 a_texts_8n a_texts_8f hl ⟨hP, hD⟩ hS (by omega) (by omega) hok
  exact J8 n H locs ls _ _ _ _ q1 a_items_3 a_items_5 (0 : Int32) (0 : Int32) a_size_3 a_size_5 256 (fun _ => 0 : Nat → Int32) a_items_n_3 a_items_f_3 a_items_n_5 a_items_f_5 b_f_7 hl ⟨hP, hD⟩ hS (by omega) (by omega) hok
