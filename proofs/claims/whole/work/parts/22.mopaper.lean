theorem wd_731 : ((.methodLink "UnifyBenchModel$Paper" 3 y_Object_init) : Cond) ∈ GW := gw_7 28 (by decide +kernel) rfl
theorem wd_732 : ((.fieldLink "UnifyBenchModel$Paper" 9 "UnifyBenchModel$Paper" "out" "[B") : Cond) ∈ GW := gw_7 29 (by decide +kernel) rfl
theorem wd_733 : ((.fieldLink "UnifyBenchModel$Paper" 15 "UnifyBenchModel$Paper" "walk" "[I") : Cond) ∈ GW := gw_7 31 (by decide +kernel) rfl
theorem wd_734 : ((.fieldLink "UnifyBenchModel$Paper" 19 "UnifyBenchModel$Paper" "next" "[I") : Cond) ∈ GW := gw_7 32 (by decide +kernel) rfl
theorem wd_735 : ((.fieldLink "UnifyBenchModel$Paper" 22 "UnifyBenchModel$Paper" "seen" "[I") : Cond) ∈ GW := gw_7 33 (by decide +kernel) rfl
theorem wd_736 : ((.fieldLink "UnifyBenchModel$Paper" 25 "UnifyBenchModel$Paper" "n" "I") : Cond) ∈ GW := gw_7 34 (by decide +kernel) rfl
theorem wd_737 : ((.fieldLink "UnifyBenchModel$Paper" 29 "UnifyBenchModel$Paper" "over" "Z") : Cond) ∈ GW := gw_7 36 (by decide +kernel) rfl
theorem wd_738 : ((.constantLong "UnifyBenchModel$Paper" 37 9) : Cond) ∈ GW := gw_8 134 (by decide +kernel) rfl
theorem wd_739 : ((.constantLong "UnifyBenchModel$Paper" 41 48) : Cond) ∈ GW := gw_8 136 (by decide +kernel) rfl
theorem wd_740 : ((.constantLong "UnifyBenchModel$Paper" 39 10) : Cond) ∈ GW := gw_8 135 (by decide +kernel) rfl
theorem wd_741 : ((.code y_MoPaper_put prog_16_method_2_code 2 none) : Cond) ∈ GW := gw_8 125 (by decide +kernel) rfl
theorem wd_742 : ((.initialized "UnifyBenchModel$Paper") : Cond) ∈ GW := gw_1 28 (by decide +kernel) rfl
theorem wd_743 : ((.methodLink "UnifyBenchModel$Paper" 33 y_MoPaper_put) : Cond) ∈ GW := gw_8 122 (by decide +kernel) rfl
theorem wd_744 : ((.instanceMethod y_MoPaper_put) : Cond) ∈ GW := gw_8 124 (by decide +kernel) rfl
theorem wd_745 : (.selects R_MoPaper y_MoPaper_put y_MoPaper_put : Cond) ∈ GW := gw_pr 84 (by decide +kernel) rfl
theorem wd_746 : ((.methodLink "UnifyBenchModel$Reader" 132 y_String_indexOf_I) : Cond) ∈ GW := gw_7 223 (by decide +kernel) rfl
theorem wd_747 : ((.methodLink "UnifyBenchModel$Paper" 43 y_MoNames_length) : Cond) ∈ GW := gw_8 165 (by decide +kernel) rfl
theorem wd_748 : ((.methodLink "UnifyBenchModel$Paper" 49 y_MoNames_at) : Cond) ∈ GW := gw_8 166 (by decide +kernel) rfl
theorem wd_749 : ((.code y_MoNames_spells prog_15_method_7_code 4 (some .boolean)) : Cond) ∈ GW := gw_8 141 (by decide +kernel) rfl
theorem wd_750 : ((.methodLink "UnifyBenchModel$Paper" 55 y_MoNames_spells) : Cond) ∈ GW := gw_8 138 (by decide +kernel) rfl
theorem wd_751 : ((.instanceMethod y_MoNames_spells) : Cond) ∈ GW := gw_8 139 (by decide +kernel) rfl
theorem wd_752 : ((.selects "UnifyBenchModel$Names" y_MoNames_spells y_MoNames_spells) : Cond) ∈ GW := gw_8 140 (by decide +kernel) rfl
theorem wd_753 : ((.code y_MoReader_symbol prog_17_method_9_code 1 (some .boolean)) : Cond) ∈ GW := gw_7 221 (by decide +kernel) rfl
theorem wd_754 : ((.initialized "UnifyBenchModel$Reader") : Cond) ∈ GW := gw_1 23 (by decide +kernel) rfl
theorem wd_755 : ((.methodLink "UnifyBenchModel$Paper" 61 y_MoReader_symbol) : Cond) ∈ GW := gw_8 167 (by decide +kernel) rfl
theorem wd_756 : ((.static y_MoReader_symbol) : Cond) ∈ GW := gw_7 220 (by decide +kernel) rfl
theorem wd_757 : ((.code y_MoPaper_plain prog_16_method_4_code 8 (some .boolean)) : Cond) ∈ GW := gw_8 164 (by decide +kernel) rfl
theorem wd_758 : ((.methodLink "UnifyBenchModel$Paper" 67 y_MoPaper_plain) : Cond) ∈ GW := gw_8 162 (by decide +kernel) rfl
theorem wd_759 : ((.static y_MoPaper_plain) : Cond) ∈ GW := gw_8 163 (by decide +kernel) rfl
theorem wd_760 : ((.fieldLink "UnifyBenchModel$Paper" 71 "UnifyBenchModel$Paper" "order" "I") : Cond) ∈ GW := gw_7 38 (by decide +kernel) rfl
theorem wd_761 : ((.code y_MoPaper_number prog_16_method_3_code 7 none) : Cond) ∈ GW := gw_8 133 (by decide +kernel) rfl
theorem wd_762 : ((.methodLink "UnifyBenchModel$Paper" 74 y_MoPaper_number) : Cond) ∈ GW := gw_8 130 (by decide +kernel) rfl
theorem wd_763 : ((.instanceMethod y_MoPaper_number) : Cond) ∈ GW := gw_8 132 (by decide +kernel) rfl
theorem wd_764 : (.selects R_MoPaper y_MoPaper_number y_MoPaper_number : Cond) ∈ GW := gw_pr 86 (by decide +kernel) rfl
theorem wd_765 : ((.fieldLink "UnifyBenchModel$Paper" 92 "UnifyBenchModel$Terms" "many" "[I") : Cond) ∈ GW := gw_6 96 (by decide +kernel) rfl
theorem wd_766 : ((.code y_MoTerms_part prog_18_method_6_code 3 (some .int)) : Cond) ∈ GW := gw_8 85 (by decide +kernel) rfl
theorem wd_767 : ((.initialized "UnifyBenchModel$Terms") : Cond) ∈ GW := gw_1 21 (by decide +kernel) rfl
theorem wd_768 : ((.methodLink "UnifyBenchModel$Paper" 95 y_MoTerms_part) : Cond) ∈ GW := gw_8 152 (by decide +kernel) rfl
theorem wd_769 : ((.instanceMethod y_MoTerms_part) : Cond) ∈ GW := gw_8 83 (by decide +kernel) rfl
theorem wd_770 : ((.selects "UnifyBenchModel$Terms" y_MoTerms_part y_MoTerms_part) : Cond) ∈ GW := gw_8 84 (by decide +kernel) rfl
theorem wd_771 : ((.fieldLink "UnifyBenchModel$Paper" 83 "UnifyBenchModel$Terms" "name" "[I") : Cond) ∈ GW := gw_6 92 (by decide +kernel) rfl
theorem wd_772 : ((.code y_MoPaper_name prog_16_method_5_code 5 none) : Cond) ∈ GW := gw_8 161 (by decide +kernel) rfl
theorem wd_773 : ((.methodLink "UnifyBenchModel$Paper" 102 y_MoPaper_name) : Cond) ∈ GW := gw_8 158 (by decide +kernel) rfl
theorem wd_774 : ((.instanceMethod y_MoPaper_name) : Cond) ∈ GW := gw_8 160 (by decide +kernel) rfl
theorem wd_775 : (.selects R_MoPaper y_MoPaper_name y_MoPaper_name : Cond) ∈ GW := gw_pr 88 (by decide +kernel) rfl
theorem d_MoPaper_init_0 : decode b_MoPaper_init 0 = .ok (.aload_n 0, 1) := by decide +kernel
theorem d_MoPaper_init_1 : decode b_MoPaper_init 1 = .ok (.invokespecial 3, 3) := by decide +kernel
theorem d_MoPaper_init_4 : decode b_MoPaper_init 4 = .ok (.aload_n 0, 1) := by decide +kernel
theorem d_MoPaper_init_5 : decode b_MoPaper_init 5 = .ok (.sipush 4096, 3) := by decide +kernel
theorem d_MoPaper_init_8 : decode b_MoPaper_init 8 = .ok (.newarray .byte, 2) := by decide +kernel
theorem d_MoPaper_init_10 : decode b_MoPaper_init 10 = .ok (.putfield 9, 3) := by decide +kernel
theorem d_MoPaper_init_13 : decode b_MoPaper_init 13 = .ok (.aload_n 0, 1) := by decide +kernel
theorem d_MoPaper_init_14 : decode b_MoPaper_init 14 = .ok (.sipush 9000, 3) := by decide +kernel
theorem d_MoPaper_init_17 : decode b_MoPaper_init 17 = .ok (.newarray .int, 2) := by decide +kernel
theorem d_MoPaper_init_19 : decode b_MoPaper_init 19 = .ok (.putfield 15, 3) := by decide +kernel
theorem d_MoPaper_init_22 : decode b_MoPaper_init 22 = .ok (.aload_n 0, 1) := by decide +kernel
theorem d_MoPaper_init_23 : decode b_MoPaper_init 23 = .ok (.sipush 9000, 3) := by decide +kernel
theorem d_MoPaper_init_26 : decode b_MoPaper_init 26 = .ok (.newarray .int, 2) := by decide +kernel
theorem d_MoPaper_init_28 : decode b_MoPaper_init 28 = .ok (.putfield 19, 3) := by decide +kernel
theorem d_MoPaper_init_31 : decode b_MoPaper_init 31 = .ok (.aload_n 0, 1) := by decide +kernel
theorem d_MoPaper_init_32 : decode b_MoPaper_init 32 = .ok (.sipush 4200, 3) := by decide +kernel
theorem d_MoPaper_init_35 : decode b_MoPaper_init 35 = .ok (.newarray .int, 2) := by decide +kernel
theorem d_MoPaper_init_37 : decode b_MoPaper_init 37 = .ok (.putfield 22, 3) := by decide +kernel
theorem d_MoPaper_init_40 : decode b_MoPaper_init 40 = .ok (.return_, 1) := by decide +kernel
def p_MoPaper_init : Option ((Int32 × Int32 × Int32 × Nat × (Nat → Int32) × Nat × (Nat → Int32) × Nat × (Nat → Int32) × Nat × (Nat → Int32)) × Nat × Nat) := al 1 4096 (al 1 9000 (al 1 9000 (al 1 4200 (some (((0 : Int32), (0 : Int32), (0 : Int32), 4096, (fun _ => 0 : Nat → Int32), 9000, (fun _ => 0 : Nat → Int32), 9000, (fun _ => 0 : Nat → Int32), 4200, (fun _ => 0 : Nat → Int32)), 0, 0)))))
set_option maxHeartbeats 40000000 in
set_option maxRecDepth 100000 in
theorem c_MoPaper_init (l : Launch) (g : va_G) (cs : Nat → ClassId) (ka : Nat → Nat) (a : Nat) (sz : Nat) (o_a_n : Int32) (o_a_over : Int32) (o_a_order : Int32) (o_a_out_n : Nat) (o_a_out_f : Nat → Int32) (o_a_walk_n : Nat) (o_a_walk_f : Nat → Int32) (o_a_next_n : Nat) (o_a_next_f : Nat → Int32) (o_a_seen_n : Nat) (o_a_seen_f : Nat → Int32) (mc ms : Nat) (hok : p_MoPaper_init = some ((o_a_n, o_a_over, o_a_order, o_a_out_n, o_a_out_f, o_a_walk_n, o_a_walk_f, o_a_next_n, o_a_next_f, o_a_seen_n, o_a_seen_f), mc, ms)) : Met l y_MoPaper_init (.code y_MoPaper_init b_MoPaper_init 1 none :: GW) { frames := 1, cells := mc, slots := ms, locals := 12 } (va_Pc [.ref a] (gP g cs ka [(a, .inr (13, [.null, .null, .null, .null, .int 0, .int 0, .int 0]))] sz)) (va_Qv (fun _ : Unit => True) (fun _ t => ∃ b_a_out b_a_walk b_a_next b_a_seen : Nat, va_P g classes [(a, .inr (13, [.ref b_a_out, .ref b_a_walk, .ref b_a_next, .ref b_a_seen, .int o_a_n, .int o_a_over, .int o_a_order])), (b_a_out, .inl (cs 1, o_a_out_n, .inl o_a_out_f)), (b_a_walk, .inl (cs 0, o_a_walk_n, .inl o_a_walk_f)), (b_a_next, .inl (cs 0, o_a_next_n, .inl o_a_next_f)), (b_a_seen, .inl (cs 0, o_a_seen_n, .inl o_a_seen_f))] t.heap ∧ va_D (va_A [(a, .inr (13, [.null, .null, .null, .null, .int 0, .int 0, .int 0]))] sz) [(a, .inr (13, [.ref b_a_out, .ref b_a_walk, .ref b_a_next, .ref b_a_seen, .int o_a_n, .int o_a_over, .int o_a_order])), (b_a_out, .inl (cs 1, o_a_out_n, .inl o_a_out_f)), (b_a_walk, .inl (cs 0, o_a_walk_n, .inl o_a_walk_f)), (b_a_next, .inl (cs 0, o_a_next_n, .inl o_a_next_f)), (b_a_seen, .inl (cs 0, o_a_seen_n, .inl o_a_seen_f))]) (va_A [(a, .inr (13, [.null, .null, .null, .null, .int 0, .int 0, .int 0]))] sz)) mc ms (va_A [(a, .inr (13, [.null, .null, .null, .null, .int 0, .int 0, .int 0]))] sz) := by
  refine Met.ofW (cc := b_MoPaper_init) (maxL := 1) (ret := none) (by decide) rfl ?_
  intro p e s m args below meth c s₁ B hml hv
  obtain ⟨rfl, hsz, hP, hK, hD0, hgl, hkn, hkr⟩ := hv
  have hx := B.exec
  have hb := B.bytes
  have hr := B.returns
  have hg : ∀ w ∈ GW, w.before ([.ref a] : List Value).toArray s = true := fun w hw => atoms_spec (ws := .code y_MoPaper_init b_MoPaper_init 1 none :: GW) B.pre w (List.mem_cons_of_mem _ hw)
  have hown : s.vm.findClass R_MoPaper = some m.cls := findClass_of_methodNamed B.named
  have hlocks := B.notSynchronized
  have hin : meth.name = "<init>" := (name_of_methodNamed B.named B.method).1
  subst hsz
  have hD := hD0.self (sz := s.heap.size)
  generalize hAe : va_A [(a, .inr (13, [.null, .null, .null, .null, .int 0, .int 0, .int 0]))] s.heap.size = A at hD hkn ⊢
  have hA : ∀ q : Nat, s.heap.size ≤ q → A q := fun q h => by rw [← hAe]; exact Or.inr h
  have hS : va_S A s.heap s.heap [] := va_S.rf
  have hP : va_P g classes [(a, .inr (13, [.null, .null, .null, .null, .int 0, .int 0, .int 0]))] s.heap := hP
  have hl := lv_entry ([.ref a]) (n := 1) (Nat.le_of_ble_eq_true rfl)
  rw [lg_entry_eq]
  generalize (lg_sl ([.ref a]) ++ List.replicate (1 - (lg_sl ([.ref a])).length) Slot.unset).toArray = ls at hl ⊢
  have hl : lv_has ls 1 [(0, .ref a)] := hl
  refine gq (fun Q hQ => ?_)
  obtain ⟨H, hH⟩ : ∃ H : Heap, H = s.heap := ⟨_, rfl⟩
  rw [← hH] at hP
  have hS : va_S A s.heap H [] := by rw [hH]; exact hS
  refine W.eqH hH ?_
  obtain ⟨locs, hlc⟩ : ∃ L : List Loc, L = [] := ⟨_, rfl⟩
  rw [← hlc] at hS ⊢
  unfold p_MoPaper_init at hok
  refine lv_aload_n hx hb d_MoPaper_init_0 rfl (lv_at hl 0 rfl) ?_
  refine W.objInit hx hb hown (hg _ wd_731) (hg _ wd_158) (hg _ wd_159) rfl (by rw [hml]; exact hl.1) rfl d_MoPaper_init_1 (Nat.le_of_ble_eq_true rfl) (Nat.le_of_ble_eq_true rfl) ?_
  refine W.eq (g2 := F0 m 4 ls []) rfl ?_
  refine lv_aload_n hx hb d_MoPaper_init_4 rfl (lv_at hl 0 rfl) ?_
  refine lv_sipush (v := 4096) hx hb d_MoPaper_init_5 (by decide) ?_
  obtain ⟨m1, s1, hok, hmc1, hms1⟩ := al_some hok
  refine g_newB hx hb (hg _ wd_209) hK hP hD hS hA (4096) (by decide) (by decide) (by decide) (show 0 + 1 ≤ mc from by omega) (show 0 + 4096 ≤ ms from by omega) d_MoPaper_init_8 (fun q1 H hP hD hS => ?_)
  obtain ⟨hP, hD⟩ : PD g A H [(a, .inr (13, [.null, .null, .null, .null, .int 0, .int 0, .int 0])), (q1, .inl (cs 1, 4096, .inl (fun _ => 0)))] := ⟨hP, hD⟩
  refine va_putF (D := g) (ci := 13) (v := .ref q1) (ty := .array .byte) (C := R_MoPaper) (T := F_MoPaper) (N := 7) hx hb hg ul_MoPaper t_MoPaper tk_MoPaper n_MoPaper hown hK hP hD hS 0 rfl rfl 0 (by decide) (hg _ wd_732) (fun _ h9 => h9) rfl hin rfl (by decide +kernel) rfl rfl (Nat.le_of_ble_eq_true rfl) d_MoPaper_init_10 (fun H locs hP hD hS => ?_)
  obtain ⟨hP, hD⟩ : PD g A H [(a, .inr (13, [.ref q1, .null, .null, .null, .int 0, .int 0, .int 0])), (q1, .inl (cs 1, 4096, .inl (fun _ => 0)))] := ⟨hP, hD⟩
  refine lv_aload_n hx hb d_MoPaper_init_13 rfl (lv_at hl 0 rfl) ?_
  refine lv_sipush (v := 9000) hx hb d_MoPaper_init_14 (by decide) ?_
  obtain ⟨m2, s2, hok, hmc2, hms2⟩ := al_some hok
  refine g_newI hx hb (hg _ wd_142) hK hP hD hS hA (9000) (by decide) (by decide) (by decide) (show 0 + 1 + 1 ≤ mc from by omega) (show 0 + 4096 + 9000 ≤ ms from by omega) d_MoPaper_init_17 (fun q2 H hP hD hS => ?_)
  obtain ⟨hP, hD⟩ : PD g A H [(a, .inr (13, [.ref q1, .null, .null, .null, .int 0, .int 0, .int 0])), (q1, .inl (cs 1, 4096, .inl (fun _ => 0))), (q2, .inl (cs 0, 9000, .inl (fun _ => 0)))] := ⟨hP, hD⟩
  refine va_putF (D := g) (ci := 13) (v := .ref q2) (ty := .array .int) (C := R_MoPaper) (T := F_MoPaper) (N := 7) hx hb hg ul_MoPaper t_MoPaper tk_MoPaper n_MoPaper hown hK hP hD hS 0 rfl rfl 1 (by decide) (hg _ wd_733) (fun _ h9 => h9) rfl hin rfl (by decide +kernel) rfl rfl (Nat.le_of_ble_eq_true rfl) d_MoPaper_init_19 (fun H locs hP hD hS => ?_)
  obtain ⟨hP, hD⟩ : PD g A H [(a, .inr (13, [.ref q1, .ref q2, .null, .null, .int 0, .int 0, .int 0])), (q1, .inl (cs 1, 4096, .inl (fun _ => 0))), (q2, .inl (cs 0, 9000, .inl (fun _ => 0)))] := ⟨hP, hD⟩
  refine lv_aload_n hx hb d_MoPaper_init_22 rfl (lv_at hl 0 rfl) ?_
  refine lv_sipush (v := 9000) hx hb d_MoPaper_init_23 (by decide) ?_
  obtain ⟨m3, s3, hok, hmc3, hms3⟩ := al_some hok
  refine g_newI hx hb (hg _ wd_142) hK hP hD hS hA (9000) (by decide) (by decide) (by decide) (show 0 + 1 + 1 + 1 ≤ mc from by omega) (show 0 + 4096 + 9000 + 9000 ≤ ms from by omega) d_MoPaper_init_26 (fun q3 H hP hD hS => ?_)
  obtain ⟨hP, hD⟩ : PD g A H [(a, .inr (13, [.ref q1, .ref q2, .null, .null, .int 0, .int 0, .int 0])), (q1, .inl (cs 1, 4096, .inl (fun _ => 0))), (q2, .inl (cs 0, 9000, .inl (fun _ => 0))), (q3, .inl (cs 0, 9000, .inl (fun _ => 0)))] := ⟨hP, hD⟩
  refine va_putF (D := g) (ci := 13) (v := .ref q3) (ty := .array .int) (C := R_MoPaper) (T := F_MoPaper) (N := 7) hx hb hg ul_MoPaper t_MoPaper tk_MoPaper n_MoPaper hown hK hP hD hS 0 rfl rfl 2 (by decide) (hg _ wd_734) (fun _ h9 => h9) rfl hin rfl (by decide +kernel) rfl rfl (Nat.le_of_ble_eq_true rfl) d_MoPaper_init_28 (fun H locs hP hD hS => ?_)
  obtain ⟨hP, hD⟩ : PD g A H [(a, .inr (13, [.ref q1, .ref q2, .ref q3, .null, .int 0, .int 0, .int 0])), (q1, .inl (cs 1, 4096, .inl (fun _ => 0))), (q2, .inl (cs 0, 9000, .inl (fun _ => 0))), (q3, .inl (cs 0, 9000, .inl (fun _ => 0)))] := ⟨hP, hD⟩
  refine lv_aload_n hx hb d_MoPaper_init_31 rfl (lv_at hl 0 rfl) ?_
  refine lv_sipush (v := 4200) hx hb d_MoPaper_init_32 (by decide) ?_
  obtain ⟨m4, s4, hok, hmc4, hms4⟩ := al_some hok
  refine g_newI hx hb (hg _ wd_142) hK hP hD hS hA (4200) (by decide) (by decide) (by decide) (show 0 + 1 + 1 + 1 + 1 ≤ mc from by omega) (show 0 + 4096 + 9000 + 9000 + 4200 ≤ ms from by omega) d_MoPaper_init_35 (fun q4 H hP hD hS => ?_)
  obtain ⟨hP, hD⟩ : PD g A H [(a, .inr (13, [.ref q1, .ref q2, .ref q3, .null, .int 0, .int 0, .int 0])), (q1, .inl (cs 1, 4096, .inl (fun _ => 0))), (q2, .inl (cs 0, 9000, .inl (fun _ => 0))), (q3, .inl (cs 0, 9000, .inl (fun _ => 0))), (q4, .inl (cs 0, 4200, .inl (fun _ => 0)))] := ⟨hP, hD⟩
  refine va_putF (D := g) (ci := 13) (v := .ref q4) (ty := .array .int) (C := R_MoPaper) (T := F_MoPaper) (N := 7) hx hb hg ul_MoPaper t_MoPaper tk_MoPaper n_MoPaper hown hK hP hD hS 0 rfl rfl 3 (by decide) (hg _ wd_735) (fun _ h9 => h9) rfl hin rfl (by decide +kernel) rfl rfl (Nat.le_of_ble_eq_true rfl) d_MoPaper_init_37 (fun H locs hP hD hS => ?_)
  obtain ⟨hP, hD⟩ : PD g A H [(a, .inr (13, [.ref q1, .ref q2, .ref q3, .ref q4, .int 0, .int 0, .int 0])), (q1, .inl (cs 1, 4096, .inl (fun _ => 0))), (q2, .inl (cs 0, 9000, .inl (fun _ => 0))), (q3, .inl (cs 0, 9000, .inl (fun _ => 0))), (q4, .inl (cs 0, 4200, .inl (fun _ => 0)))] := ⟨hP, hD⟩
  obtain ⟨hq, hw⟩ := Prod.mk.inj (Option.some.inj hok)
  obtain ⟨hmc0, hms0⟩ := Prod.mk.inj hw
  obtain ⟨hq0, hq⟩ := Prod.mk.inj hq
  obtain ⟨hq1, hq⟩ := Prod.mk.inj hq
  obtain ⟨hq2, hq⟩ := Prod.mk.inj hq
  obtain ⟨hq3, hq⟩ := Prod.mk.inj hq
  obtain ⟨hq4, hq⟩ := Prod.mk.inj hq
  obtain ⟨hq5, hq⟩ := Prod.mk.inj hq
  obtain ⟨hq6, hq⟩ := Prod.mk.inj hq
  obtain ⟨hq7, hq⟩ := Prod.mk.inj hq
  obtain ⟨hq8, hq⟩ := Prod.mk.inj hq
  obtain ⟨hq9, hq⟩ := Prod.mk.inj hq
  have hq10 := hq
  subst hq0
  subst hq1
  subst hq2
  subst hq3
  subst hq4
  subst hq5
  subst hq6
  subst hq7
  subst hq8
  subst hq9
  subst hq10
  obtain ⟨hP9, hD9⟩ := sub2 (ws' := [(a, .inr (13, [.ref q1, .ref q2, .ref q3, .ref q4, .int 0, .int 0, .int 0])), (q1, .inl (cs 1, 4096, .inl (fun _ => 0))), (q2, .inl (cs 0, 9000, .inl (fun _ => 0))), (q3, .inl (cs 0, 9000, .inl (fun _ => 0))), (q4, .inl (cs 0, 4200, .inl (fun _ => 0)))]) hP hD [0, 1, 2, 3, 4] rfl (by decide) rfl
  refine W.widen (k := mc) (n := ms) (by omega) (by omega) ?_
  rw [hQ]
  exact W.vret hx hb hr (fun t ht hW => ⟨⟨(), rfl, trivial, q1, q2, q3, q4, by rw [ht]; exact hP9, hD9⟩, hS.F ht⟩) hS.2.2 d_MoPaper_init_40

theorem d_MoPaper_put_0 : decode b_MoPaper_put 0 = .ok (.aload_n 0, 1) := by decide +kernel
theorem d_MoPaper_put_1 : decode b_MoPaper_put 1 = .ok (.getfield 25, 3) := by decide +kernel
theorem d_MoPaper_put_4 : decode b_MoPaper_put 4 = .ok (.sipush 4096, 3) := by decide +kernel
theorem d_MoPaper_put_7 : decode b_MoPaper_put 7 = .ok (.if_icmp .ne 8, 3) := by decide +kernel
theorem d_MoPaper_put_10 : decode b_MoPaper_put 10 = .ok (.aload_n 0, 1) := by decide +kernel
theorem d_MoPaper_put_11 : decode b_MoPaper_put 11 = .ok (.iconst 1, 1) := by decide +kernel
theorem d_MoPaper_put_12 : decode b_MoPaper_put 12 = .ok (.putfield 29, 3) := by decide +kernel
theorem d_MoPaper_put_15 : decode b_MoPaper_put 15 = .ok (.aload_n 0, 1) := by decide +kernel
theorem d_MoPaper_put_16 : decode b_MoPaper_put 16 = .ok (.getfield 29, 3) := by decide +kernel
theorem d_MoPaper_put_19 : decode b_MoPaper_put 19 = .ok (.ifCond .eq 4, 3) := by decide +kernel
theorem d_MoPaper_put_22 : decode b_MoPaper_put 22 = .ok (.return_, 1) := by decide +kernel
theorem d_MoPaper_put_23 : decode b_MoPaper_put 23 = .ok (.aload_n 0, 1) := by decide +kernel
theorem d_MoPaper_put_24 : decode b_MoPaper_put 24 = .ok (.getfield 9, 3) := by decide +kernel
theorem d_MoPaper_put_27 : decode b_MoPaper_put 27 = .ok (.aload_n 0, 1) := by decide +kernel
theorem d_MoPaper_put_28 : decode b_MoPaper_put 28 = .ok (.getfield 25, 3) := by decide +kernel
theorem d_MoPaper_put_31 : decode b_MoPaper_put 31 = .ok (.iload_n 1, 1) := by decide +kernel
theorem d_MoPaper_put_32 : decode b_MoPaper_put 32 = .ok (.i2b, 1) := by decide +kernel
theorem d_MoPaper_put_33 : decode b_MoPaper_put 33 = .ok (.bastore, 1) := by decide +kernel
theorem d_MoPaper_put_34 : decode b_MoPaper_put 34 = .ok (.aload_n 0, 1) := by decide +kernel
theorem d_MoPaper_put_35 : decode b_MoPaper_put 35 = .ok (.dup, 1) := by decide +kernel
theorem d_MoPaper_put_36 : decode b_MoPaper_put 36 = .ok (.getfield 25, 3) := by decide +kernel
theorem d_MoPaper_put_39 : decode b_MoPaper_put 39 = .ok (.iconst 1, 1) := by decide +kernel
theorem d_MoPaper_put_40 : decode b_MoPaper_put 40 = .ok (.iadd, 1) := by decide +kernel
theorem d_MoPaper_put_41 : decode b_MoPaper_put 41 = .ok (.putfield 25, 3) := by decide +kernel
theorem d_MoPaper_put_44 : decode b_MoPaper_put 44 = .ok (.return_, 1) := by decide +kernel
def p_MoPaper_put (b : Int32) (a_n : Int32) (a_over : Int32) (a_order : Int32) (a_out_n : Nat) (a_out_f : Nat → Int32) : Option (Int32 × Int32 × (Nat → Int32)) := if a_n = 4096 then (some (a_n, (1 : Int32), a_out_f)) else (if a_over = 0 then (ck (ixb a_n a_out_n) (some (a_n + 1, a_over, upd a_out_f a_n.toNatClampNeg (vp_nar .byte b.toInt8.toInt32)))) else (some (a_n, a_over, a_out_f)))
set_option maxHeartbeats 40000000 in
set_option maxRecDepth 100000 in
theorem c_MoPaper_put (l : Launch) (g : va_G) (cs : Nat → ClassId) (ka : Nat → Nat) (a_walk : Nat) (a_next : Nat) (a_seen : Nat) (a a_out : Nat) (sz : Nat) (b : Int32) (a_n : Int32) (a_over : Int32) (a_order : Int32) (a_out_n : Nat) (a_out_f : Nat → Int32) (o_a_n : Int32) (o_a_over : Int32) (o_a_out_f : Nat → Int32) (hok : p_MoPaper_put b a_n a_over a_order a_out_n a_out_f = some (o_a_n, o_a_over, o_a_out_f)) : Met l y_MoPaper_put (.code y_MoPaper_put b_MoPaper_put 2 none :: GW) { frames := 0, cells := 0, slots := 0, locals := 0 } (va_Pc [.ref a, .int b] (gP g cs ka [(a, .inr (13, [.ref a_out, .ref a_walk, .ref a_next, .ref a_seen, .int a_n, .int a_over, .int a_order])), (a_out, .inl (cs 1, a_out_n, .inl a_out_f))] sz)) (va_Qv (fun _ : Unit => True) (fun _ t => va_P g classes [(a, .inr (13, [.ref a_out, .ref a_walk, .ref a_next, .ref a_seen, .int o_a_n, .int o_a_over, .int a_order])), (a_out, .inl (cs 1, a_out_n, .inl o_a_out_f))] t.heap ∧ va_D (va_A [(a, .inr (13, [.ref a_out, .ref a_walk, .ref a_next, .ref a_seen, .int a_n, .int a_over, .int a_order])), (a_out, .inl (cs 1, a_out_n, .inl a_out_f))] sz) [(a, .inr (13, [.ref a_out, .ref a_walk, .ref a_next, .ref a_seen, .int o_a_n, .int o_a_over, .int a_order])), (a_out, .inl (cs 1, a_out_n, .inl o_a_out_f))]) (va_A [(a, .inr (13, [.ref a_out, .ref a_walk, .ref a_next, .ref a_seen, .int a_n, .int a_over, .int a_order])), (a_out, .inl (cs 1, a_out_n, .inl a_out_f))] sz)) 0 0 (va_A [(a, .inr (13, [.ref a_out, .ref a_walk, .ref a_next, .ref a_seen, .int a_n, .int a_over, .int a_order])), (a_out, .inl (cs 1, a_out_n, .inl a_out_f))] sz) := by
  refine Met.ofW (cc := b_MoPaper_put) (maxL := 2) (ret := none) (by decide) rfl ?_
  intro p e s m args below meth c s₁ B hml hv
  obtain ⟨rfl, hsz, hP, hK, hD0, hgl, hkn, hkr⟩ := hv
  have hx := B.exec
  have hb := B.bytes
  have hr := B.returns
  have hg : ∀ w ∈ GW, w.before ([.ref a, .int b] : List Value).toArray s = true := fun w hw => atoms_spec (ws := .code y_MoPaper_put b_MoPaper_put 2 none :: GW) B.pre w (List.mem_cons_of_mem _ hw)
  have hown : s.vm.findClass R_MoPaper = some m.cls := findClass_of_methodNamed B.named
  have hlocks := B.notSynchronized
  subst hsz
  have hD := hD0.self (sz := s.heap.size)
  generalize hAe : va_A [(a, .inr (13, [.ref a_out, .ref a_walk, .ref a_next, .ref a_seen, .int a_n, .int a_over, .int a_order])), (a_out, .inl (cs 1, a_out_n, .inl a_out_f))] s.heap.size = A at hD hkn ⊢
  have hA : ∀ q : Nat, s.heap.size ≤ q → A q := fun q h => by rw [← hAe]; exact Or.inr h
  have hS : va_S A s.heap s.heap [] := va_S.rf
  have hP : va_P g classes [(a, .inr (13, [.ref a_out, .ref a_walk, .ref a_next, .ref a_seen, .int a_n, .int a_over, .int a_order])), (a_out, .inl (cs 1, a_out_n, .inl a_out_f))] s.heap := hP
  have hl := lv_entry ([.ref a, .int b]) (n := 2) (Nat.le_of_ble_eq_true rfl)
  rw [lg_entry_eq]
  generalize (lg_sl ([.ref a, .int b]) ++ List.replicate (2 - (lg_sl ([.ref a, .int b])).length) Slot.unset).toArray = ls at hl ⊢
  have hl : lv_has ls 2 [(0, .ref a), (1, .int b)] := hl
  refine gq (fun Q hQ => ?_)
  obtain ⟨H, hH⟩ : ∃ H : Heap, H = s.heap := ⟨_, rfl⟩
  rw [← hH] at hP
  have hS : va_S A s.heap H [] := by rw [hH]; exact hS
  refine W.eqH hH ?_
  obtain ⟨locs, hlc⟩ : ∃ L : List Loc, L = [] := ⟨_, rfl⟩
  rw [← hlc] at hS ⊢
  unfold p_MoPaper_put at hok
  refine lv_aload_n hx hb d_MoPaper_put_0 rfl (lv_at hl 0 rfl) ?_
  refine va_get (D := g) (ci := 13) (v := .int a_n) (C := R_MoPaper) (T := F_MoPaper) (N := 7) hx hb hg ul_MoPaper hown hK hP 0 rfl rfl 4 (by decide) (hg _ wd_736) (fun _ h9 => h9) rfl d_MoPaper_put_1 ?_
  refine lv_sipush (v := 4096) hx hb d_MoPaper_put_4 (by decide) ?_
  refine lv_icmp_ne hx hb d_MoPaper_put_7 rfl (fun h1 => ?_) (fun h1 => ?_)
  · rw [if_neg h1] at hok
    refine lv_aload_n hx hb d_MoPaper_put_15 rfl (lv_at hl 0 rfl) ?_
    refine va_get (D := g) (ci := 13) (v := .int a_over) (C := R_MoPaper) (T := F_MoPaper) (N := 7) hx hb hg ul_MoPaper hown hK hP 0 rfl rfl 5 (by decide) (hg _ wd_737) (fun _ h9 => h9) rfl d_MoPaper_put_16 ?_
    refine lv_if_eq hx hb d_MoPaper_put_19 rfl (fun h2 => ?_) (fun h2 => ?_)
    · rw [if_pos h2] at hok
      refine lv_aload_n hx hb d_MoPaper_put_23 rfl (lv_at hl 0 rfl) ?_
      refine va_get (D := g) (ci := 13) (v := .ref a_out) (C := R_MoPaper) (T := F_MoPaper) (N := 7) hx hb hg ul_MoPaper hown hK hP 0 rfl rfl 0 (by decide) (hg _ wd_732) (fun _ h9 => h9) rfl d_MoPaper_put_24 ?_
      refine lv_aload_n hx hb d_MoPaper_put_27 rfl (lv_at hl 0 rfl) ?_
      refine va_get (D := g) (ci := 13) (v := .int a_n) (C := R_MoPaper) (T := F_MoPaper) (N := 7) hx hb hg ul_MoPaper hown hK hP 0 rfl rfl 4 (by decide) (hg _ wd_736) (fun _ h9 => h9) rfl d_MoPaper_put_28 ?_
      refine lv_iload_n hx hb d_MoPaper_put_31 rfl (lv_at hl 1 rfl) ?_
      refine lv_i2b hx hb d_MoPaper_put_32 rfl ?_
      obtain ⟨hi3, hok⟩ := ck_some hok
      refine va_bast hx hb hK hP hD hS 1 1 rfl rfl (ixb_in hi3) d_MoPaper_put_33 (fun H locs hP hD hS => ?_)
      obtain ⟨hP, hD⟩ : PD g A H [(a, .inr (13, [.ref a_out, .ref a_walk, .ref a_next, .ref a_seen, .int a_n, .int a_over, .int a_order])), (a_out, .inl (cs 1, a_out_n, .inl (upd a_out_f a_n.toNatClampNeg (vp_nar .byte b.toInt8.toInt32))))] := ⟨hP, hD⟩
      refine lv_aload_n hx hb d_MoPaper_put_34 rfl (lv_at hl 0 rfl) ?_
      refine lv_dup hx hb d_MoPaper_put_35 rfl ?_
      refine va_get (D := g) (ci := 13) (v := .int a_n) (C := R_MoPaper) (T := F_MoPaper) (N := 7) hx hb hg ul_MoPaper hown hK hP 0 rfl rfl 4 (by decide) (hg _ wd_736) (fun _ h9 => h9) rfl d_MoPaper_put_36 ?_
      refine lv_iconst (v := 1) hx hb d_MoPaper_put_39 (by decide) ?_
      refine lv_iadd hx hb d_MoPaper_put_40 ?_
      refine va_put (D := g) (ci := 13) (v := .int (a_n + 1)) (ty := .int) (C := R_MoPaper) (T := F_MoPaper) (N := 7) hx hb hg ul_MoPaper t_MoPaper tk_MoPaper n_MoPaper hown hK hP hD hS 0 rfl rfl 4 (by decide) (hg _ wd_736) (fun _ h9 => h9) rfl (by decide +kernel) rfl rfl (Nat.le_of_ble_eq_true rfl) d_MoPaper_put_41 (fun H locs hP hD hS => ?_)
      obtain ⟨hP, hD⟩ : PD g A H [(a, .inr (13, [.ref a_out, .ref a_walk, .ref a_next, .ref a_seen, .int (a_n + 1), .int a_over, .int a_order])), (a_out, .inl (cs 1, a_out_n, .inl (upd a_out_f a_n.toNatClampNeg (vp_nar .byte b.toInt8.toInt32))))] := ⟨hP, hD⟩
      have hq := Option.some.inj hok
      obtain ⟨hq0, hq⟩ := Prod.mk.inj hq
      obtain ⟨hq1, hq⟩ := Prod.mk.inj hq
      have hq2 := hq
      subst hq0
      subst hq1
      subst hq2
      obtain ⟨hP9, hD9⟩ := sub2 (ws' := [(a, .inr (13, [.ref a_out, .ref a_walk, .ref a_next, .ref a_seen, .int (a_n + 1), .int a_over, .int a_order])), (a_out, .inl (cs 1, a_out_n, .inl (upd a_out_f a_n.toNatClampNeg (vp_nar .byte b.toInt8.toInt32))))]) hP hD [0, 1] rfl (by decide) rfl
      rw [hQ]
      exact W.vret hx hb hr (fun t ht hW => ⟨⟨(), rfl, trivial, by rw [ht]; exact hP9, hD9⟩, hS.F ht⟩) hS.2.2 d_MoPaper_put_44
    · rw [if_neg h2] at hok
      have hq := Option.some.inj hok
      obtain ⟨hq0, hq⟩ := Prod.mk.inj hq
      obtain ⟨hq1, hq⟩ := Prod.mk.inj hq
      have hq2 := hq
      subst hq0
      subst hq1
      subst hq2
      obtain ⟨hP9, hD9⟩ := sub2 (ws' := [(a, .inr (13, [.ref a_out, .ref a_walk, .ref a_next, .ref a_seen, .int a_n, .int a_over, .int a_order])), (a_out, .inl (cs 1, a_out_n, .inl a_out_f))]) hP hD [0, 1] rfl (by decide) rfl
      rw [hQ]
      exact W.vret hx hb hr (fun t ht hW => ⟨⟨(), rfl, trivial, by rw [ht]; exact hP9, hD9⟩, hS.F ht⟩) hS.2.2 d_MoPaper_put_22
  · rw [if_pos h1] at hok
    refine lv_aload_n hx hb d_MoPaper_put_10 rfl (lv_at hl 0 rfl) ?_
    refine lv_iconst (v := 1) hx hb d_MoPaper_put_11 (by decide) ?_
    refine va_put (D := g) (ci := 13) (v := .int 1) (ty := .boolean) (C := R_MoPaper) (T := F_MoPaper) (N := 7) hx hb hg ul_MoPaper t_MoPaper tk_MoPaper n_MoPaper hown hK hP hD hS 0 rfl rfl 5 (by decide) (hg _ wd_737) (fun _ h9 => h9) rfl (by decide +kernel) rfl rfl (Nat.le_of_ble_eq_true rfl) d_MoPaper_put_12 (fun H locs hP hD hS => ?_)
    obtain ⟨hP, hD⟩ : PD g A H [(a, .inr (13, [.ref a_out, .ref a_walk, .ref a_next, .ref a_seen, .int a_n, .int 1, .int a_order])), (a_out, .inl (cs 1, a_out_n, .inl a_out_f))] := ⟨hP, hD⟩
    refine lv_aload_n hx hb d_MoPaper_put_15 rfl (lv_at hl 0 rfl) ?_
    refine va_get (D := g) (ci := 13) (v := .int 1) (C := R_MoPaper) (T := F_MoPaper) (N := 7) hx hb hg ul_MoPaper hown hK hP 0 rfl rfl 5 (by decide) (hg _ wd_737) (fun _ h9 => h9) rfl d_MoPaper_put_16 ?_
    refine lv_if_eq hx hb d_MoPaper_put_19 rfl (fun h4 => ?_) (fun h4 => ?_)
    · exact absurd h4 (by decide)
    · have hq := Option.some.inj hok
      obtain ⟨hq0, hq⟩ := Prod.mk.inj hq
      obtain ⟨hq1, hq⟩ := Prod.mk.inj hq
      have hq2 := hq
      subst hq0
      subst hq1
      subst hq2
      obtain ⟨hP9, hD9⟩ := sub2 (ws' := [(a, .inr (13, [.ref a_out, .ref a_walk, .ref a_next, .ref a_seen, .int a_n, .int 1, .int a_order])), (a_out, .inl (cs 1, a_out_n, .inl a_out_f))]) hP hD [0, 1] rfl (by decide) rfl
      rw [hQ]
      exact W.vret hx hb hr (fun t ht hW => ⟨⟨(), rfl, trivial, by rw [ht]; exact hP9, hD9⟩, hS.F ht⟩) hS.2.2 d_MoPaper_put_22

theorem d_MoPaper_number_0 : decode b_MoPaper_number 0 = .ok (.lload_n 1, 1) := by decide +kernel
theorem d_MoPaper_number_1 : decode b_MoPaper_number 1 = .ok (.lconst 0, 1) := by decide +kernel
theorem d_MoPaper_number_2 : decode b_MoPaper_number 2 = .ok (.lcmp, 1) := by decide +kernel
theorem d_MoPaper_number_3 : decode b_MoPaper_number 3 = .ok (.ifCond .ge 9, 3) := by decide +kernel
theorem d_MoPaper_number_6 : decode b_MoPaper_number 6 = .ok (.aload_n 0, 1) := by decide +kernel
theorem d_MoPaper_number_7 : decode b_MoPaper_number 7 = .ok (.bipush 45, 2) := by decide +kernel
theorem d_MoPaper_number_9 : decode b_MoPaper_number 9 = .ok (.invokevirtual 33, 3) := by decide +kernel
theorem d_MoPaper_number_12 : decode b_MoPaper_number 12 = .ok (.lload_n 1, 1) := by decide +kernel
theorem d_MoPaper_number_13 : decode b_MoPaper_number 13 = .ok (.lconst 0, 1) := by decide +kernel
theorem d_MoPaper_number_14 : decode b_MoPaper_number 14 = .ok (.lcmp, 1) := by decide +kernel
theorem d_MoPaper_number_15 : decode b_MoPaper_number 15 = .ok (.ifCond .ge 8, 3) := by decide +kernel
theorem d_MoPaper_number_18 : decode b_MoPaper_number 18 = .ok (.lload_n 1, 1) := by decide +kernel
theorem d_MoPaper_number_19 : decode b_MoPaper_number 19 = .ok (.lneg, 1) := by decide +kernel
theorem d_MoPaper_number_20 : decode b_MoPaper_number 20 = .ok (.goto 4, 3) := by decide +kernel
theorem d_MoPaper_number_23 : decode b_MoPaper_number 23 = .ok (.lload_n 1, 1) := by decide +kernel
theorem d_MoPaper_number_24 : decode b_MoPaper_number 24 = .ok (.lstore_n 3, 1) := by decide +kernel
theorem d_MoPaper_number_25 : decode b_MoPaper_number 25 = .ok (.lconst 1, 1) := by decide +kernel
theorem d_MoPaper_number_26 : decode b_MoPaper_number 26 = .ok (.lstore 5, 2) := by decide +kernel
theorem d_MoPaper_number_28 : decode b_MoPaper_number 28 = .ok (.lload_n 3, 1) := by decide +kernel
theorem d_MoPaper_number_29 : decode b_MoPaper_number 29 = .ok (.lload 5, 2) := by decide +kernel
theorem d_MoPaper_number_31 : decode b_MoPaper_number 31 = .ok (.ldiv, 1) := by decide +kernel
theorem d_MoPaper_number_32 : decode b_MoPaper_number 32 = .ok (.ldc2_w 37, 3) := by decide +kernel
theorem d_MoPaper_number_35 : decode b_MoPaper_number 35 = .ok (.lcmp, 1) := by decide +kernel
theorem d_MoPaper_number_36 : decode b_MoPaper_number 36 = .ok (.ifCond .le 14, 3) := by decide +kernel
theorem d_MoPaper_number_39 : decode b_MoPaper_number 39 = .ok (.lload 5, 2) := by decide +kernel
theorem d_MoPaper_number_41 : decode b_MoPaper_number 41 = .ok (.ldc2_w 39, 3) := by decide +kernel
theorem d_MoPaper_number_44 : decode b_MoPaper_number 44 = .ok (.lmul, 1) := by decide +kernel
theorem d_MoPaper_number_45 : decode b_MoPaper_number 45 = .ok (.lstore 5, 2) := by decide +kernel
theorem d_MoPaper_number_47 : decode b_MoPaper_number 47 = .ok (.goto (-19), 3) := by decide +kernel
theorem d_MoPaper_number_50 : decode b_MoPaper_number 50 = .ok (.lload 5, 2) := by decide +kernel
theorem d_MoPaper_number_52 : decode b_MoPaper_number 52 = .ok (.lconst 0, 1) := by decide +kernel
theorem d_MoPaper_number_53 : decode b_MoPaper_number 53 = .ok (.lcmp, 1) := by decide +kernel
theorem d_MoPaper_number_54 : decode b_MoPaper_number 54 = .ok (.ifCond .le 31, 3) := by decide +kernel
theorem d_MoPaper_number_57 : decode b_MoPaper_number 57 = .ok (.aload_n 0, 1) := by decide +kernel
theorem d_MoPaper_number_58 : decode b_MoPaper_number 58 = .ok (.ldc2_w 41, 3) := by decide +kernel
theorem d_MoPaper_number_61 : decode b_MoPaper_number 61 = .ok (.lload_n 3, 1) := by decide +kernel
theorem d_MoPaper_number_62 : decode b_MoPaper_number 62 = .ok (.lload 5, 2) := by decide +kernel
theorem d_MoPaper_number_64 : decode b_MoPaper_number 64 = .ok (.ldiv, 1) := by decide +kernel
theorem d_MoPaper_number_65 : decode b_MoPaper_number 65 = .ok (.ldc2_w 39, 3) := by decide +kernel
theorem d_MoPaper_number_68 : decode b_MoPaper_number 68 = .ok (.lrem, 1) := by decide +kernel
theorem d_MoPaper_number_69 : decode b_MoPaper_number 69 = .ok (.ladd, 1) := by decide +kernel
theorem d_MoPaper_number_70 : decode b_MoPaper_number 70 = .ok (.l2i, 1) := by decide +kernel
theorem d_MoPaper_number_71 : decode b_MoPaper_number 71 = .ok (.invokevirtual 33, 3) := by decide +kernel
theorem d_MoPaper_number_74 : decode b_MoPaper_number 74 = .ok (.lload 5, 2) := by decide +kernel
theorem d_MoPaper_number_76 : decode b_MoPaper_number 76 = .ok (.ldc2_w 39, 3) := by decide +kernel
theorem d_MoPaper_number_79 : decode b_MoPaper_number 79 = .ok (.ldiv, 1) := by decide +kernel
theorem d_MoPaper_number_80 : decode b_MoPaper_number 80 = .ok (.lstore 5, 2) := by decide +kernel
theorem d_MoPaper_number_82 : decode b_MoPaper_number 82 = .ok (.goto (-32), 3) := by decide +kernel
theorem d_MoPaper_number_85 : decode b_MoPaper_number 85 = .ok (.return_, 1) := by decide +kernel
def p_MoPaper_number_50 (n : Nat) (v : Int64) (a_order : Int32) (a_out_n : Nat) (kf6 : Nat) (x5_6 : Int64) (a_n_6 : Int32) (a_over_6 : Int32) (a_out_6f : Nat → Int32) : Option (Int32 × Int32 × (Nat → Int32)) := match kf6 with
  | 0 => none
  | kf6 + 1 => if (lg_cmp x5_6 0) ≤ 0 then (some (a_n_6, a_over_6, a_out_6f)) else (ck (decide (¬ x5_6 = 0)) ((p_MoPaper_put ((48 + ((v / x5_6) - (v / x5_6) / 10 * 10)).toInt32) a_n_6 a_over_6 a_order a_out_n a_out_6f).bind (fun (a_n_9, a_over_9, a_out_f_9) => p_MoPaper_number_50 n v a_order a_out_n kf6 (x5_6 / 10) a_n_9 a_over_9 a_out_f_9)))
def p_MoPaper_number_28 (n : Nat) (v : Int64) (a_n : Int32) (a_over : Int32) (a_order : Int32) (a_out_n : Nat) (a_out_f : Nat → Int32) (kf3 : Nat) (x5_3 : Int64) : Option (Int32 × Int32 × (Nat → Int32)) := match kf3 with
  | 0 => none
  | kf3 + 1 => ck (decide (¬ x5_3 = 0)) (if (lg_cmp (v / x5_3) 9) ≤ 0 then (p_MoPaper_number_50 n v a_order a_out_n n x5_3 a_n a_over a_out_f) else (p_MoPaper_number_28 n v a_n a_over a_order a_out_n a_out_f kf3 (x5_3 * 10)))
def p_MoPaper_number_50_13 (n : Nat) (v : Int64) (a_order : Int32) (a_out_n : Nat) (kf13 : Nat) (x5_13 : Int64) (a_n_13 : Int32) (a_over_13 : Int32) (a_out_13f : Nat → Int32) : Option (Int32 × Int32 × (Nat → Int32)) := match kf13 with
  | 0 => none
  | kf13 + 1 => if (lg_cmp x5_13 0) ≤ 0 then (some (a_n_13, a_over_13, a_out_13f)) else (ck (decide (¬ x5_13 = 0)) ((p_MoPaper_put ((48 + (((-v) / x5_13) - ((-v) / x5_13) / 10 * 10)).toInt32) a_n_13 a_over_13 a_order a_out_n a_out_13f).bind (fun (a_n_16, a_over_16, a_out_f_16) => p_MoPaper_number_50_13 n v a_order a_out_n kf13 (x5_13 / 10) a_n_16 a_over_16 a_out_f_16)))
def p_MoPaper_number_28_10 (n : Nat) (v : Int64) (a_n : Int32) (a_over : Int32) (a_order : Int32) (a_out_n : Nat) (a_out_f : Nat → Int32) (kf10 : Nat) (x5_10 : Int64) : Option (Int32 × Int32 × (Nat → Int32)) := match kf10 with
  | 0 => none
  | kf10 + 1 => ck (decide (¬ x5_10 = 0)) (if (lg_cmp ((-v) / x5_10) 9) ≤ 0 then (p_MoPaper_number_50_13 n v a_order a_out_n n x5_10 a_n a_over a_out_f) else (p_MoPaper_number_28_10 n v a_n a_over a_order a_out_n a_out_f kf10 (x5_10 * 10)))
def p_MoPaper_number_50_22 (n : Nat) (v : Int64) (a_order : Int32) (a_out_n : Nat) (kf22 : Nat) (x5_22 : Int64) (a_n_22 : Int32) (a_over_22 : Int32) (a_out_22f : Nat → Int32) : Option (Int32 × Int32 × (Nat → Int32)) := match kf22 with
  | 0 => none
  | kf22 + 1 => if (lg_cmp x5_22 0) ≤ 0 then (some (a_n_22, a_over_22, a_out_22f)) else (ck (decide (¬ x5_22 = 0)) ((p_MoPaper_put ((48 + ((v / x5_22) - (v / x5_22) / 10 * 10)).toInt32) a_n_22 a_over_22 a_order a_out_n a_out_22f).bind (fun (a_n_25, a_over_25, a_out_f_25) => p_MoPaper_number_50_22 n v a_order a_out_n kf22 (x5_22 / 10) a_n_25 a_over_25 a_out_f_25)))
def p_MoPaper_number_28_19 (n : Nat) (v : Int64) (a_order : Int32) (a_out_n : Nat) (a_n_17 : Int32) (a_over_17 : Int32) (a_out_f_17 : Nat → Int32) (kf19 : Nat) (x5_19 : Int64) : Option (Int32 × Int32 × (Nat → Int32)) := match kf19 with
  | 0 => none
  | kf19 + 1 => ck (decide (¬ x5_19 = 0)) (if (lg_cmp (v / x5_19) 9) ≤ 0 then (p_MoPaper_number_50_22 n v a_order a_out_n n x5_19 a_n_17 a_over_17 a_out_f_17) else (p_MoPaper_number_28_19 n v a_order a_out_n a_n_17 a_over_17 a_out_f_17 kf19 (x5_19 * 10)))
def p_MoPaper_number_50_29 (n : Nat) (v : Int64) (a_order : Int32) (a_out_n : Nat) (kf29 : Nat) (x5_29 : Int64) (a_n_29 : Int32) (a_over_29 : Int32) (a_out_29f : Nat → Int32) : Option (Int32 × Int32 × (Nat → Int32)) := match kf29 with
  | 0 => none
  | kf29 + 1 => if (lg_cmp x5_29 0) ≤ 0 then (some (a_n_29, a_over_29, a_out_29f)) else (ck (decide (¬ x5_29 = 0)) ((p_MoPaper_put ((48 + (((-v) / x5_29) - ((-v) / x5_29) / 10 * 10)).toInt32) a_n_29 a_over_29 a_order a_out_n a_out_29f).bind (fun (a_n_32, a_over_32, a_out_f_32) => p_MoPaper_number_50_29 n v a_order a_out_n kf29 (x5_29 / 10) a_n_32 a_over_32 a_out_f_32)))
def p_MoPaper_number_28_26 (n : Nat) (v : Int64) (a_order : Int32) (a_out_n : Nat) (a_n_17 : Int32) (a_over_17 : Int32) (a_out_f_17 : Nat → Int32) (kf26 : Nat) (x5_26 : Int64) : Option (Int32 × Int32 × (Nat → Int32)) := match kf26 with
  | 0 => none
  | kf26 + 1 => ck (decide (¬ x5_26 = 0)) (if (lg_cmp ((-v) / x5_26) 9) ≤ 0 then (p_MoPaper_number_50_29 n v a_order a_out_n n x5_26 a_n_17 a_over_17 a_out_f_17) else (p_MoPaper_number_28_26 n v a_order a_out_n a_n_17 a_over_17 a_out_f_17 kf26 (x5_26 * 10)))
def p_MoPaper_number (n : Nat) (v : Int64) (a_n : Int32) (a_over : Int32) (a_order : Int32) (a_out_n : Nat) (a_out_f : Nat → Int32) : Option (Int32 × Int32 × (Nat → Int32)) := if 0 ≤ (lg_cmp v 0) then (if 0 ≤ (lg_cmp v 0) then (p_MoPaper_number_28 n v a_n a_over a_order a_out_n a_out_f n (1 : Int64)) else (p_MoPaper_number_28_10 n v a_n a_over a_order a_out_n a_out_f n (1 : Int64))) else ((p_MoPaper_put (45 : Int32) a_n a_over a_order a_out_n a_out_f).bind (fun (a_n_17, a_over_17, a_out_f_17) => if 0 ≤ (lg_cmp v 0) then (p_MoPaper_number_28_19 n v a_order a_out_n a_n_17 a_over_17 a_out_f_17 n (1 : Int64)) else (p_MoPaper_number_28_26 n v a_order a_out_n a_n_17 a_over_17 a_out_f_17 n (1 : Int64))))
set_option maxHeartbeats 40000000 in
set_option maxRecDepth 100000 in
theorem c_MoPaper_number (l : Launch) (g : va_G) (cs : Nat → ClassId) (ka : Nat → Nat) (a_walk : Nat) (a_next : Nat) (a_seen : Nat) (a a_out : Nat) (sz : Nat) (n : Nat) (v : Int64) (a_n : Int32) (a_over : Int32) (a_order : Int32) (a_out_n : Nat) (a_out_f : Nat → Int32) (o_a_n : Int32) (o_a_over : Int32) (o_a_out_f : Nat → Int32) (hok : p_MoPaper_number n v a_n a_over a_order a_out_n a_out_f = some (o_a_n, o_a_over, o_a_out_f)) : Met l y_MoPaper_number (.code y_MoPaper_number b_MoPaper_number 7 none :: GW) { frames := 1, cells := 0, slots := 0, locals := 21 } (va_Pc [.ref a, .long v] (gP g cs ka [(a, .inr (13, [.ref a_out, .ref a_walk, .ref a_next, .ref a_seen, .int a_n, .int a_over, .int a_order])), (a_out, .inl (cs 1, a_out_n, .inl a_out_f))] sz)) (va_Qv (fun _ : Unit => True) (fun _ t => va_P g classes [(a, .inr (13, [.ref a_out, .ref a_walk, .ref a_next, .ref a_seen, .int o_a_n, .int o_a_over, .int a_order])), (a_out, .inl (cs 1, a_out_n, .inl o_a_out_f))] t.heap ∧ va_D (va_A [(a, .inr (13, [.ref a_out, .ref a_walk, .ref a_next, .ref a_seen, .int a_n, .int a_over, .int a_order])), (a_out, .inl (cs 1, a_out_n, .inl a_out_f))] sz) [(a, .inr (13, [.ref a_out, .ref a_walk, .ref a_next, .ref a_seen, .int o_a_n, .int o_a_over, .int a_order])), (a_out, .inl (cs 1, a_out_n, .inl o_a_out_f))]) (va_A [(a, .inr (13, [.ref a_out, .ref a_walk, .ref a_next, .ref a_seen, .int a_n, .int a_over, .int a_order])), (a_out, .inl (cs 1, a_out_n, .inl a_out_f))] sz)) 0 0 (va_A [(a, .inr (13, [.ref a_out, .ref a_walk, .ref a_next, .ref a_seen, .int a_n, .int a_over, .int a_order])), (a_out, .inl (cs 1, a_out_n, .inl a_out_f))] sz) := by
  refine Met.ofW (cc := b_MoPaper_number) (maxL := 7) (ret := none) (by decide) rfl ?_
  intro p e s m args below meth c s₁ B hml hv
  obtain ⟨rfl, hsz, hP, hK, hD0, hgl, hkn, hkr⟩ := hv
  have hx := B.exec
  have hb := B.bytes
  have hr := B.returns
  have hg : ∀ w ∈ GW, w.before ([.ref a, .long v] : List Value).toArray s = true := fun w hw => atoms_spec (ws := .code y_MoPaper_number b_MoPaper_number 7 none :: GW) B.pre w (List.mem_cons_of_mem _ hw)
  have hown : s.vm.findClass R_MoPaper = some m.cls := findClass_of_methodNamed B.named
  have hlocks := B.notSynchronized
  subst hsz
  have hD := hD0.self (sz := s.heap.size)
  generalize hAe : va_A [(a, .inr (13, [.ref a_out, .ref a_walk, .ref a_next, .ref a_seen, .int a_n, .int a_over, .int a_order])), (a_out, .inl (cs 1, a_out_n, .inl a_out_f))] s.heap.size = A at hD hkn ⊢
  have hA : ∀ q : Nat, s.heap.size ≤ q → A q := fun q h => by rw [← hAe]; exact Or.inr h
  have hS : va_S A s.heap s.heap [] := va_S.rf
  have hP : va_P g classes [(a, .inr (13, [.ref a_out, .ref a_walk, .ref a_next, .ref a_seen, .int a_n, .int a_over, .int a_order])), (a_out, .inl (cs 1, a_out_n, .inl a_out_f))] s.heap := hP
  have hl := lv_entry ([.ref a, .long v]) (n := 7) (Nat.le_of_ble_eq_true rfl)
  rw [lg_entry_eq]
  generalize (lg_sl ([.ref a, .long v]) ++ List.replicate (7 - (lg_sl ([.ref a, .long v])).length) Slot.unset).toArray = ls at hl ⊢
  have hl : lv_has ls 7 [(0, .ref a), (1, .long v)] := hl
  refine gq (fun Q hQ => ?_)
  obtain ⟨H, hH⟩ : ∃ H : Heap, H = s.heap := ⟨_, rfl⟩
  rw [← hH] at hP
  have hS : va_S A s.heap H [] := by rw [hH]; exact hS
  refine W.eqH hH ?_
  obtain ⟨locs, hlc⟩ : ∃ L : List Loc, L = [] := ⟨_, rfl⟩
  rw [← hlc] at hS ⊢
  unfold p_MoPaper_number at hok
  refine lv_lload_n hx hb d_MoPaper_number_0 rfl (lv_at hl 1 rfl) ?_
  refine lv_lconst (v := 0) hx hb d_MoPaper_number_1 (by decide) ?_
  refine W.lcmp hx hb d_MoPaper_number_2 ?_
  refine lv_if_ge hx hb d_MoPaper_number_3 rfl (fun h1 => ?_) (fun h1 => ?_)
  · rw [if_pos h1] at hok
    refine lv_lload_n hx hb d_MoPaper_number_12 rfl (lv_at hl 1 rfl) ?_
    refine lv_lconst (v := 0) hx hb d_MoPaper_number_13 (by decide) ?_
    refine W.lcmp hx hb d_MoPaper_number_14 ?_
    refine lv_if_ge hx hb d_MoPaper_number_15 rfl (fun h2 => ?_) (fun h2 => ?_)
    · rw [if_pos h2] at hok
      refine lv_lload_n hx hb d_MoPaper_number_23 rfl (lv_at hl 1 rfl) ?_
      refine lv_lstore_n hx hb d_MoPaper_number_24 rfl hl (by decide) rfl (fun ls hl => ?_)
      have hl : lv_has ls 7 [(3, .long v), (0, .ref a), (1, .long v)] := hl
      refine lv_lconst (v := 1) hx hb d_MoPaper_number_25 (by decide) ?_
      refine lv_lstore hx hb d_MoPaper_number_26 hl (by decide) rfl (fun ls hl => ?_)
      have hl : lv_has ls 7 [(5, .long 1), (3, .long v), (0, .ref a), (1, .long v)] := hl
      have J3 : ∀ (kf3 : Nat) (H : Heap) (locs : List Loc) (ls : Array Slot) (x5_3 : Int64), lv_has ls 7 [(5, .long x5_3), (3, .long v), (0, .ref a), (1, .long v)] → PD g A H [(a, .inr (13, [.ref a_out, .ref a_walk, .ref a_next, .ref a_seen, .int a_n, .int a_over, .int a_order])), (a_out, .inl (cs 1, a_out_n, .inl a_out_f))] → va_S A s.heap H locs → p_MoPaper_number_28 n v a_n a_over a_order a_out_n a_out_f kf3 x5_3 = some (o_a_n, o_a_over, o_a_out_f) → W p l e (headSpec (.code y_MoPaper_number b_MoPaper_number 7 none :: GW) { frames := 1, cells := 0, slots := 0, locals := 21 }).room s m ([.ref a, .long v] : List Value).toArray below meth c H locs 0 0 Q (F0 m 28 ls []) := by
        intro kf3
        induction kf3 with
        | zero => intro H locs ls x5_3 hl ⟨hP, hD⟩ hS hok; rw [p_MoPaper_number_28] at hok; cases hok
        | succ kf3 ih3 =>
          intro H locs ls x5_3 hl ⟨hP, hD⟩ hS hok
          rw [p_MoPaper_number_28] at hok
          refine lv_lload_n hx hb d_MoPaper_number_28 rfl (lv_at hl 1 rfl) ?_
          refine lv_lload hx hb d_MoPaper_number_29 (lv_at hl 0 rfl) ?_
          obtain ⟨hi4, hok⟩ := ck_some hok
          refine lv_ldiv hx hb d_MoPaper_number_31 (of_decide_eq_true hi4) ?_
          refine lv_ldc2 hx hb hown (hg _ wd_738) d_MoPaper_number_32 ?_
          refine W.lcmp hx hb d_MoPaper_number_35 ?_
          refine lv_if_le hx hb d_MoPaper_number_36 rfl (fun h5 => ?_) (fun h5 => ?_)
          · rw [if_pos h5] at hok
            have J6 : ∀ (kf6 : Nat) (H : Heap) (locs : List Loc) (ls : Array Slot) (x5_6 : Int64) (a_n_6 : Int32) (a_over_6 : Int32) (a_out_6f : Nat → Int32), lv_has ls 7 [(5, .long x5_6), (3, .long v), (0, .ref a), (1, .long v)] → PD g A H [(a, .inr (13, [.ref a_out, .ref a_walk, .ref a_next, .ref a_seen, .int a_n_6, .int a_over_6, .int a_order])), (a_out, .inl (cs 1, a_out_n, .inl a_out_6f))] → va_S A s.heap H locs → p_MoPaper_number_50 n v a_order a_out_n kf6 x5_6 a_n_6 a_over_6 a_out_6f = some (o_a_n, o_a_over, o_a_out_f) → W p l e (headSpec (.code y_MoPaper_number b_MoPaper_number 7 none :: GW) { frames := 1, cells := 0, slots := 0, locals := 21 }).room s m ([.ref a, .long v] : List Value).toArray below meth c H locs 0 0 Q (F0 m 50 ls []) := by
              intro kf6
              induction kf6 with
              | zero => intro H locs ls x5_6 a_n_6 a_over_6 a_out_6f hl ⟨hP, hD⟩ hS hok; rw [p_MoPaper_number_50] at hok; cases hok
              | succ kf6 ih6 =>
                intro H locs ls x5_6 a_n_6 a_over_6 a_out_6f hl ⟨hP, hD⟩ hS hok
                rw [p_MoPaper_number_50] at hok
                refine lv_lload hx hb d_MoPaper_number_50 (lv_at hl 0 rfl) ?_
                refine lv_lconst (v := 0) hx hb d_MoPaper_number_52 (by decide) ?_
                refine W.lcmp hx hb d_MoPaper_number_53 ?_
                refine lv_if_le hx hb d_MoPaper_number_54 rfl (fun h7 => ?_) (fun h7 => ?_)
                · rw [if_pos h7] at hok
                  have hq := Option.some.inj hok
                  obtain ⟨hq0, hq⟩ := Prod.mk.inj hq
                  obtain ⟨hq1, hq⟩ := Prod.mk.inj hq
                  have hq2 := hq
                  subst hq0
                  subst hq1
                  subst hq2
                  obtain ⟨hP9, hD9⟩ := sub2 (ws' := [(a, .inr (13, [.ref a_out, .ref a_walk, .ref a_next, .ref a_seen, .int a_n_6, .int a_over_6, .int a_order])), (a_out, .inl (cs 1, a_out_n, .inl a_out_6f))]) hP hD [0, 1] rfl (by decide) rfl
                  rw [hQ]
                  exact W.vret hx hb hr (fun t ht hW => ⟨⟨(), rfl, trivial, by rw [ht]; exact hP9, hD9⟩, hS.F ht⟩) hS.2.2 d_MoPaper_number_85
                · rw [if_neg h7] at hok
                  refine lv_aload_n hx hb d_MoPaper_number_57 rfl (lv_at hl 2 rfl) ?_
                  refine lv_ldc2 hx hb hown (hg _ wd_739) d_MoPaper_number_58 ?_
                  refine lv_lload_n hx hb d_MoPaper_number_61 rfl (lv_at hl 1 rfl) ?_
                  refine lv_lload hx hb d_MoPaper_number_62 (lv_at hl 0 rfl) ?_
                  obtain ⟨hi8, hok⟩ := ck_some hok
                  refine lv_ldiv hx hb d_MoPaper_number_64 (of_decide_eq_true hi8) ?_
                  refine lv_ldc2 hx hb hown (hg _ wd_740) d_MoPaper_number_65 ?_
                  refine lv_lrem hx hb d_MoPaper_number_68 (by decide) ?_
                  refine lv_ladd hx hb d_MoPaper_number_69 ?_
                  refine lv_l2i hx hb d_MoPaper_number_70 rfl ?_
                  obtain ⟨⟨a_n_9, a_over_9, a_out_f_9⟩, hc9, hok⟩ := bd_some hok
                  dsimp only at hok
                  obtain ⟨hPc, hDc, hFc⟩ := cut0 (wc := [(a, .inr (13, [.ref a_out, .ref a_walk, .ref a_next, .ref a_seen, .int a_n_6, .int a_over_6, .int a_order])), (a_out, .inl (cs 1, a_out_n, .inl a_out_6f))]) hP hD hS hA [0, 1] (by decide) rfl
                  refine va_callv (va_runV (As := [.int ((48 + ((v / x5_6) - (v / x5_6) / 10 * 10)).toInt32)]) (rest := []) ⟨hx, hb, hml, hown, hg⟩ (c_MoPaper_put l g cs ka a_walk a_next a_seen a a_out H.size ((48 + ((v / x5_6) - (v / x5_6) / 10 * 10)).toInt32) a_n_6 a_over_6 a_order a_out_n a_out_6f a_n_9 a_over_9 a_out_f_9 hc9) (cwV (C := R_MoPaper) 1 hg (gw_V wd_743 wd_744 wd_745 wd_742 wd_741) rfl rfl rfl (by decide +kernel) ⟨Nat.le_of_ble_eq_true rfl, Nat.le_of_ble_eq_true rfl⟩) ⟨gP_blind, va_recv (q0 := 0) (ci := 13) (q := (R_MoPaper, F_MoPaper, 7)) hK hP rfl rfl, gP_pre hPc hDc hK hgl hkn hkr hS hFc⟩ rfl rfl hl.1 rfl (lv_room (Nat.le_of_ble_eq_true rfl)) d_MoPaper_number_71 ⟨Nat.le_of_ble_eq_true rfl, Nat.le_of_ble_eq_true rfl⟩) hS (fun q _ h => hFc q h) hFc (fun u t H locs ht hvm hr9 hB hz1 hk1 hS => ?_)
                  rw [ht] at hB
                  obtain ⟨hP1, hD1⟩ := hB
                  obtain ⟨hP, hD⟩ := jn_A hP hD [0, 1] [] rfl rfl (by decide) (by decide) hk1 hFc hP1 hD1
                  obtain ⟨hP, hD⟩ : PD g A H [(a, .inr (13, [.ref a_out, .ref a_walk, .ref a_next, .ref a_seen, .int a_n_9, .int a_over_9, .int a_order])), (a_out, .inl (cs 1, a_out_n, .inl a_out_f_9))] := ⟨hP, hD⟩
                  refine lv_lload hx hb d_MoPaper_number_74 (lv_at hl 0 rfl) ?_
                  refine lv_ldc2 hx hb hown (hg _ wd_740) d_MoPaper_number_76 ?_
                  refine lv_ldiv hx hb d_MoPaper_number_79 (by decide) ?_
                  refine lv_lstore hx hb d_MoPaper_number_80 hl (by decide) rfl (fun ls hl => ?_)
                  have hl : lv_has ls 7 [(5, .long (x5_6 / 10)), (3, .long v), (0, .ref a), (1, .long v)] := hl
                  refine lv_goto hx hb d_MoPaper_number_82 rfl ?_
                  exact ih6 _ _ _ (x5_6 / 10) a_n_9 a_over_9 a_out_f_9 (lv_sub hl [0, 1, 2, 3] rfl) (sub3 hP hD [0, 1] (by decide)) hS hok
            exact J6 n H locs ls x5_3 a_n a_over a_out_f hl ⟨hP, hD⟩ hS hok
          · rw [if_neg h5] at hok
            refine lv_lload hx hb d_MoPaper_number_39 (lv_at hl 0 rfl) ?_
            refine lv_ldc2 hx hb hown (hg _ wd_740) d_MoPaper_number_41 ?_
            refine lv_lmul hx hb d_MoPaper_number_44 ?_
            refine lv_lstore hx hb d_MoPaper_number_45 hl (by decide) rfl (fun ls hl => ?_)
            have hl : lv_has ls 7 [(5, .long (x5_3 * 10)), (3, .long v), (0, .ref a), (1, .long v)] := hl
            refine lv_goto hx hb d_MoPaper_number_47 rfl ?_
            exact ih3 _ _ _ (x5_3 * 10) (lv_sub hl [0, 1, 2, 3] rfl) (sub3 hP hD [0, 1] (by decide)) hS hok
      exact J3 n H locs ls (1 : Int64) hl ⟨hP, hD⟩ hS hok
    · rw [if_neg h2] at hok
      refine lv_lload_n hx hb d_MoPaper_number_18 rfl (lv_at hl 1 rfl) ?_
      refine lv_lneg hx hb d_MoPaper_number_19 ?_
      refine lv_goto hx hb d_MoPaper_number_20 rfl ?_
      refine lv_lstore_n hx hb d_MoPaper_number_24 rfl hl (by decide) rfl (fun ls hl => ?_)
      have hl : lv_has ls 7 [(3, .long (-v)), (0, .ref a), (1, .long v)] := hl
      refine lv_lconst (v := 1) hx hb d_MoPaper_number_25 (by decide) ?_
      refine lv_lstore hx hb d_MoPaper_number_26 hl (by decide) rfl (fun ls hl => ?_)
      have hl : lv_has ls 7 [(5, .long 1), (3, .long (-v)), (0, .ref a), (1, .long v)] := hl
      have J10 : ∀ (kf10 : Nat) (H : Heap) (locs : List Loc) (ls : Array Slot) (x5_10 : Int64), lv_has ls 7 [(5, .long x5_10), (3, .long (-v)), (0, .ref a), (1, .long v)] → PD g A H [(a, .inr (13, [.ref a_out, .ref a_walk, .ref a_next, .ref a_seen, .int a_n, .int a_over, .int a_order])), (a_out, .inl (cs 1, a_out_n, .inl a_out_f))] → va_S A s.heap H locs → p_MoPaper_number_28_10 n v a_n a_over a_order a_out_n a_out_f kf10 x5_10 = some (o_a_n, o_a_over, o_a_out_f) → W p l e (headSpec (.code y_MoPaper_number b_MoPaper_number 7 none :: GW) { frames := 1, cells := 0, slots := 0, locals := 21 }).room s m ([.ref a, .long v] : List Value).toArray below meth c H locs 0 0 Q (F0 m 28 ls []) := by
        intro kf10
        induction kf10 with
        | zero => intro H locs ls x5_10 hl ⟨hP, hD⟩ hS hok; rw [p_MoPaper_number_28_10] at hok; cases hok
        | succ kf10 ih10 =>
          intro H locs ls x5_10 hl ⟨hP, hD⟩ hS hok
          rw [p_MoPaper_number_28_10] at hok
          refine lv_lload_n hx hb d_MoPaper_number_28 rfl (lv_at hl 1 rfl) ?_
          refine lv_lload hx hb d_MoPaper_number_29 (lv_at hl 0 rfl) ?_
          obtain ⟨hi11, hok⟩ := ck_some hok
          refine lv_ldiv hx hb d_MoPaper_number_31 (of_decide_eq_true hi11) ?_
          refine lv_ldc2 hx hb hown (hg _ wd_738) d_MoPaper_number_32 ?_
          refine W.lcmp hx hb d_MoPaper_number_35 ?_
          refine lv_if_le hx hb d_MoPaper_number_36 rfl (fun h12 => ?_) (fun h12 => ?_)
          · rw [if_pos h12] at hok
            have J13 : ∀ (kf13 : Nat) (H : Heap) (locs : List Loc) (ls : Array Slot) (x5_13 : Int64) (a_n_13 : Int32) (a_over_13 : Int32) (a_out_13f : Nat → Int32), lv_has ls 7 [(5, .long x5_13), (3, .long (-v)), (0, .ref a), (1, .long v)] → PD g A H [(a, .inr (13, [.ref a_out, .ref a_walk, .ref a_next, .ref a_seen, .int a_n_13, .int a_over_13, .int a_order])), (a_out, .inl (cs 1, a_out_n, .inl a_out_13f))] → va_S A s.heap H locs → p_MoPaper_number_50_13 n v a_order a_out_n kf13 x5_13 a_n_13 a_over_13 a_out_13f = some (o_a_n, o_a_over, o_a_out_f) → W p l e (headSpec (.code y_MoPaper_number b_MoPaper_number 7 none :: GW) { frames := 1, cells := 0, slots := 0, locals := 21 }).room s m ([.ref a, .long v] : List Value).toArray below meth c H locs 0 0 Q (F0 m 50 ls []) := by
              intro kf13
              induction kf13 with
              | zero => intro H locs ls x5_13 a_n_13 a_over_13 a_out_13f hl ⟨hP, hD⟩ hS hok; rw [p_MoPaper_number_50_13] at hok; cases hok
              | succ kf13 ih13 =>
                intro H locs ls x5_13 a_n_13 a_over_13 a_out_13f hl ⟨hP, hD⟩ hS hok
                rw [p_MoPaper_number_50_13] at hok
                refine lv_lload hx hb d_MoPaper_number_50 (lv_at hl 0 rfl) ?_
                refine lv_lconst (v := 0) hx hb d_MoPaper_number_52 (by decide) ?_
                refine W.lcmp hx hb d_MoPaper_number_53 ?_
                refine lv_if_le hx hb d_MoPaper_number_54 rfl (fun h14 => ?_) (fun h14 => ?_)
                · rw [if_pos h14] at hok
                  have hq := Option.some.inj hok
                  obtain ⟨hq0, hq⟩ := Prod.mk.inj hq
                  obtain ⟨hq1, hq⟩ := Prod.mk.inj hq
                  have hq2 := hq
                  subst hq0
                  subst hq1
                  subst hq2
                  obtain ⟨hP9, hD9⟩ := sub2 (ws' := [(a, .inr (13, [.ref a_out, .ref a_walk, .ref a_next, .ref a_seen, .int a_n_13, .int a_over_13, .int a_order])), (a_out, .inl (cs 1, a_out_n, .inl a_out_13f))]) hP hD [0, 1] rfl (by decide) rfl
                  rw [hQ]
                  exact W.vret hx hb hr (fun t ht hW => ⟨⟨(), rfl, trivial, by rw [ht]; exact hP9, hD9⟩, hS.F ht⟩) hS.2.2 d_MoPaper_number_85
                · rw [if_neg h14] at hok
                  refine lv_aload_n hx hb d_MoPaper_number_57 rfl (lv_at hl 2 rfl) ?_
                  refine lv_ldc2 hx hb hown (hg _ wd_739) d_MoPaper_number_58 ?_
                  refine lv_lload_n hx hb d_MoPaper_number_61 rfl (lv_at hl 1 rfl) ?_
                  refine lv_lload hx hb d_MoPaper_number_62 (lv_at hl 0 rfl) ?_
                  obtain ⟨hi15, hok⟩ := ck_some hok
                  refine lv_ldiv hx hb d_MoPaper_number_64 (of_decide_eq_true hi15) ?_
                  refine lv_ldc2 hx hb hown (hg _ wd_740) d_MoPaper_number_65 ?_
                  refine lv_lrem hx hb d_MoPaper_number_68 (by decide) ?_
                  refine lv_ladd hx hb d_MoPaper_number_69 ?_
                  refine lv_l2i hx hb d_MoPaper_number_70 rfl ?_
                  obtain ⟨⟨a_n_16, a_over_16, a_out_f_16⟩, hc16, hok⟩ := bd_some hok
                  dsimp only at hok
                  obtain ⟨hPc, hDc, hFc⟩ := cut0 (wc := [(a, .inr (13, [.ref a_out, .ref a_walk, .ref a_next, .ref a_seen, .int a_n_13, .int a_over_13, .int a_order])), (a_out, .inl (cs 1, a_out_n, .inl a_out_13f))]) hP hD hS hA [0, 1] (by decide) rfl
                  refine va_callv (va_runV (As := [.int ((48 + (((-v) / x5_13) - ((-v) / x5_13) / 10 * 10)).toInt32)]) (rest := []) ⟨hx, hb, hml, hown, hg⟩ (c_MoPaper_put l g cs ka a_walk a_next a_seen a a_out H.size ((48 + (((-v) / x5_13) - ((-v) / x5_13) / 10 * 10)).toInt32) a_n_13 a_over_13 a_order a_out_n a_out_13f a_n_16 a_over_16 a_out_f_16 hc16) (cwV (C := R_MoPaper) 1 hg (gw_V wd_743 wd_744 wd_745 wd_742 wd_741) rfl rfl rfl (by decide +kernel) ⟨Nat.le_of_ble_eq_true rfl, Nat.le_of_ble_eq_true rfl⟩) ⟨gP_blind, va_recv (q0 := 0) (ci := 13) (q := (R_MoPaper, F_MoPaper, 7)) hK hP rfl rfl, gP_pre hPc hDc hK hgl hkn hkr hS hFc⟩ rfl rfl hl.1 rfl (lv_room (Nat.le_of_ble_eq_true rfl)) d_MoPaper_number_71 ⟨Nat.le_of_ble_eq_true rfl, Nat.le_of_ble_eq_true rfl⟩) hS (fun q _ h => hFc q h) hFc (fun u t H locs ht hvm hr16 hB hz1 hk1 hS => ?_)
                  rw [ht] at hB
                  obtain ⟨hP1, hD1⟩ := hB
                  obtain ⟨hP, hD⟩ := jn_A hP hD [0, 1] [] rfl rfl (by decide) (by decide) hk1 hFc hP1 hD1
                  obtain ⟨hP, hD⟩ : PD g A H [(a, .inr (13, [.ref a_out, .ref a_walk, .ref a_next, .ref a_seen, .int a_n_16, .int a_over_16, .int a_order])), (a_out, .inl (cs 1, a_out_n, .inl a_out_f_16))] := ⟨hP, hD⟩
                  refine lv_lload hx hb d_MoPaper_number_74 (lv_at hl 0 rfl) ?_
                  refine lv_ldc2 hx hb hown (hg _ wd_740) d_MoPaper_number_76 ?_
                  refine lv_ldiv hx hb d_MoPaper_number_79 (by decide) ?_
                  refine lv_lstore hx hb d_MoPaper_number_80 hl (by decide) rfl (fun ls hl => ?_)
                  have hl : lv_has ls 7 [(5, .long (x5_13 / 10)), (3, .long (-v)), (0, .ref a), (1, .long v)] := hl
                  refine lv_goto hx hb d_MoPaper_number_82 rfl ?_
                  exact ih13 _ _ _ (x5_13 / 10) a_n_16 a_over_16 a_out_f_16 (lv_sub hl [0, 1, 2, 3] rfl) (sub3 hP hD [0, 1] (by decide)) hS hok
            exact J13 n H locs ls x5_10 a_n a_over a_out_f hl ⟨hP, hD⟩ hS hok
          · rw [if_neg h12] at hok
            refine lv_lload hx hb d_MoPaper_number_39 (lv_at hl 0 rfl) ?_
            refine lv_ldc2 hx hb hown (hg _ wd_740) d_MoPaper_number_41 ?_
            refine lv_lmul hx hb d_MoPaper_number_44 ?_
            refine lv_lstore hx hb d_MoPaper_number_45 hl (by decide) rfl (fun ls hl => ?_)
            have hl : lv_has ls 7 [(5, .long (x5_10 * 10)), (3, .long (-v)), (0, .ref a), (1, .long v)] := hl
            refine lv_goto hx hb d_MoPaper_number_47 rfl ?_
            exact ih10 _ _ _ (x5_10 * 10) (lv_sub hl [0, 1, 2, 3] rfl) (sub3 hP hD [0, 1] (by decide)) hS hok
      exact J10 n H locs ls (1 : Int64) hl ⟨hP, hD⟩ hS hok
  · rw [if_neg h1] at hok
    refine lv_aload_n hx hb d_MoPaper_number_6 rfl (lv_at hl 0 rfl) ?_
    refine lv_bipush (v := 45) hx hb d_MoPaper_number_7 (by decide) ?_
    obtain ⟨⟨a_n_17, a_over_17, a_out_f_17⟩, hc17, hok⟩ := bd_some hok
    dsimp only at hok
    obtain ⟨hPc, hDc, hFc⟩ := cut0 (wc := [(a, .inr (13, [.ref a_out, .ref a_walk, .ref a_next, .ref a_seen, .int a_n, .int a_over, .int a_order])), (a_out, .inl (cs 1, a_out_n, .inl a_out_f))]) hP hD hS hA [0, 1] (by decide) rfl
    refine va_callv (va_runV (As := [.int 45]) (rest := []) ⟨hx, hb, hml, hown, hg⟩ (c_MoPaper_put l g cs ka a_walk a_next a_seen a a_out H.size (45 : Int32) a_n a_over a_order a_out_n a_out_f a_n_17 a_over_17 a_out_f_17 hc17) (cwV (C := R_MoPaper) 1 hg (gw_V wd_743 wd_744 wd_745 wd_742 wd_741) rfl rfl rfl (by decide +kernel) ⟨Nat.le_of_ble_eq_true rfl, Nat.le_of_ble_eq_true rfl⟩) ⟨gP_blind, va_recv (q0 := 0) (ci := 13) (q := (R_MoPaper, F_MoPaper, 7)) hK hP rfl rfl, gP_pre hPc hDc hK hgl hkn hkr hS hFc⟩ rfl rfl hl.1 rfl (lv_room (Nat.le_of_ble_eq_true rfl)) d_MoPaper_number_9 ⟨Nat.le_of_ble_eq_true rfl, Nat.le_of_ble_eq_true rfl⟩) hS (fun q _ h => hFc q h) hFc (fun u t H locs ht hvm hr17 hB hz1 hk1 hS => ?_)
    rw [ht] at hB
    obtain ⟨hP1, hD1⟩ := hB
    obtain ⟨hP, hD⟩ := jn_A hP hD [0, 1] [] rfl rfl (by decide) (by decide) hk1 hFc hP1 hD1
    obtain ⟨hP, hD⟩ : PD g A H [(a, .inr (13, [.ref a_out, .ref a_walk, .ref a_next, .ref a_seen, .int a_n_17, .int a_over_17, .int a_order])), (a_out, .inl (cs 1, a_out_n, .inl a_out_f_17))] := ⟨hP, hD⟩
    refine lv_lload_n hx hb d_MoPaper_number_12 rfl (lv_at hl 1 rfl) ?_
    refine lv_lconst (v := 0) hx hb d_MoPaper_number_13 (by decide) ?_
    refine W.lcmp hx hb d_MoPaper_number_14 ?_
    refine lv_if_ge hx hb d_MoPaper_number_15 rfl (fun h18 => ?_) (fun h18 => ?_)
    · rw [if_pos h18] at hok
      refine lv_lload_n hx hb d_MoPaper_number_23 rfl (lv_at hl 1 rfl) ?_
      refine lv_lstore_n hx hb d_MoPaper_number_24 rfl hl (by decide) rfl (fun ls hl => ?_)
      have hl : lv_has ls 7 [(3, .long v), (0, .ref a), (1, .long v)] := hl
      refine lv_lconst (v := 1) hx hb d_MoPaper_number_25 (by decide) ?_
      refine lv_lstore hx hb d_MoPaper_number_26 hl (by decide) rfl (fun ls hl => ?_)
      have hl : lv_has ls 7 [(5, .long 1), (3, .long v), (0, .ref a), (1, .long v)] := hl
      have J19 : ∀ (kf19 : Nat) (H : Heap) (locs : List Loc) (ls : Array Slot) (x5_19 : Int64), lv_has ls 7 [(5, .long x5_19), (3, .long v), (0, .ref a), (1, .long v)] → PD g A H [(a, .inr (13, [.ref a_out, .ref a_walk, .ref a_next, .ref a_seen, .int a_n_17, .int a_over_17, .int a_order])), (a_out, .inl (cs 1, a_out_n, .inl a_out_f_17))] → va_S A s.heap H locs → p_MoPaper_number_28_19 n v a_order a_out_n a_n_17 a_over_17 a_out_f_17 kf19 x5_19 = some (o_a_n, o_a_over, o_a_out_f) → W p l e (headSpec (.code y_MoPaper_number b_MoPaper_number 7 none :: GW) { frames := 1, cells := 0, slots := 0, locals := 21 }).room s m ([.ref a, .long v] : List Value).toArray below meth c H locs 0 0 Q (F0 m 28 ls []) := by
        intro kf19
        induction kf19 with
        | zero => intro H locs ls x5_19 hl ⟨hP, hD⟩ hS hok; rw [p_MoPaper_number_28_19] at hok; cases hok
        | succ kf19 ih19 =>
          intro H locs ls x5_19 hl ⟨hP, hD⟩ hS hok
          rw [p_MoPaper_number_28_19] at hok
          refine lv_lload_n hx hb d_MoPaper_number_28 rfl (lv_at hl 1 rfl) ?_
          refine lv_lload hx hb d_MoPaper_number_29 (lv_at hl 0 rfl) ?_
          obtain ⟨hi20, hok⟩ := ck_some hok
          refine lv_ldiv hx hb d_MoPaper_number_31 (of_decide_eq_true hi20) ?_
          refine lv_ldc2 hx hb hown (hg _ wd_738) d_MoPaper_number_32 ?_
          refine W.lcmp hx hb d_MoPaper_number_35 ?_
          refine lv_if_le hx hb d_MoPaper_number_36 rfl (fun h21 => ?_) (fun h21 => ?_)
          · rw [if_pos h21] at hok
            have J22 : ∀ (kf22 : Nat) (H : Heap) (locs : List Loc) (ls : Array Slot) (x5_22 : Int64) (a_n_22 : Int32) (a_over_22 : Int32) (a_out_22f : Nat → Int32), lv_has ls 7 [(5, .long x5_22), (3, .long v), (0, .ref a), (1, .long v)] → PD g A H [(a, .inr (13, [.ref a_out, .ref a_walk, .ref a_next, .ref a_seen, .int a_n_22, .int a_over_22, .int a_order])), (a_out, .inl (cs 1, a_out_n, .inl a_out_22f))] → va_S A s.heap H locs → p_MoPaper_number_50_22 n v a_order a_out_n kf22 x5_22 a_n_22 a_over_22 a_out_22f = some (o_a_n, o_a_over, o_a_out_f) → W p l e (headSpec (.code y_MoPaper_number b_MoPaper_number 7 none :: GW) { frames := 1, cells := 0, slots := 0, locals := 21 }).room s m ([.ref a, .long v] : List Value).toArray below meth c H locs 0 0 Q (F0 m 50 ls []) := by
              intro kf22
              induction kf22 with
              | zero => intro H locs ls x5_22 a_n_22 a_over_22 a_out_22f hl ⟨hP, hD⟩ hS hok; rw [p_MoPaper_number_50_22] at hok; cases hok
              | succ kf22 ih22 =>
                intro H locs ls x5_22 a_n_22 a_over_22 a_out_22f hl ⟨hP, hD⟩ hS hok
                rw [p_MoPaper_number_50_22] at hok
                refine lv_lload hx hb d_MoPaper_number_50 (lv_at hl 0 rfl) ?_
                refine lv_lconst (v := 0) hx hb d_MoPaper_number_52 (by decide) ?_
                refine W.lcmp hx hb d_MoPaper_number_53 ?_
                refine lv_if_le hx hb d_MoPaper_number_54 rfl (fun h23 => ?_) (fun h23 => ?_)
                · rw [if_pos h23] at hok
                  have hq := Option.some.inj hok
                  obtain ⟨hq0, hq⟩ := Prod.mk.inj hq
                  obtain ⟨hq1, hq⟩ := Prod.mk.inj hq
                  have hq2 := hq
                  subst hq0
                  subst hq1
                  subst hq2
                  obtain ⟨hP9, hD9⟩ := sub2 (ws' := [(a, .inr (13, [.ref a_out, .ref a_walk, .ref a_next, .ref a_seen, .int a_n_22, .int a_over_22, .int a_order])), (a_out, .inl (cs 1, a_out_n, .inl a_out_22f))]) hP hD [0, 1] rfl (by decide) rfl
                  rw [hQ]
                  exact W.vret hx hb hr (fun t ht hW => ⟨⟨(), rfl, trivial, by rw [ht]; exact hP9, hD9⟩, hS.F ht⟩) hS.2.2 d_MoPaper_number_85
                · rw [if_neg h23] at hok
                  refine lv_aload_n hx hb d_MoPaper_number_57 rfl (lv_at hl 2 rfl) ?_
                  refine lv_ldc2 hx hb hown (hg _ wd_739) d_MoPaper_number_58 ?_
                  refine lv_lload_n hx hb d_MoPaper_number_61 rfl (lv_at hl 1 rfl) ?_
                  refine lv_lload hx hb d_MoPaper_number_62 (lv_at hl 0 rfl) ?_
                  obtain ⟨hi24, hok⟩ := ck_some hok
                  refine lv_ldiv hx hb d_MoPaper_number_64 (of_decide_eq_true hi24) ?_
                  refine lv_ldc2 hx hb hown (hg _ wd_740) d_MoPaper_number_65 ?_
                  refine lv_lrem hx hb d_MoPaper_number_68 (by decide) ?_
                  refine lv_ladd hx hb d_MoPaper_number_69 ?_
                  refine lv_l2i hx hb d_MoPaper_number_70 rfl ?_
                  obtain ⟨⟨a_n_25, a_over_25, a_out_f_25⟩, hc25, hok⟩ := bd_some hok
                  dsimp only at hok
                  obtain ⟨hPc, hDc, hFc⟩ := cut0 (wc := [(a, .inr (13, [.ref a_out, .ref a_walk, .ref a_next, .ref a_seen, .int a_n_22, .int a_over_22, .int a_order])), (a_out, .inl (cs 1, a_out_n, .inl a_out_22f))]) hP hD hS hA [0, 1] (by decide) rfl
                  refine va_callv (va_runV (As := [.int ((48 + ((v / x5_22) - (v / x5_22) / 10 * 10)).toInt32)]) (rest := []) ⟨hx, hb, hml, hown, hg⟩ (c_MoPaper_put l g cs ka a_walk a_next a_seen a a_out H.size ((48 + ((v / x5_22) - (v / x5_22) / 10 * 10)).toInt32) a_n_22 a_over_22 a_order a_out_n a_out_22f a_n_25 a_over_25 a_out_f_25 hc25) (cwV (C := R_MoPaper) 1 hg (gw_V wd_743 wd_744 wd_745 wd_742 wd_741) rfl rfl rfl (by decide +kernel) ⟨Nat.le_of_ble_eq_true rfl, Nat.le_of_ble_eq_true rfl⟩) ⟨gP_blind, va_recv (q0 := 0) (ci := 13) (q := (R_MoPaper, F_MoPaper, 7)) hK hP rfl rfl, gP_pre hPc hDc hK hgl hkn hkr hS hFc⟩ rfl rfl hl.1 rfl (lv_room (Nat.le_of_ble_eq_true rfl)) d_MoPaper_number_71 ⟨Nat.le_of_ble_eq_true rfl, Nat.le_of_ble_eq_true rfl⟩) hS (fun q _ h => hFc q h) hFc (fun u t H locs ht hvm hr25 hB hz1 hk1 hS => ?_)
                  rw [ht] at hB
                  obtain ⟨hP1, hD1⟩ := hB
                  obtain ⟨hP, hD⟩ := jn_A hP hD [0, 1] [] rfl rfl (by decide) (by decide) hk1 hFc hP1 hD1
                  obtain ⟨hP, hD⟩ : PD g A H [(a, .inr (13, [.ref a_out, .ref a_walk, .ref a_next, .ref a_seen, .int a_n_25, .int a_over_25, .int a_order])), (a_out, .inl (cs 1, a_out_n, .inl a_out_f_25))] := ⟨hP, hD⟩
                  refine lv_lload hx hb d_MoPaper_number_74 (lv_at hl 0 rfl) ?_
                  refine lv_ldc2 hx hb hown (hg _ wd_740) d_MoPaper_number_76 ?_
                  refine lv_ldiv hx hb d_MoPaper_number_79 (by decide) ?_
                  refine lv_lstore hx hb d_MoPaper_number_80 hl (by decide) rfl (fun ls hl => ?_)
                  have hl : lv_has ls 7 [(5, .long (x5_22 / 10)), (3, .long v), (0, .ref a), (1, .long v)] := hl
                  refine lv_goto hx hb d_MoPaper_number_82 rfl ?_
                  exact ih22 _ _ _ (x5_22 / 10) a_n_25 a_over_25 a_out_f_25 (lv_sub hl [0, 1, 2, 3] rfl) (sub3 hP hD [0, 1] (by decide)) hS hok
            exact J22 n H locs ls x5_19 a_n_17 a_over_17 a_out_f_17 hl ⟨hP, hD⟩ hS hok
          · rw [if_neg h21] at hok
            refine lv_lload hx hb d_MoPaper_number_39 (lv_at hl 0 rfl) ?_
            refine lv_ldc2 hx hb hown (hg _ wd_740) d_MoPaper_number_41 ?_
            refine lv_lmul hx hb d_MoPaper_number_44 ?_
            refine lv_lstore hx hb d_MoPaper_number_45 hl (by decide) rfl (fun ls hl => ?_)
            have hl : lv_has ls 7 [(5, .long (x5_19 * 10)), (3, .long v), (0, .ref a), (1, .long v)] := hl
            refine lv_goto hx hb d_MoPaper_number_47 rfl ?_
            exact ih19 _ _ _ (x5_19 * 10) (lv_sub hl [0, 1, 2, 3] rfl) (sub3 hP hD [0, 1] (by decide)) hS hok
      exact J19 n H locs ls (1 : Int64) hl ⟨hP, hD⟩ hS hok
    · rw [if_neg h18] at hok
      refine lv_lload_n hx hb d_MoPaper_number_18 rfl (lv_at hl 1 rfl) ?_
      refine lv_lneg hx hb d_MoPaper_number_19 ?_
      refine lv_goto hx hb d_MoPaper_number_20 rfl ?_
      refine lv_lstore_n hx hb d_MoPaper_number_24 rfl hl (by decide) rfl (fun ls hl => ?_)
      have hl : lv_has ls 7 [(3, .long (-v)), (0, .ref a), (1, .long v)] := hl
      refine lv_lconst (v := 1) hx hb d_MoPaper_number_25 (by decide) ?_
      refine lv_lstore hx hb d_MoPaper_number_26 hl (by decide) rfl (fun ls hl => ?_)
      have hl : lv_has ls 7 [(5, .long 1), (3, .long (-v)), (0, .ref a), (1, .long v)] := hl
      have J26 : ∀ (kf26 : Nat) (H : Heap) (locs : List Loc) (ls : Array Slot) (x5_26 : Int64), lv_has ls 7 [(5, .long x5_26), (3, .long (-v)), (0, .ref a), (1, .long v)] → PD g A H [(a, .inr (13, [.ref a_out, .ref a_walk, .ref a_next, .ref a_seen, .int a_n_17, .int a_over_17, .int a_order])), (a_out, .inl (cs 1, a_out_n, .inl a_out_f_17))] → va_S A s.heap H locs → p_MoPaper_number_28_26 n v a_order a_out_n a_n_17 a_over_17 a_out_f_17 kf26 x5_26 = some (o_a_n, o_a_over, o_a_out_f) → W p l e (headSpec (.code y_MoPaper_number b_MoPaper_number 7 none :: GW) { frames := 1, cells := 0, slots := 0, locals := 21 }).room s m ([.ref a, .long v] : List Value).toArray below meth c H locs 0 0 Q (F0 m 28 ls []) := by
        intro kf26
        induction kf26 with
        | zero => intro H locs ls x5_26 hl ⟨hP, hD⟩ hS hok; rw [p_MoPaper_number_28_26] at hok; cases hok
        | succ kf26 ih26 =>
          intro H locs ls x5_26 hl ⟨hP, hD⟩ hS hok
          rw [p_MoPaper_number_28_26] at hok
          refine lv_lload_n hx hb d_MoPaper_number_28 rfl (lv_at hl 1 rfl) ?_
          refine lv_lload hx hb d_MoPaper_number_29 (lv_at hl 0 rfl) ?_
          obtain ⟨hi27, hok⟩ := ck_some hok
          refine lv_ldiv hx hb d_MoPaper_number_31 (of_decide_eq_true hi27) ?_
          refine lv_ldc2 hx hb hown (hg _ wd_738) d_MoPaper_number_32 ?_
          refine W.lcmp hx hb d_MoPaper_number_35 ?_
          refine lv_if_le hx hb d_MoPaper_number_36 rfl (fun h28 => ?_) (fun h28 => ?_)
          · rw [if_pos h28] at hok
            have J29 : ∀ (kf29 : Nat) (H : Heap) (locs : List Loc) (ls : Array Slot) (x5_29 : Int64) (a_n_29 : Int32) (a_over_29 : Int32) (a_out_29f : Nat → Int32), lv_has ls 7 [(5, .long x5_29), (3, .long (-v)), (0, .ref a), (1, .long v)] → PD g A H [(a, .inr (13, [.ref a_out, .ref a_walk, .ref a_next, .ref a_seen, .int a_n_29, .int a_over_29, .int a_order])), (a_out, .inl (cs 1, a_out_n, .inl a_out_29f))] → va_S A s.heap H locs → p_MoPaper_number_50_29 n v a_order a_out_n kf29 x5_29 a_n_29 a_over_29 a_out_29f = some (o_a_n, o_a_over, o_a_out_f) → W p l e (headSpec (.code y_MoPaper_number b_MoPaper_number 7 none :: GW) { frames := 1, cells := 0, slots := 0, locals := 21 }).room s m ([.ref a, .long v] : List Value).toArray below meth c H locs 0 0 Q (F0 m 50 ls []) := by
              intro kf29
              induction kf29 with
              | zero => intro H locs ls x5_29 a_n_29 a_over_29 a_out_29f hl ⟨hP, hD⟩ hS hok; rw [p_MoPaper_number_50_29] at hok; cases hok
              | succ kf29 ih29 =>
                intro H locs ls x5_29 a_n_29 a_over_29 a_out_29f hl ⟨hP, hD⟩ hS hok
                rw [p_MoPaper_number_50_29] at hok
                refine lv_lload hx hb d_MoPaper_number_50 (lv_at hl 0 rfl) ?_
                refine lv_lconst (v := 0) hx hb d_MoPaper_number_52 (by decide) ?_
                refine W.lcmp hx hb d_MoPaper_number_53 ?_
                refine lv_if_le hx hb d_MoPaper_number_54 rfl (fun h30 => ?_) (fun h30 => ?_)
                · rw [if_pos h30] at hok
                  have hq := Option.some.inj hok
                  obtain ⟨hq0, hq⟩ := Prod.mk.inj hq
                  obtain ⟨hq1, hq⟩ := Prod.mk.inj hq
                  have hq2 := hq
                  subst hq0
                  subst hq1
                  subst hq2
                  obtain ⟨hP9, hD9⟩ := sub2 (ws' := [(a, .inr (13, [.ref a_out, .ref a_walk, .ref a_next, .ref a_seen, .int a_n_29, .int a_over_29, .int a_order])), (a_out, .inl (cs 1, a_out_n, .inl a_out_29f))]) hP hD [0, 1] rfl (by decide) rfl
                  rw [hQ]
                  exact W.vret hx hb hr (fun t ht hW => ⟨⟨(), rfl, trivial, by rw [ht]; exact hP9, hD9⟩, hS.F ht⟩) hS.2.2 d_MoPaper_number_85
                · rw [if_neg h30] at hok
                  refine lv_aload_n hx hb d_MoPaper_number_57 rfl (lv_at hl 2 rfl) ?_
                  refine lv_ldc2 hx hb hown (hg _ wd_739) d_MoPaper_number_58 ?_
                  refine lv_lload_n hx hb d_MoPaper_number_61 rfl (lv_at hl 1 rfl) ?_
                  refine lv_lload hx hb d_MoPaper_number_62 (lv_at hl 0 rfl) ?_
                  obtain ⟨hi31, hok⟩ := ck_some hok
                  refine lv_ldiv hx hb d_MoPaper_number_64 (of_decide_eq_true hi31) ?_
                  refine lv_ldc2 hx hb hown (hg _ wd_740) d_MoPaper_number_65 ?_
                  refine lv_lrem hx hb d_MoPaper_number_68 (by decide) ?_
                  refine lv_ladd hx hb d_MoPaper_number_69 ?_
                  refine lv_l2i hx hb d_MoPaper_number_70 rfl ?_
                  obtain ⟨⟨a_n_32, a_over_32, a_out_f_32⟩, hc32, hok⟩ := bd_some hok
                  dsimp only at hok
                  obtain ⟨hPc, hDc, hFc⟩ := cut0 (wc := [(a, .inr (13, [.ref a_out, .ref a_walk, .ref a_next, .ref a_seen, .int a_n_29, .int a_over_29, .int a_order])), (a_out, .inl (cs 1, a_out_n, .inl a_out_29f))]) hP hD hS hA [0, 1] (by decide) rfl
                  refine va_callv (va_runV (As := [.int ((48 + (((-v) / x5_29) - ((-v) / x5_29) / 10 * 10)).toInt32)]) (rest := []) ⟨hx, hb, hml, hown, hg⟩ (c_MoPaper_put l g cs ka a_walk a_next a_seen a a_out H.size ((48 + (((-v) / x5_29) - ((-v) / x5_29) / 10 * 10)).toInt32) a_n_29 a_over_29 a_order a_out_n a_out_29f a_n_32 a_over_32 a_out_f_32 hc32) (cwV (C := R_MoPaper) 1 hg (gw_V wd_743 wd_744 wd_745 wd_742 wd_741) rfl rfl rfl (by decide +kernel) ⟨Nat.le_of_ble_eq_true rfl, Nat.le_of_ble_eq_true rfl⟩) ⟨gP_blind, va_recv (q0 := 0) (ci := 13) (q := (R_MoPaper, F_MoPaper, 7)) hK hP rfl rfl, gP_pre hPc hDc hK hgl hkn hkr hS hFc⟩ rfl rfl hl.1 rfl (lv_room (Nat.le_of_ble_eq_true rfl)) d_MoPaper_number_71 ⟨Nat.le_of_ble_eq_true rfl, Nat.le_of_ble_eq_true rfl⟩) hS (fun q _ h => hFc q h) hFc (fun u t H locs ht hvm hr32 hB hz1 hk1 hS => ?_)
                  rw [ht] at hB
                  obtain ⟨hP1, hD1⟩ := hB
                  obtain ⟨hP, hD⟩ := jn_A hP hD [0, 1] [] rfl rfl (by decide) (by decide) hk1 hFc hP1 hD1
                  obtain ⟨hP, hD⟩ : PD g A H [(a, .inr (13, [.ref a_out, .ref a_walk, .ref a_next, .ref a_seen, .int a_n_32, .int a_over_32, .int a_order])), (a_out, .inl (cs 1, a_out_n, .inl a_out_f_32))] := ⟨hP, hD⟩
                  refine lv_lload hx hb d_MoPaper_number_74 (lv_at hl 0 rfl) ?_
                  refine lv_ldc2 hx hb hown (hg _ wd_740) d_MoPaper_number_76 ?_
                  refine lv_ldiv hx hb d_MoPaper_number_79 (by decide) ?_
                  refine lv_lstore hx hb d_MoPaper_number_80 hl (by decide) rfl (fun ls hl => ?_)
                  have hl : lv_has ls 7 [(5, .long (x5_29 / 10)), (3, .long (-v)), (0, .ref a), (1, .long v)] := hl
                  refine lv_goto hx hb d_MoPaper_number_82 rfl ?_
                  exact ih29 _ _ _ (x5_29 / 10) a_n_32 a_over_32 a_out_f_32 (lv_sub hl [0, 1, 2, 3] rfl) (sub3 hP hD [0, 1] (by decide)) hS hok
            exact J29 n H locs ls x5_26 a_n_17 a_over_17 a_out_f_17 hl ⟨hP, hD⟩ hS hok
          · rw [if_neg h28] at hok
            refine lv_lload hx hb d_MoPaper_number_39 (lv_at hl 0 rfl) ?_
            refine lv_ldc2 hx hb hown (hg _ wd_740) d_MoPaper_number_41 ?_
            refine lv_lmul hx hb d_MoPaper_number_44 ?_
            refine lv_lstore hx hb d_MoPaper_number_45 hl (by decide) rfl (fun ls hl => ?_)
            have hl : lv_has ls 7 [(5, .long (x5_26 * 10)), (3, .long (-v)), (0, .ref a), (1, .long v)] := hl
            refine lv_goto hx hb d_MoPaper_number_47 rfl ?_
            exact ih26 _ _ _ (x5_26 * 10) (lv_sub hl [0, 1, 2, 3] rfl) (sub3 hP hD [0, 1] (by decide)) hS hok
      exact J26 n H locs ls (1 : Int64) hl ⟨hP, hD⟩ hS hok

theorem d_MoReader_symbol_0 : decode b_MoReader_symbol 0 = .ok (.iload_n 0, 1) := by decide +kernel
theorem d_MoReader_symbol_1 : decode b_MoReader_symbol 1 = .ok (.ifCond .le 16, 3) := by decide +kernel
theorem d_MoReader_symbol_4 : decode b_MoReader_symbol 4 = .ok (.ldc 130, 2) := by decide +kernel
theorem d_MoReader_symbol_6 : decode b_MoReader_symbol 6 = .ok (.iload_n 0, 1) := by decide +kernel
theorem d_MoReader_symbol_7 : decode b_MoReader_symbol 7 = .ok (.invokevirtual 132, 3) := by decide +kernel
theorem d_MoReader_symbol_10 : decode b_MoReader_symbol 10 = .ok (.ifCond .lt 7, 3) := by decide +kernel
theorem d_MoReader_symbol_13 : decode b_MoReader_symbol 13 = .ok (.iconst 1, 1) := by decide +kernel
theorem d_MoReader_symbol_14 : decode b_MoReader_symbol 14 = .ok (.goto 4, 3) := by decide +kernel
theorem d_MoReader_symbol_17 : decode b_MoReader_symbol 17 = .ok (.iconst 0, 1) := by decide +kernel
theorem d_MoReader_symbol_18 : decode b_MoReader_symbol 18 = .ok (.ireturn, 1) := by decide +kernel
def p_MoReader_symbol (n : Nat) (c0 : Int32) : Option Int32 := if c0 ≤ 0 then (some (0 : Int32)) else ((p_String_indexOf_I n 0 c0).bind (fun r2 => if r2 < 0 then (some (0 : Int32)) else (some (1 : Int32))))
set_option maxHeartbeats 40000000 in
set_option maxRecDepth 100000 in
theorem c_MoReader_symbol (l : Launch) (g : va_G) (cs : Nat → ClassId) (ka : Nat → Nat) (sz : Nat) (n : Nat) (c0 : Int32) (r : Int32) (hok : p_MoReader_symbol n c0 = some r) : Met l y_MoReader_symbol (.code y_MoReader_symbol b_MoReader_symbol 1 (some .boolean) :: GW) { frames := 4, cells := 0, slots := 0, locals := 91 } (va_Pc [.int c0] (gP g cs ka [] sz)) (va_Qi (fun (r' : Int32) (_ : Unit) => r = r') (fun _ t => va_P g classes [] t.heap ∧ va_D (va_A [] sz) []) (va_A [] sz)) 0 0 (va_A [] sz) := by
  refine Met.ofW (cc := b_MoReader_symbol) (maxL := 1) (ret := (some .boolean)) (by decide) rfl ?_
  intro p e s m args below meth c s₁ B hml hv
  obtain ⟨rfl, hsz, hP, hK, hD0, hgl, hkn, hkr⟩ := hv
  have hx := B.exec
  have hb := B.bytes
  have hr := B.returns
  have hg : ∀ w ∈ GW, w.before ([.int c0] : List Value).toArray s = true := fun w hw => atoms_spec (ws := .code y_MoReader_symbol b_MoReader_symbol 1 (some .boolean) :: GW) B.pre w (List.mem_cons_of_mem _ hw)
  have hown : s.vm.findClass R_MoReader = some m.cls := findClass_of_methodNamed B.named
  have hlocks := B.notSynchronized
  subst hsz
  have hD := hD0.self (sz := s.heap.size)
  generalize hAe : va_A [] s.heap.size = A at hD hkn ⊢
  have hA : ∀ q : Nat, s.heap.size ≤ q → A q := fun q h => by rw [← hAe]; exact Or.inr h
  have hS : va_S A s.heap s.heap [] := va_S.rf
  have hP : va_P g classes [] s.heap := hP
  have hl := lv_entry ([.int c0]) (n := 1) (Nat.le_of_ble_eq_true rfl)
  rw [lg_entry_eq]
  generalize (lg_sl ([.int c0]) ++ List.replicate (1 - (lg_sl ([.int c0])).length) Slot.unset).toArray = ls at hl ⊢
  have hl : lv_has ls 1 [(0, .int c0)] := hl
  refine gq (fun Q hQ => ?_)
  obtain ⟨H, hH⟩ : ∃ H : Heap, H = s.heap := ⟨_, rfl⟩
  rw [← hH] at hP
  have hS : va_S A s.heap H [] := by rw [hH]; exact hS
  refine W.eqH hH ?_
  obtain ⟨locs, hlc⟩ : ∃ L : List Loc, L = [] := ⟨_, rfl⟩
  rw [← hlc] at hS ⊢
  unfold p_MoReader_symbol at hok
  refine lv_iload_n hx hb d_MoReader_symbol_0 rfl (lv_at hl 0 rfl) ?_
  refine lv_if_le hx hb d_MoReader_symbol_1 rfl (fun h1 => ?_) (fun h1 => ?_)
  · rw [if_pos h1] at hok
    refine lv_iconst (v := 0) hx hb d_MoReader_symbol_17 (by decide) ?_
    have hq := Option.some.inj hok
    have hq0 := hq
    subst hq0
    obtain ⟨hP9, hD9⟩ := sub2 (ws' := []) hP hD [] rfl (by decide) rfl
    rw [hQ]
    exact W.zret (v := 0) hx hb hr rfl (fun t ht hW => ⟨⟨_, (), rfl, rfl, by rw [ht]; exact hP9, hD9⟩, hS.F ht⟩) hS.2.2 d_MoReader_symbol_18
  · rw [if_neg h1] at hok
    refine va_ldcS hx hb hown (hkr.1 _ (List.mem_of_getElem? (i := 22) rfl)) d_MoReader_symbol_4 ?_
    refine lv_iload_n hx hb d_MoReader_symbol_6 rfl (lv_at hl 0 rfl) ?_
    obtain ⟨r2, hc2, hok⟩ := bd_some hok
    obtain ⟨hPc, hDc, hFc⟩ := cut0 (wc := []) hP hD hS hA [] (by decide) rfl
    refine va_calli (va_runV (As := [.int c0]) (rest := []) ⟨hx, hb, hml, hown, hg⟩ (c_String_indexOf_I l g cs ka H.size n 0 c0 r2 hc2) (cwV (C := "java/lang/String") 1 hg (gw_V wd_746 wd_207 wd_208 wd_164 wd_205) rfl rfl rfl (by decide +kernel) ⟨Nat.le_of_ble_eq_true rfl, Nat.le_of_ble_eq_true rfl⟩) ⟨gP_blind, kn_recv hkn (by decide) hS, gP_pre hPc hDc hK hgl hkn hkr hS hFc⟩ rfl rfl hl.1 rfl (lv_room (Nat.le_of_ble_eq_true rfl)) d_MoReader_symbol_7 ⟨Nat.le_of_ble_eq_true rfl, Nat.le_of_ble_eq_true rfl⟩) hS (fun q _ h => hFc q h) hFc (fun r2' u t H locs ht hvm hr2 hB hz1 hk1 hS => ?_)
    subst hr2
    rw [ht] at hB
    obtain ⟨hP1, hD1⟩ := hB
    obtain ⟨hP, hD⟩ := jn_A hP hD [] [] rfl rfl (by decide) (by decide) hk1 hFc hP1 hD1
    obtain ⟨hP, hD⟩ : PD g A H [] := ⟨hP, hD⟩
    refine lv_if_lt hx hb d_MoReader_symbol_10 rfl (fun h3 => ?_) (fun h3 => ?_)
    · rw [if_pos h3] at hok
      refine lv_iconst (v := 0) hx hb d_MoReader_symbol_17 (by decide) ?_
      have hq := Option.some.inj hok
      have hq0 := hq
      subst hq0
      obtain ⟨hP9, hD9⟩ := sub2 (ws' := []) hP hD [] rfl (by decide) rfl
      rw [hQ]
      exact W.zret (v := 0) hx hb hr rfl (fun t ht hW => ⟨⟨_, (), rfl, rfl, by rw [ht]; exact hP9, hD9⟩, hS.F ht⟩) hS.2.2 d_MoReader_symbol_18
    · rw [if_neg h3] at hok
      refine lv_iconst (v := 1) hx hb d_MoReader_symbol_13 (by decide) ?_
      refine lv_goto hx hb d_MoReader_symbol_14 rfl ?_
      have hq := Option.some.inj hok
      have hq0 := hq
      subst hq0
      obtain ⟨hP9, hD9⟩ := sub2 (ws' := []) hP hD [] rfl (by decide) rfl
      rw [hQ]
      exact W.zret (v := 1) hx hb hr rfl (fun t ht hW => ⟨⟨_, (), rfl, rfl, by rw [ht]; exact hP9, hD9⟩, hS.F ht⟩) hS.2.2 d_MoReader_symbol_18

theorem d_MoPaper_plain_0 : decode b_MoPaper_plain 0 = .ok (.aload_n 0, 1) := by decide +kernel
theorem d_MoPaper_plain_1 : decode b_MoPaper_plain 1 = .ok (.iload_n 1, 1) := by decide +kernel
theorem d_MoPaper_plain_2 : decode b_MoPaper_plain 2 = .ok (.invokevirtual 43, 3) := by decide +kernel
theorem d_MoPaper_plain_5 : decode b_MoPaper_plain 5 = .ok (.istore_n 2, 1) := by decide +kernel
theorem d_MoPaper_plain_6 : decode b_MoPaper_plain 6 = .ok (.iload_n 2, 1) := by decide +kernel
theorem d_MoPaper_plain_7 : decode b_MoPaper_plain 7 = .ok (.ifCond .ne 5, 3) := by decide +kernel
theorem d_MoPaper_plain_10 : decode b_MoPaper_plain 10 = .ok (.iconst 0, 1) := by decide +kernel
theorem d_MoPaper_plain_11 : decode b_MoPaper_plain 11 = .ok (.ireturn, 1) := by decide +kernel
theorem d_MoPaper_plain_12 : decode b_MoPaper_plain 12 = .ok (.aload_n 0, 1) := by decide +kernel
theorem d_MoPaper_plain_13 : decode b_MoPaper_plain 13 = .ok (.iload_n 1, 1) := by decide +kernel
theorem d_MoPaper_plain_14 : decode b_MoPaper_plain 14 = .ok (.iconst 0, 1) := by decide +kernel
theorem d_MoPaper_plain_15 : decode b_MoPaper_plain 15 = .ok (.invokevirtual 49, 3) := by decide +kernel
theorem d_MoPaper_plain_18 : decode b_MoPaper_plain 18 = .ok (.istore_n 3, 1) := by decide +kernel
theorem d_MoPaper_plain_19 : decode b_MoPaper_plain 19 = .ok (.iload_n 2, 1) := by decide +kernel
theorem d_MoPaper_plain_20 : decode b_MoPaper_plain 20 = .ok (.iconst 1, 1) := by decide +kernel
theorem d_MoPaper_plain_21 : decode b_MoPaper_plain 21 = .ok (.if_icmp .ne 17, 3) := by decide +kernel
theorem d_MoPaper_plain_24 : decode b_MoPaper_plain 24 = .ok (.iload_n 3, 1) := by decide +kernel
theorem d_MoPaper_plain_25 : decode b_MoPaper_plain 25 = .ok (.bipush 33, 2) := by decide +kernel
theorem d_MoPaper_plain_27 : decode b_MoPaper_plain 27 = .ok (.if_icmp .eq 9, 3) := by decide +kernel
theorem d_MoPaper_plain_30 : decode b_MoPaper_plain 30 = .ok (.iload_n 3, 1) := by decide +kernel
theorem d_MoPaper_plain_31 : decode b_MoPaper_plain 31 = .ok (.bipush 59, 2) := by decide +kernel
theorem d_MoPaper_plain_33 : decode b_MoPaper_plain 33 = .ok (.if_icmp .ne 5, 3) := by decide +kernel
theorem d_MoPaper_plain_36 : decode b_MoPaper_plain 36 = .ok (.iconst 1, 1) := by decide +kernel
theorem d_MoPaper_plain_37 : decode b_MoPaper_plain 37 = .ok (.ireturn, 1) := by decide +kernel
theorem d_MoPaper_plain_38 : decode b_MoPaper_plain 38 = .ok (.aload_n 0, 1) := by decide +kernel
theorem d_MoPaper_plain_39 : decode b_MoPaper_plain 39 = .ok (.iload_n 1, 1) := by decide +kernel
theorem d_MoPaper_plain_40 : decode b_MoPaper_plain 40 = .ok (.ldc 53, 2) := by decide +kernel
theorem d_MoPaper_plain_42 : decode b_MoPaper_plain 42 = .ok (.invokevirtual 55, 3) := by decide +kernel
theorem d_MoPaper_plain_45 : decode b_MoPaper_plain 45 = .ok (.ifCond .eq 5, 3) := by decide +kernel
theorem d_MoPaper_plain_48 : decode b_MoPaper_plain 48 = .ok (.iconst 1, 1) := by decide +kernel
theorem d_MoPaper_plain_49 : decode b_MoPaper_plain 49 = .ok (.ireturn, 1) := by decide +kernel
theorem d_MoPaper_plain_50 : decode b_MoPaper_plain 50 = .ok (.aload_n 0, 1) := by decide +kernel
theorem d_MoPaper_plain_51 : decode b_MoPaper_plain 51 = .ok (.iload_n 1, 1) := by decide +kernel
theorem d_MoPaper_plain_52 : decode b_MoPaper_plain 52 = .ok (.ldc 59, 2) := by decide +kernel
theorem d_MoPaper_plain_54 : decode b_MoPaper_plain 54 = .ok (.invokevirtual 55, 3) := by decide +kernel
theorem d_MoPaper_plain_57 : decode b_MoPaper_plain 57 = .ok (.ifCond .eq 5, 3) := by decide +kernel
theorem d_MoPaper_plain_60 : decode b_MoPaper_plain 60 = .ok (.iconst 0, 1) := by decide +kernel
theorem d_MoPaper_plain_61 : decode b_MoPaper_plain 61 = .ok (.ireturn, 1) := by decide +kernel
theorem d_MoPaper_plain_62 : decode b_MoPaper_plain 62 = .ok (.iload_n 3, 1) := by decide +kernel
theorem d_MoPaper_plain_63 : decode b_MoPaper_plain 63 = .ok (.bipush 97, 2) := by decide +kernel
theorem d_MoPaper_plain_65 : decode b_MoPaper_plain 65 = .ok (.if_icmp .lt 13, 3) := by decide +kernel
theorem d_MoPaper_plain_68 : decode b_MoPaper_plain 68 = .ok (.iload_n 3, 1) := by decide +kernel
theorem d_MoPaper_plain_69 : decode b_MoPaper_plain 69 = .ok (.bipush 122, 2) := by decide +kernel
theorem d_MoPaper_plain_71 : decode b_MoPaper_plain 71 = .ok (.if_icmp .gt 7, 3) := by decide +kernel
theorem d_MoPaper_plain_74 : decode b_MoPaper_plain 74 = .ok (.iconst 1, 1) := by decide +kernel
theorem d_MoPaper_plain_75 : decode b_MoPaper_plain 75 = .ok (.goto 4, 3) := by decide +kernel
theorem d_MoPaper_plain_78 : decode b_MoPaper_plain 78 = .ok (.iconst 0, 1) := by decide +kernel
theorem d_MoPaper_plain_79 : decode b_MoPaper_plain 79 = .ok (.istore 4, 2) := by decide +kernel
theorem d_MoPaper_plain_81 : decode b_MoPaper_plain 81 = .ok (.iconst 0, 1) := by decide +kernel
theorem d_MoPaper_plain_82 : decode b_MoPaper_plain 82 = .ok (.istore 5, 2) := by decide +kernel
theorem d_MoPaper_plain_84 : decode b_MoPaper_plain 84 = .ok (.iload 5, 2) := by decide +kernel
theorem d_MoPaper_plain_86 : decode b_MoPaper_plain 86 = .ok (.iload_n 2, 1) := by decide +kernel
theorem d_MoPaper_plain_87 : decode b_MoPaper_plain 87 = .ok (.if_icmp .ge 97, 3) := by decide +kernel
theorem d_MoPaper_plain_90 : decode b_MoPaper_plain 90 = .ok (.aload_n 0, 1) := by decide +kernel
theorem d_MoPaper_plain_91 : decode b_MoPaper_plain 91 = .ok (.iload_n 1, 1) := by decide +kernel
theorem d_MoPaper_plain_92 : decode b_MoPaper_plain 92 = .ok (.iload 5, 2) := by decide +kernel
theorem d_MoPaper_plain_94 : decode b_MoPaper_plain 94 = .ok (.invokevirtual 49, 3) := by decide +kernel
theorem d_MoPaper_plain_97 : decode b_MoPaper_plain 97 = .ok (.istore 6, 2) := by decide +kernel
theorem d_MoPaper_plain_99 : decode b_MoPaper_plain 99 = .ok (.iload 6, 2) := by decide +kernel
theorem d_MoPaper_plain_101 : decode b_MoPaper_plain 101 = .ok (.bipush 97, 2) := by decide +kernel
theorem d_MoPaper_plain_103 : decode b_MoPaper_plain 103 = .ok (.if_icmp .lt 10, 3) := by decide +kernel
theorem d_MoPaper_plain_106 : decode b_MoPaper_plain 106 = .ok (.iload 6, 2) := by decide +kernel
theorem d_MoPaper_plain_108 : decode b_MoPaper_plain 108 = .ok (.bipush 122, 2) := by decide +kernel
theorem d_MoPaper_plain_110 : decode b_MoPaper_plain 110 = .ok (.if_icmp .le 38, 3) := by decide +kernel
theorem d_MoPaper_plain_113 : decode b_MoPaper_plain 113 = .ok (.iload 6, 2) := by decide +kernel
theorem d_MoPaper_plain_115 : decode b_MoPaper_plain 115 = .ok (.bipush 65, 2) := by decide +kernel
theorem d_MoPaper_plain_117 : decode b_MoPaper_plain 117 = .ok (.if_icmp .lt 10, 3) := by decide +kernel
theorem d_MoPaper_plain_120 : decode b_MoPaper_plain 120 = .ok (.iload 6, 2) := by decide +kernel
theorem d_MoPaper_plain_122 : decode b_MoPaper_plain 122 = .ok (.bipush 90, 2) := by decide +kernel
theorem d_MoPaper_plain_124 : decode b_MoPaper_plain 124 = .ok (.if_icmp .le 24, 3) := by decide +kernel
theorem d_MoPaper_plain_127 : decode b_MoPaper_plain 127 = .ok (.iload 6, 2) := by decide +kernel
theorem d_MoPaper_plain_129 : decode b_MoPaper_plain 129 = .ok (.bipush 48, 2) := by decide +kernel
theorem d_MoPaper_plain_131 : decode b_MoPaper_plain 131 = .ok (.if_icmp .lt 10, 3) := by decide +kernel
theorem d_MoPaper_plain_134 : decode b_MoPaper_plain 134 = .ok (.iload 6, 2) := by decide +kernel
theorem d_MoPaper_plain_136 : decode b_MoPaper_plain 136 = .ok (.bipush 57, 2) := by decide +kernel
theorem d_MoPaper_plain_138 : decode b_MoPaper_plain 138 = .ok (.if_icmp .le 10, 3) := by decide +kernel
theorem d_MoPaper_plain_141 : decode b_MoPaper_plain 141 = .ok (.iload 6, 2) := by decide +kernel
theorem d_MoPaper_plain_143 : decode b_MoPaper_plain 143 = .ok (.bipush 95, 2) := by decide +kernel
theorem d_MoPaper_plain_145 : decode b_MoPaper_plain 145 = .ok (.if_icmp .ne 7, 3) := by decide +kernel
theorem d_MoPaper_plain_148 : decode b_MoPaper_plain 148 = .ok (.iconst 1, 1) := by decide +kernel
theorem d_MoPaper_plain_149 : decode b_MoPaper_plain 149 = .ok (.goto 4, 3) := by decide +kernel
theorem d_MoPaper_plain_152 : decode b_MoPaper_plain 152 = .ok (.iconst 0, 1) := by decide +kernel
theorem d_MoPaper_plain_153 : decode b_MoPaper_plain 153 = .ok (.istore 7, 2) := by decide +kernel
theorem d_MoPaper_plain_155 : decode b_MoPaper_plain 155 = .ok (.iload 4, 2) := by decide +kernel
theorem d_MoPaper_plain_157 : decode b_MoPaper_plain 157 = .ok (.ifCond .eq 11, 3) := by decide +kernel
theorem d_MoPaper_plain_160 : decode b_MoPaper_plain 160 = .ok (.iload 7, 2) := by decide +kernel
theorem d_MoPaper_plain_162 : decode b_MoPaper_plain 162 = .ok (.ifCond .ne 16, 3) := by decide +kernel
theorem d_MoPaper_plain_165 : decode b_MoPaper_plain 165 = .ok (.goto 11, 3) := by decide +kernel
theorem d_MoPaper_plain_168 : decode b_MoPaper_plain 168 = .ok (.iload 6, 2) := by decide +kernel
theorem d_MoPaper_plain_170 : decode b_MoPaper_plain 170 = .ok (.invokestatic 61, 3) := by decide +kernel
theorem d_MoPaper_plain_173 : decode b_MoPaper_plain 173 = .ok (.ifCond .ne 5, 3) := by decide +kernel
theorem d_MoPaper_plain_176 : decode b_MoPaper_plain 176 = .ok (.iconst 0, 1) := by decide +kernel
theorem d_MoPaper_plain_177 : decode b_MoPaper_plain 177 = .ok (.ireturn, 1) := by decide +kernel
theorem d_MoPaper_plain_178 : decode b_MoPaper_plain 178 = .ok (.iinc 5 1, 3) := by decide +kernel
theorem d_MoPaper_plain_181 : decode b_MoPaper_plain 181 = .ok (.goto (-97), 3) := by decide +kernel
theorem d_MoPaper_plain_184 : decode b_MoPaper_plain 184 = .ok (.iconst 1, 1) := by decide +kernel
theorem d_MoPaper_plain_185 : decode b_MoPaper_plain 185 = .ok (.ireturn, 1) := by decide +kernel
def p_MoPaper_plain_84 (n : Nat) (kk : Int32) (nms_size : Int32) (nms_texted : Int32) (nms_text_n : Nat) (nms_text_f : Nat → Int32) (nms_from_n : Nat) (nms_from_f : Nat → Int32) (r1 : Int32) (kf10 : Nat) (x5_10 : Int32) : Option Int32 := match kf10 with
  | 0 => none
  | kf10 + 1 => if r1 ≤ x5_10 then (some (1 : Int32)) else ((p_MoNames_at kk x5_10 nms_size nms_texted nms_text_n nms_text_f nms_from_n nms_from_f).bind (fun r12 => if r12 < 97 then (if r12 < 65 then (if r12 < 48 then (if r12 = 95 then ((p_MoReader_symbol n r12).bind (fun r21 => if r21 = 0 then (some (0 : Int32)) else (p_MoPaper_plain_84 n kk nms_size nms_texted nms_text_n nms_text_f nms_from_n nms_from_f r1 kf10 (x5_10 + 1)))) else ((p_MoReader_symbol n r12).bind (fun r18 => if r18 = 0 then (some (0 : Int32)) else (p_MoPaper_plain_84 n kk nms_size nms_texted nms_text_n nms_text_f nms_from_n nms_from_f r1 kf10 (x5_10 + 1))))) else (if r12 ≤ 57 then ((p_MoReader_symbol n r12).bind (fun r25 => if r25 = 0 then (some (0 : Int32)) else (p_MoPaper_plain_84 n kk nms_size nms_texted nms_text_n nms_text_f nms_from_n nms_from_f r1 kf10 (x5_10 + 1)))) else (if r12 = 95 then ((p_MoReader_symbol n r12).bind (fun r32 => if r32 = 0 then (some (0 : Int32)) else (p_MoPaper_plain_84 n kk nms_size nms_texted nms_text_n nms_text_f nms_from_n nms_from_f r1 kf10 (x5_10 + 1)))) else ((p_MoReader_symbol n r12).bind (fun r29 => if r29 = 0 then (some (0 : Int32)) else (p_MoPaper_plain_84 n kk nms_size nms_texted nms_text_n nms_text_f nms_from_n nms_from_f r1 kf10 (x5_10 + 1))))))) else (if r12 ≤ 90 then ((p_MoReader_symbol n r12).bind (fun r36 => if r36 = 0 then (some (0 : Int32)) else (p_MoPaper_plain_84 n kk nms_size nms_texted nms_text_n nms_text_f nms_from_n nms_from_f r1 kf10 (x5_10 + 1)))) else (if r12 < 48 then (if r12 = 95 then ((p_MoReader_symbol n r12).bind (fun r44 => if r44 = 0 then (some (0 : Int32)) else (p_MoPaper_plain_84 n kk nms_size nms_texted nms_text_n nms_text_f nms_from_n nms_from_f r1 kf10 (x5_10 + 1)))) else ((p_MoReader_symbol n r12).bind (fun r41 => if r41 = 0 then (some (0 : Int32)) else (p_MoPaper_plain_84 n kk nms_size nms_texted nms_text_n nms_text_f nms_from_n nms_from_f r1 kf10 (x5_10 + 1))))) else (if r12 ≤ 57 then ((p_MoReader_symbol n r12).bind (fun r48 => if r48 = 0 then (some (0 : Int32)) else (p_MoPaper_plain_84 n kk nms_size nms_texted nms_text_n nms_text_f nms_from_n nms_from_f r1 kf10 (x5_10 + 1)))) else (if r12 = 95 then ((p_MoReader_symbol n r12).bind (fun r55 => if r55 = 0 then (some (0 : Int32)) else (p_MoPaper_plain_84 n kk nms_size nms_texted nms_text_n nms_text_f nms_from_n nms_from_f r1 kf10 (x5_10 + 1)))) else ((p_MoReader_symbol n r12).bind (fun r52 => if r52 = 0 then (some (0 : Int32)) else (p_MoPaper_plain_84 n kk nms_size nms_texted nms_text_n nms_text_f nms_from_n nms_from_f r1 kf10 (x5_10 + 1))))))))) else (if r12 ≤ 122 then ((p_MoReader_symbol n r12).bind (fun r59 => if r59 = 0 then (some (0 : Int32)) else (p_MoPaper_plain_84 n kk nms_size nms_texted nms_text_n nms_text_f nms_from_n nms_from_f r1 kf10 (x5_10 + 1)))) else (if r12 < 65 then (if r12 < 48 then (if r12 = 95 then ((p_MoReader_symbol n r12).bind (fun r68 => if r68 = 0 then (some (0 : Int32)) else (p_MoPaper_plain_84 n kk nms_size nms_texted nms_text_n nms_text_f nms_from_n nms_from_f r1 kf10 (x5_10 + 1)))) else ((p_MoReader_symbol n r12).bind (fun r65 => if r65 = 0 then (some (0 : Int32)) else (p_MoPaper_plain_84 n kk nms_size nms_texted nms_text_n nms_text_f nms_from_n nms_from_f r1 kf10 (x5_10 + 1))))) else (if r12 ≤ 57 then ((p_MoReader_symbol n r12).bind (fun r72 => if r72 = 0 then (some (0 : Int32)) else (p_MoPaper_plain_84 n kk nms_size nms_texted nms_text_n nms_text_f nms_from_n nms_from_f r1 kf10 (x5_10 + 1)))) else (if r12 = 95 then ((p_MoReader_symbol n r12).bind (fun r79 => if r79 = 0 then (some (0 : Int32)) else (p_MoPaper_plain_84 n kk nms_size nms_texted nms_text_n nms_text_f nms_from_n nms_from_f r1 kf10 (x5_10 + 1)))) else ((p_MoReader_symbol n r12).bind (fun r76 => if r76 = 0 then (some (0 : Int32)) else (p_MoPaper_plain_84 n kk nms_size nms_texted nms_text_n nms_text_f nms_from_n nms_from_f r1 kf10 (x5_10 + 1))))))) else (if r12 ≤ 90 then ((p_MoReader_symbol n r12).bind (fun r83 => if r83 = 0 then (some (0 : Int32)) else (p_MoPaper_plain_84 n kk nms_size nms_texted nms_text_n nms_text_f nms_from_n nms_from_f r1 kf10 (x5_10 + 1)))) else (if r12 < 48 then (if r12 = 95 then ((p_MoReader_symbol n r12).bind (fun r91 => if r91 = 0 then (some (0 : Int32)) else (p_MoPaper_plain_84 n kk nms_size nms_texted nms_text_n nms_text_f nms_from_n nms_from_f r1 kf10 (x5_10 + 1)))) else ((p_MoReader_symbol n r12).bind (fun r88 => if r88 = 0 then (some (0 : Int32)) else (p_MoPaper_plain_84 n kk nms_size nms_texted nms_text_n nms_text_f nms_from_n nms_from_f r1 kf10 (x5_10 + 1))))) else (if r12 ≤ 57 then ((p_MoReader_symbol n r12).bind (fun r95 => if r95 = 0 then (some (0 : Int32)) else (p_MoPaper_plain_84 n kk nms_size nms_texted nms_text_n nms_text_f nms_from_n nms_from_f r1 kf10 (x5_10 + 1)))) else (if r12 = 95 then ((p_MoReader_symbol n r12).bind (fun r102 => if r102 = 0 then (some (0 : Int32)) else (p_MoPaper_plain_84 n kk nms_size nms_texted nms_text_n nms_text_f nms_from_n nms_from_f r1 kf10 (x5_10 + 1)))) else ((p_MoReader_symbol n r12).bind (fun r99 => if r99 = 0 then (some (0 : Int32)) else (p_MoPaper_plain_84 n kk nms_size nms_texted nms_text_n nms_text_f nms_from_n nms_from_f r1 kf10 (x5_10 + 1))))))))))))
def p_MoPaper_plain_84_105 (n : Nat) (kk : Int32) (nms_size : Int32) (nms_texted : Int32) (nms_text_n : Nat) (nms_text_f : Nat → Int32) (nms_from_n : Nat) (nms_from_f : Nat → Int32) (r1 : Int32) (kf105 : Nat) (x5_105 : Int32) : Option Int32 := match kf105 with
  | 0 => none
  | kf105 + 1 => if r1 ≤ x5_105 then (some (1 : Int32)) else ((p_MoNames_at kk x5_105 nms_size nms_texted nms_text_n nms_text_f nms_from_n nms_from_f).bind (fun r107 => if r107 < 97 then (if r107 < 65 then (if r107 < 48 then (if r107 = 95 then ((p_MoReader_symbol n r107).bind (fun r116 => if r116 = 0 then (some (0 : Int32)) else (p_MoPaper_plain_84_105 n kk nms_size nms_texted nms_text_n nms_text_f nms_from_n nms_from_f r1 kf105 (x5_105 + 1)))) else ((p_MoReader_symbol n r107).bind (fun r113 => if r113 = 0 then (some (0 : Int32)) else (p_MoPaper_plain_84_105 n kk nms_size nms_texted nms_text_n nms_text_f nms_from_n nms_from_f r1 kf105 (x5_105 + 1))))) else (if r107 ≤ 57 then ((p_MoReader_symbol n r107).bind (fun r120 => if r120 = 0 then (some (0 : Int32)) else (p_MoPaper_plain_84_105 n kk nms_size nms_texted nms_text_n nms_text_f nms_from_n nms_from_f r1 kf105 (x5_105 + 1)))) else (if r107 = 95 then ((p_MoReader_symbol n r107).bind (fun r127 => if r127 = 0 then (some (0 : Int32)) else (p_MoPaper_plain_84_105 n kk nms_size nms_texted nms_text_n nms_text_f nms_from_n nms_from_f r1 kf105 (x5_105 + 1)))) else ((p_MoReader_symbol n r107).bind (fun r124 => if r124 = 0 then (some (0 : Int32)) else (p_MoPaper_plain_84_105 n kk nms_size nms_texted nms_text_n nms_text_f nms_from_n nms_from_f r1 kf105 (x5_105 + 1))))))) else (if r107 ≤ 90 then ((p_MoReader_symbol n r107).bind (fun r131 => if r131 = 0 then (some (0 : Int32)) else (p_MoPaper_plain_84_105 n kk nms_size nms_texted nms_text_n nms_text_f nms_from_n nms_from_f r1 kf105 (x5_105 + 1)))) else (if r107 < 48 then (if r107 = 95 then ((p_MoReader_symbol n r107).bind (fun r139 => if r139 = 0 then (some (0 : Int32)) else (p_MoPaper_plain_84_105 n kk nms_size nms_texted nms_text_n nms_text_f nms_from_n nms_from_f r1 kf105 (x5_105 + 1)))) else ((p_MoReader_symbol n r107).bind (fun r136 => if r136 = 0 then (some (0 : Int32)) else (p_MoPaper_plain_84_105 n kk nms_size nms_texted nms_text_n nms_text_f nms_from_n nms_from_f r1 kf105 (x5_105 + 1))))) else (if r107 ≤ 57 then ((p_MoReader_symbol n r107).bind (fun r143 => if r143 = 0 then (some (0 : Int32)) else (p_MoPaper_plain_84_105 n kk nms_size nms_texted nms_text_n nms_text_f nms_from_n nms_from_f r1 kf105 (x5_105 + 1)))) else (if r107 = 95 then ((p_MoReader_symbol n r107).bind (fun r150 => if r150 = 0 then (some (0 : Int32)) else (p_MoPaper_plain_84_105 n kk nms_size nms_texted nms_text_n nms_text_f nms_from_n nms_from_f r1 kf105 (x5_105 + 1)))) else ((p_MoReader_symbol n r107).bind (fun r147 => if r147 = 0 then (some (0 : Int32)) else (p_MoPaper_plain_84_105 n kk nms_size nms_texted nms_text_n nms_text_f nms_from_n nms_from_f r1 kf105 (x5_105 + 1))))))))) else (if r107 ≤ 122 then ((p_MoReader_symbol n r107).bind (fun r154 => if r154 = 0 then (some (0 : Int32)) else (p_MoPaper_plain_84_105 n kk nms_size nms_texted nms_text_n nms_text_f nms_from_n nms_from_f r1 kf105 (x5_105 + 1)))) else (if r107 < 65 then (if r107 < 48 then (if r107 = 95 then ((p_MoReader_symbol n r107).bind (fun r163 => if r163 = 0 then (some (0 : Int32)) else (p_MoPaper_plain_84_105 n kk nms_size nms_texted nms_text_n nms_text_f nms_from_n nms_from_f r1 kf105 (x5_105 + 1)))) else ((p_MoReader_symbol n r107).bind (fun r160 => if r160 = 0 then (some (0 : Int32)) else (p_MoPaper_plain_84_105 n kk nms_size nms_texted nms_text_n nms_text_f nms_from_n nms_from_f r1 kf105 (x5_105 + 1))))) else (if r107 ≤ 57 then ((p_MoReader_symbol n r107).bind (fun r167 => if r167 = 0 then (some (0 : Int32)) else (p_MoPaper_plain_84_105 n kk nms_size nms_texted nms_text_n nms_text_f nms_from_n nms_from_f r1 kf105 (x5_105 + 1)))) else (if r107 = 95 then ((p_MoReader_symbol n r107).bind (fun r174 => if r174 = 0 then (some (0 : Int32)) else (p_MoPaper_plain_84_105 n kk nms_size nms_texted nms_text_n nms_text_f nms_from_n nms_from_f r1 kf105 (x5_105 + 1)))) else ((p_MoReader_symbol n r107).bind (fun r171 => if r171 = 0 then (some (0 : Int32)) else (p_MoPaper_plain_84_105 n kk nms_size nms_texted nms_text_n nms_text_f nms_from_n nms_from_f r1 kf105 (x5_105 + 1))))))) else (if r107 ≤ 90 then ((p_MoReader_symbol n r107).bind (fun r178 => if r178 = 0 then (some (0 : Int32)) else (p_MoPaper_plain_84_105 n kk nms_size nms_texted nms_text_n nms_text_f nms_from_n nms_from_f r1 kf105 (x5_105 + 1)))) else (if r107 < 48 then (if r107 = 95 then ((p_MoReader_symbol n r107).bind (fun r186 => if r186 = 0 then (some (0 : Int32)) else (p_MoPaper_plain_84_105 n kk nms_size nms_texted nms_text_n nms_text_f nms_from_n nms_from_f r1 kf105 (x5_105 + 1)))) else ((p_MoReader_symbol n r107).bind (fun r183 => if r183 = 0 then (some (0 : Int32)) else (p_MoPaper_plain_84_105 n kk nms_size nms_texted nms_text_n nms_text_f nms_from_n nms_from_f r1 kf105 (x5_105 + 1))))) else (if r107 ≤ 57 then ((p_MoReader_symbol n r107).bind (fun r190 => if r190 = 0 then (some (0 : Int32)) else (p_MoPaper_plain_84_105 n kk nms_size nms_texted nms_text_n nms_text_f nms_from_n nms_from_f r1 kf105 (x5_105 + 1)))) else (if r107 = 95 then ((p_MoReader_symbol n r107).bind (fun r197 => if r197 = 0 then (some (0 : Int32)) else (p_MoPaper_plain_84_105 n kk nms_size nms_texted nms_text_n nms_text_f nms_from_n nms_from_f r1 kf105 (x5_105 + 1)))) else ((p_MoReader_symbol n r107).bind (fun r194 => if r194 = 0 then (some (0 : Int32)) else (p_MoPaper_plain_84_105 n kk nms_size nms_texted nms_text_n nms_text_f nms_from_n nms_from_f r1 kf105 (x5_105 + 1))))))))))))
def p_MoPaper_plain_84_199 (n : Nat) (kk : Int32) (nms_size : Int32) (nms_texted : Int32) (nms_text_n : Nat) (nms_text_f : Nat → Int32) (nms_from_n : Nat) (nms_from_f : Nat → Int32) (r1 : Int32) (kf199 : Nat) (x5_199 : Int32) : Option Int32 := match kf199 with
  | 0 => none
  | kf199 + 1 => if r1 ≤ x5_199 then (some (1 : Int32)) else ((p_MoNames_at kk x5_199 nms_size nms_texted nms_text_n nms_text_f nms_from_n nms_from_f).bind (fun r201 => if r201 < 97 then (if r201 < 65 then (if r201 < 48 then (if r201 = 95 then (p_MoPaper_plain_84_199 n kk nms_size nms_texted nms_text_n nms_text_f nms_from_n nms_from_f r1 kf199 (x5_199 + 1)) else (some (0 : Int32))) else (if r201 ≤ 57 then (p_MoPaper_plain_84_199 n kk nms_size nms_texted nms_text_n nms_text_f nms_from_n nms_from_f r1 kf199 (x5_199 + 1)) else (if r201 = 95 then (p_MoPaper_plain_84_199 n kk nms_size nms_texted nms_text_n nms_text_f nms_from_n nms_from_f r1 kf199 (x5_199 + 1)) else (some (0 : Int32))))) else (if r201 ≤ 90 then (p_MoPaper_plain_84_199 n kk nms_size nms_texted nms_text_n nms_text_f nms_from_n nms_from_f r1 kf199 (x5_199 + 1)) else (if r201 < 48 then (if r201 = 95 then (p_MoPaper_plain_84_199 n kk nms_size nms_texted nms_text_n nms_text_f nms_from_n nms_from_f r1 kf199 (x5_199 + 1)) else (some (0 : Int32))) else (if r201 ≤ 57 then (p_MoPaper_plain_84_199 n kk nms_size nms_texted nms_text_n nms_text_f nms_from_n nms_from_f r1 kf199 (x5_199 + 1)) else (if r201 = 95 then (p_MoPaper_plain_84_199 n kk nms_size nms_texted nms_text_n nms_text_f nms_from_n nms_from_f r1 kf199 (x5_199 + 1)) else (some (0 : Int32))))))) else (if r201 ≤ 122 then (p_MoPaper_plain_84_199 n kk nms_size nms_texted nms_text_n nms_text_f nms_from_n nms_from_f r1 kf199 (x5_199 + 1)) else (if r201 < 65 then (if r201 < 48 then (if r201 = 95 then (p_MoPaper_plain_84_199 n kk nms_size nms_texted nms_text_n nms_text_f nms_from_n nms_from_f r1 kf199 (x5_199 + 1)) else (some (0 : Int32))) else (if r201 ≤ 57 then (p_MoPaper_plain_84_199 n kk nms_size nms_texted nms_text_n nms_text_f nms_from_n nms_from_f r1 kf199 (x5_199 + 1)) else (if r201 = 95 then (p_MoPaper_plain_84_199 n kk nms_size nms_texted nms_text_n nms_text_f nms_from_n nms_from_f r1 kf199 (x5_199 + 1)) else (some (0 : Int32))))) else (if r201 ≤ 90 then (p_MoPaper_plain_84_199 n kk nms_size nms_texted nms_text_n nms_text_f nms_from_n nms_from_f r1 kf199 (x5_199 + 1)) else (if r201 < 48 then (if r201 = 95 then (p_MoPaper_plain_84_199 n kk nms_size nms_texted nms_text_n nms_text_f nms_from_n nms_from_f r1 kf199 (x5_199 + 1)) else (some (0 : Int32))) else (if r201 ≤ 57 then (p_MoPaper_plain_84_199 n kk nms_size nms_texted nms_text_n nms_text_f nms_from_n nms_from_f r1 kf199 (x5_199 + 1)) else (if r201 = 95 then (p_MoPaper_plain_84_199 n kk nms_size nms_texted nms_text_n nms_text_f nms_from_n nms_from_f r1 kf199 (x5_199 + 1)) else (some (0 : Int32))))))))))
def p_MoPaper_plain_84_277 (n : Nat) (kk : Int32) (nms_size : Int32) (nms_texted : Int32) (nms_text_n : Nat) (nms_text_f : Nat → Int32) (nms_from_n : Nat) (nms_from_f : Nat → Int32) (r1 : Int32) (kf277 : Nat) (x5_277 : Int32) : Option Int32 := match kf277 with
  | 0 => none
  | kf277 + 1 => if r1 ≤ x5_277 then (some (1 : Int32)) else ((p_MoNames_at kk x5_277 nms_size nms_texted nms_text_n nms_text_f nms_from_n nms_from_f).bind (fun r279 => if r279 < 97 then (if r279 < 65 then (if r279 < 48 then (if r279 = 95 then ((p_MoReader_symbol n r279).bind (fun r288 => if r288 = 0 then (some (0 : Int32)) else (p_MoPaper_plain_84_277 n kk nms_size nms_texted nms_text_n nms_text_f nms_from_n nms_from_f r1 kf277 (x5_277 + 1)))) else ((p_MoReader_symbol n r279).bind (fun r285 => if r285 = 0 then (some (0 : Int32)) else (p_MoPaper_plain_84_277 n kk nms_size nms_texted nms_text_n nms_text_f nms_from_n nms_from_f r1 kf277 (x5_277 + 1))))) else (if r279 ≤ 57 then ((p_MoReader_symbol n r279).bind (fun r292 => if r292 = 0 then (some (0 : Int32)) else (p_MoPaper_plain_84_277 n kk nms_size nms_texted nms_text_n nms_text_f nms_from_n nms_from_f r1 kf277 (x5_277 + 1)))) else (if r279 = 95 then ((p_MoReader_symbol n r279).bind (fun r299 => if r299 = 0 then (some (0 : Int32)) else (p_MoPaper_plain_84_277 n kk nms_size nms_texted nms_text_n nms_text_f nms_from_n nms_from_f r1 kf277 (x5_277 + 1)))) else ((p_MoReader_symbol n r279).bind (fun r296 => if r296 = 0 then (some (0 : Int32)) else (p_MoPaper_plain_84_277 n kk nms_size nms_texted nms_text_n nms_text_f nms_from_n nms_from_f r1 kf277 (x5_277 + 1))))))) else (if r279 ≤ 90 then ((p_MoReader_symbol n r279).bind (fun r303 => if r303 = 0 then (some (0 : Int32)) else (p_MoPaper_plain_84_277 n kk nms_size nms_texted nms_text_n nms_text_f nms_from_n nms_from_f r1 kf277 (x5_277 + 1)))) else (if r279 < 48 then (if r279 = 95 then ((p_MoReader_symbol n r279).bind (fun r311 => if r311 = 0 then (some (0 : Int32)) else (p_MoPaper_plain_84_277 n kk nms_size nms_texted nms_text_n nms_text_f nms_from_n nms_from_f r1 kf277 (x5_277 + 1)))) else ((p_MoReader_symbol n r279).bind (fun r308 => if r308 = 0 then (some (0 : Int32)) else (p_MoPaper_plain_84_277 n kk nms_size nms_texted nms_text_n nms_text_f nms_from_n nms_from_f r1 kf277 (x5_277 + 1))))) else (if r279 ≤ 57 then ((p_MoReader_symbol n r279).bind (fun r315 => if r315 = 0 then (some (0 : Int32)) else (p_MoPaper_plain_84_277 n kk nms_size nms_texted nms_text_n nms_text_f nms_from_n nms_from_f r1 kf277 (x5_277 + 1)))) else (if r279 = 95 then ((p_MoReader_symbol n r279).bind (fun r322 => if r322 = 0 then (some (0 : Int32)) else (p_MoPaper_plain_84_277 n kk nms_size nms_texted nms_text_n nms_text_f nms_from_n nms_from_f r1 kf277 (x5_277 + 1)))) else ((p_MoReader_symbol n r279).bind (fun r319 => if r319 = 0 then (some (0 : Int32)) else (p_MoPaper_plain_84_277 n kk nms_size nms_texted nms_text_n nms_text_f nms_from_n nms_from_f r1 kf277 (x5_277 + 1))))))))) else (if r279 ≤ 122 then ((p_MoReader_symbol n r279).bind (fun r326 => if r326 = 0 then (some (0 : Int32)) else (p_MoPaper_plain_84_277 n kk nms_size nms_texted nms_text_n nms_text_f nms_from_n nms_from_f r1 kf277 (x5_277 + 1)))) else (if r279 < 65 then (if r279 < 48 then (if r279 = 95 then ((p_MoReader_symbol n r279).bind (fun r335 => if r335 = 0 then (some (0 : Int32)) else (p_MoPaper_plain_84_277 n kk nms_size nms_texted nms_text_n nms_text_f nms_from_n nms_from_f r1 kf277 (x5_277 + 1)))) else ((p_MoReader_symbol n r279).bind (fun r332 => if r332 = 0 then (some (0 : Int32)) else (p_MoPaper_plain_84_277 n kk nms_size nms_texted nms_text_n nms_text_f nms_from_n nms_from_f r1 kf277 (x5_277 + 1))))) else (if r279 ≤ 57 then ((p_MoReader_symbol n r279).bind (fun r339 => if r339 = 0 then (some (0 : Int32)) else (p_MoPaper_plain_84_277 n kk nms_size nms_texted nms_text_n nms_text_f nms_from_n nms_from_f r1 kf277 (x5_277 + 1)))) else (if r279 = 95 then ((p_MoReader_symbol n r279).bind (fun r346 => if r346 = 0 then (some (0 : Int32)) else (p_MoPaper_plain_84_277 n kk nms_size nms_texted nms_text_n nms_text_f nms_from_n nms_from_f r1 kf277 (x5_277 + 1)))) else ((p_MoReader_symbol n r279).bind (fun r343 => if r343 = 0 then (some (0 : Int32)) else (p_MoPaper_plain_84_277 n kk nms_size nms_texted nms_text_n nms_text_f nms_from_n nms_from_f r1 kf277 (x5_277 + 1))))))) else (if r279 ≤ 90 then ((p_MoReader_symbol n r279).bind (fun r350 => if r350 = 0 then (some (0 : Int32)) else (p_MoPaper_plain_84_277 n kk nms_size nms_texted nms_text_n nms_text_f nms_from_n nms_from_f r1 kf277 (x5_277 + 1)))) else (if r279 < 48 then (if r279 = 95 then ((p_MoReader_symbol n r279).bind (fun r358 => if r358 = 0 then (some (0 : Int32)) else (p_MoPaper_plain_84_277 n kk nms_size nms_texted nms_text_n nms_text_f nms_from_n nms_from_f r1 kf277 (x5_277 + 1)))) else ((p_MoReader_symbol n r279).bind (fun r355 => if r355 = 0 then (some (0 : Int32)) else (p_MoPaper_plain_84_277 n kk nms_size nms_texted nms_text_n nms_text_f nms_from_n nms_from_f r1 kf277 (x5_277 + 1))))) else (if r279 ≤ 57 then ((p_MoReader_symbol n r279).bind (fun r362 => if r362 = 0 then (some (0 : Int32)) else (p_MoPaper_plain_84_277 n kk nms_size nms_texted nms_text_n nms_text_f nms_from_n nms_from_f r1 kf277 (x5_277 + 1)))) else (if r279 = 95 then ((p_MoReader_symbol n r279).bind (fun r369 => if r369 = 0 then (some (0 : Int32)) else (p_MoPaper_plain_84_277 n kk nms_size nms_texted nms_text_n nms_text_f nms_from_n nms_from_f r1 kf277 (x5_277 + 1)))) else ((p_MoReader_symbol n r279).bind (fun r366 => if r366 = 0 then (some (0 : Int32)) else (p_MoPaper_plain_84_277 n kk nms_size nms_texted nms_text_n nms_text_f nms_from_n nms_from_f r1 kf277 (x5_277 + 1))))))))))))
def p_MoPaper_plain_84_372 (n : Nat) (kk : Int32) (nms_size : Int32) (nms_texted : Int32) (nms_text_n : Nat) (nms_text_f : Nat → Int32) (nms_from_n : Nat) (nms_from_f : Nat → Int32) (r1 : Int32) (kf372 : Nat) (x5_372 : Int32) : Option Int32 := match kf372 with
  | 0 => none
  | kf372 + 1 => if r1 ≤ x5_372 then (some (1 : Int32)) else ((p_MoNames_at kk x5_372 nms_size nms_texted nms_text_n nms_text_f nms_from_n nms_from_f).bind (fun r374 => if r374 < 97 then (if r374 < 65 then (if r374 < 48 then (if r374 = 95 then ((p_MoReader_symbol n r374).bind (fun r383 => if r383 = 0 then (some (0 : Int32)) else (p_MoPaper_plain_84_372 n kk nms_size nms_texted nms_text_n nms_text_f nms_from_n nms_from_f r1 kf372 (x5_372 + 1)))) else ((p_MoReader_symbol n r374).bind (fun r380 => if r380 = 0 then (some (0 : Int32)) else (p_MoPaper_plain_84_372 n kk nms_size nms_texted nms_text_n nms_text_f nms_from_n nms_from_f r1 kf372 (x5_372 + 1))))) else (if r374 ≤ 57 then ((p_MoReader_symbol n r374).bind (fun r387 => if r387 = 0 then (some (0 : Int32)) else (p_MoPaper_plain_84_372 n kk nms_size nms_texted nms_text_n nms_text_f nms_from_n nms_from_f r1 kf372 (x5_372 + 1)))) else (if r374 = 95 then ((p_MoReader_symbol n r374).bind (fun r394 => if r394 = 0 then (some (0 : Int32)) else (p_MoPaper_plain_84_372 n kk nms_size nms_texted nms_text_n nms_text_f nms_from_n nms_from_f r1 kf372 (x5_372 + 1)))) else ((p_MoReader_symbol n r374).bind (fun r391 => if r391 = 0 then (some (0 : Int32)) else (p_MoPaper_plain_84_372 n kk nms_size nms_texted nms_text_n nms_text_f nms_from_n nms_from_f r1 kf372 (x5_372 + 1))))))) else (if r374 ≤ 90 then ((p_MoReader_symbol n r374).bind (fun r398 => if r398 = 0 then (some (0 : Int32)) else (p_MoPaper_plain_84_372 n kk nms_size nms_texted nms_text_n nms_text_f nms_from_n nms_from_f r1 kf372 (x5_372 + 1)))) else (if r374 < 48 then (if r374 = 95 then ((p_MoReader_symbol n r374).bind (fun r406 => if r406 = 0 then (some (0 : Int32)) else (p_MoPaper_plain_84_372 n kk nms_size nms_texted nms_text_n nms_text_f nms_from_n nms_from_f r1 kf372 (x5_372 + 1)))) else ((p_MoReader_symbol n r374).bind (fun r403 => if r403 = 0 then (some (0 : Int32)) else (p_MoPaper_plain_84_372 n kk nms_size nms_texted nms_text_n nms_text_f nms_from_n nms_from_f r1 kf372 (x5_372 + 1))))) else (if r374 ≤ 57 then ((p_MoReader_symbol n r374).bind (fun r410 => if r410 = 0 then (some (0 : Int32)) else (p_MoPaper_plain_84_372 n kk nms_size nms_texted nms_text_n nms_text_f nms_from_n nms_from_f r1 kf372 (x5_372 + 1)))) else (if r374 = 95 then ((p_MoReader_symbol n r374).bind (fun r417 => if r417 = 0 then (some (0 : Int32)) else (p_MoPaper_plain_84_372 n kk nms_size nms_texted nms_text_n nms_text_f nms_from_n nms_from_f r1 kf372 (x5_372 + 1)))) else ((p_MoReader_symbol n r374).bind (fun r414 => if r414 = 0 then (some (0 : Int32)) else (p_MoPaper_plain_84_372 n kk nms_size nms_texted nms_text_n nms_text_f nms_from_n nms_from_f r1 kf372 (x5_372 + 1))))))))) else (if r374 ≤ 122 then ((p_MoReader_symbol n r374).bind (fun r421 => if r421 = 0 then (some (0 : Int32)) else (p_MoPaper_plain_84_372 n kk nms_size nms_texted nms_text_n nms_text_f nms_from_n nms_from_f r1 kf372 (x5_372 + 1)))) else (if r374 < 65 then (if r374 < 48 then (if r374 = 95 then ((p_MoReader_symbol n r374).bind (fun r430 => if r430 = 0 then (some (0 : Int32)) else (p_MoPaper_plain_84_372 n kk nms_size nms_texted nms_text_n nms_text_f nms_from_n nms_from_f r1 kf372 (x5_372 + 1)))) else ((p_MoReader_symbol n r374).bind (fun r427 => if r427 = 0 then (some (0 : Int32)) else (p_MoPaper_plain_84_372 n kk nms_size nms_texted nms_text_n nms_text_f nms_from_n nms_from_f r1 kf372 (x5_372 + 1))))) else (if r374 ≤ 57 then ((p_MoReader_symbol n r374).bind (fun r434 => if r434 = 0 then (some (0 : Int32)) else (p_MoPaper_plain_84_372 n kk nms_size nms_texted nms_text_n nms_text_f nms_from_n nms_from_f r1 kf372 (x5_372 + 1)))) else (if r374 = 95 then ((p_MoReader_symbol n r374).bind (fun r441 => if r441 = 0 then (some (0 : Int32)) else (p_MoPaper_plain_84_372 n kk nms_size nms_texted nms_text_n nms_text_f nms_from_n nms_from_f r1 kf372 (x5_372 + 1)))) else ((p_MoReader_symbol n r374).bind (fun r438 => if r438 = 0 then (some (0 : Int32)) else (p_MoPaper_plain_84_372 n kk nms_size nms_texted nms_text_n nms_text_f nms_from_n nms_from_f r1 kf372 (x5_372 + 1))))))) else (if r374 ≤ 90 then ((p_MoReader_symbol n r374).bind (fun r445 => if r445 = 0 then (some (0 : Int32)) else (p_MoPaper_plain_84_372 n kk nms_size nms_texted nms_text_n nms_text_f nms_from_n nms_from_f r1 kf372 (x5_372 + 1)))) else (if r374 < 48 then (if r374 = 95 then ((p_MoReader_symbol n r374).bind (fun r453 => if r453 = 0 then (some (0 : Int32)) else (p_MoPaper_plain_84_372 n kk nms_size nms_texted nms_text_n nms_text_f nms_from_n nms_from_f r1 kf372 (x5_372 + 1)))) else ((p_MoReader_symbol n r374).bind (fun r450 => if r450 = 0 then (some (0 : Int32)) else (p_MoPaper_plain_84_372 n kk nms_size nms_texted nms_text_n nms_text_f nms_from_n nms_from_f r1 kf372 (x5_372 + 1))))) else (if r374 ≤ 57 then ((p_MoReader_symbol n r374).bind (fun r457 => if r457 = 0 then (some (0 : Int32)) else (p_MoPaper_plain_84_372 n kk nms_size nms_texted nms_text_n nms_text_f nms_from_n nms_from_f r1 kf372 (x5_372 + 1)))) else (if r374 = 95 then ((p_MoReader_symbol n r374).bind (fun r464 => if r464 = 0 then (some (0 : Int32)) else (p_MoPaper_plain_84_372 n kk nms_size nms_texted nms_text_n nms_text_f nms_from_n nms_from_f r1 kf372 (x5_372 + 1)))) else ((p_MoReader_symbol n r374).bind (fun r461 => if r461 = 0 then (some (0 : Int32)) else (p_MoPaper_plain_84_372 n kk nms_size nms_texted nms_text_n nms_text_f nms_from_n nms_from_f r1 kf372 (x5_372 + 1))))))))))))
def p_MoPaper_plain_84_466 (n : Nat) (kk : Int32) (nms_size : Int32) (nms_texted : Int32) (nms_text_n : Nat) (nms_text_f : Nat → Int32) (nms_from_n : Nat) (nms_from_f : Nat → Int32) (r1 : Int32) (kf466 : Nat) (x5_466 : Int32) : Option Int32 := match kf466 with
  | 0 => none
  | kf466 + 1 => if r1 ≤ x5_466 then (some (1 : Int32)) else ((p_MoNames_at kk x5_466 nms_size nms_texted nms_text_n nms_text_f nms_from_n nms_from_f).bind (fun r468 => if r468 < 97 then (if r468 < 65 then (if r468 < 48 then (if r468 = 95 then (p_MoPaper_plain_84_466 n kk nms_size nms_texted nms_text_n nms_text_f nms_from_n nms_from_f r1 kf466 (x5_466 + 1)) else (some (0 : Int32))) else (if r468 ≤ 57 then (p_MoPaper_plain_84_466 n kk nms_size nms_texted nms_text_n nms_text_f nms_from_n nms_from_f r1 kf466 (x5_466 + 1)) else (if r468 = 95 then (p_MoPaper_plain_84_466 n kk nms_size nms_texted nms_text_n nms_text_f nms_from_n nms_from_f r1 kf466 (x5_466 + 1)) else (some (0 : Int32))))) else (if r468 ≤ 90 then (p_MoPaper_plain_84_466 n kk nms_size nms_texted nms_text_n nms_text_f nms_from_n nms_from_f r1 kf466 (x5_466 + 1)) else (if r468 < 48 then (if r468 = 95 then (p_MoPaper_plain_84_466 n kk nms_size nms_texted nms_text_n nms_text_f nms_from_n nms_from_f r1 kf466 (x5_466 + 1)) else (some (0 : Int32))) else (if r468 ≤ 57 then (p_MoPaper_plain_84_466 n kk nms_size nms_texted nms_text_n nms_text_f nms_from_n nms_from_f r1 kf466 (x5_466 + 1)) else (if r468 = 95 then (p_MoPaper_plain_84_466 n kk nms_size nms_texted nms_text_n nms_text_f nms_from_n nms_from_f r1 kf466 (x5_466 + 1)) else (some (0 : Int32))))))) else (if r468 ≤ 122 then (p_MoPaper_plain_84_466 n kk nms_size nms_texted nms_text_n nms_text_f nms_from_n nms_from_f r1 kf466 (x5_466 + 1)) else (if r468 < 65 then (if r468 < 48 then (if r468 = 95 then (p_MoPaper_plain_84_466 n kk nms_size nms_texted nms_text_n nms_text_f nms_from_n nms_from_f r1 kf466 (x5_466 + 1)) else (some (0 : Int32))) else (if r468 ≤ 57 then (p_MoPaper_plain_84_466 n kk nms_size nms_texted nms_text_n nms_text_f nms_from_n nms_from_f r1 kf466 (x5_466 + 1)) else (if r468 = 95 then (p_MoPaper_plain_84_466 n kk nms_size nms_texted nms_text_n nms_text_f nms_from_n nms_from_f r1 kf466 (x5_466 + 1)) else (some (0 : Int32))))) else (if r468 ≤ 90 then (p_MoPaper_plain_84_466 n kk nms_size nms_texted nms_text_n nms_text_f nms_from_n nms_from_f r1 kf466 (x5_466 + 1)) else (if r468 < 48 then (if r468 = 95 then (p_MoPaper_plain_84_466 n kk nms_size nms_texted nms_text_n nms_text_f nms_from_n nms_from_f r1 kf466 (x5_466 + 1)) else (some (0 : Int32))) else (if r468 ≤ 57 then (p_MoPaper_plain_84_466 n kk nms_size nms_texted nms_text_n nms_text_f nms_from_n nms_from_f r1 kf466 (x5_466 + 1)) else (if r468 = 95 then (p_MoPaper_plain_84_466 n kk nms_size nms_texted nms_text_n nms_text_f nms_from_n nms_from_f r1 kf466 (x5_466 + 1)) else (some (0 : Int32))))))))))
def p_MoPaper_plain (n : Nat) (kk : Int32) (nms_size : Int32) (nms_texted : Int32) (nms_text_n : Nat) (nms_text_f : Nat → Int32) (nms_from_n : Nat) (nms_from_f : Nat → Int32) : Option Int32 := (p_MoNames_length kk nms_size nms_texted nms_from_n nms_from_f).bind (fun r1 => if r1 = 0 then (some (0 : Int32)) else ((p_MoNames_at kk (0 : Int32) nms_size nms_texted nms_text_n nms_text_f nms_from_n nms_from_f).bind (fun r3 => if r1 = 1 then (if r3 = 33 then (some (1 : Int32)) else (if r3 = 59 then (some (1 : Int32)) else ((p_MoNames_spells n kk 24 nms_size nms_texted nms_text_n nms_text_f nms_from_n nms_from_f).bind (fun r272 => if r272 = 0 then ((p_MoNames_spells n kk 23 nms_size nms_texted nms_text_n nms_text_f nms_from_n nms_from_f).bind (fun r274 => if r274 = 0 then (if r3 < 97 then (p_MoPaper_plain_84_277 n kk nms_size nms_texted nms_text_n nms_text_f nms_from_n nms_from_f r1 n (0 : Int32)) else (if 122 < r3 then (p_MoPaper_plain_84_372 n kk nms_size nms_texted nms_text_n nms_text_f nms_from_n nms_from_f r1 n (0 : Int32)) else (p_MoPaper_plain_84_466 n kk nms_size nms_texted nms_text_n nms_text_f nms_from_n nms_from_f r1 n (0 : Int32)))) else (some (0 : Int32)))) else (some (1 : Int32)))))) else ((p_MoNames_spells n kk 24 nms_size nms_texted nms_text_n nms_text_f nms_from_n nms_from_f).bind (fun r5 => if r5 = 0 then ((p_MoNames_spells n kk 23 nms_size nms_texted nms_text_n nms_text_f nms_from_n nms_from_f).bind (fun r7 => if r7 = 0 then (if r3 < 97 then (p_MoPaper_plain_84 n kk nms_size nms_texted nms_text_n nms_text_f nms_from_n nms_from_f r1 n (0 : Int32)) else (if 122 < r3 then (p_MoPaper_plain_84_105 n kk nms_size nms_texted nms_text_n nms_text_f nms_from_n nms_from_f r1 n (0 : Int32)) else (p_MoPaper_plain_84_199 n kk nms_size nms_texted nms_text_n nms_text_f nms_from_n nms_from_f r1 n (0 : Int32)))) else (some (0 : Int32)))) else (some (1 : Int32)))))))
set_option maxHeartbeats 40000000 in
set_option maxRecDepth 100000 in
theorem c_MoPaper_plain (l : Launch) (g : va_G) (cs : Nat → ClassId) (ka : Nat → Nat) (nms_next : Nat) (nms_first : Nat) (nms nms_text nms_from : Nat) (sz : Nat) (n : Nat) (kk : Int32) (nms_size : Int32) (nms_texted : Int32) (nms_text_n : Nat) (nms_text_f : Nat → Int32) (nms_from_n : Nat) (nms_from_f : Nat → Int32) (r : Int32) (hok : p_MoPaper_plain n kk nms_size nms_texted nms_text_n nms_text_f nms_from_n nms_from_f = some r) : Met l y_MoPaper_plain (.code y_MoPaper_plain b_MoPaper_plain 8 (some .boolean) :: GW) { frames := 5, cells := 0, slots := 0, locals := 111 } (va_Pc [.ref nms, .int kk] (gP g cs ka [(nms, .inr (10, [.ref nms_text, .ref nms_from, .ref nms_next, .ref nms_first, .int nms_size, .int nms_texted])), (nms_text, .inl (cs 1, nms_text_n, .inl nms_text_f)), (nms_from, .inl (cs 0, nms_from_n, .inl nms_from_f))] sz)) (va_Qi (fun (r' : Int32) (_ : Unit) => r = r') (fun _ t => va_P g classes [(nms, .inr (10, [.ref nms_text, .ref nms_from, .ref nms_next, .ref nms_first, .int nms_size, .int nms_texted])), (nms_text, .inl (cs 1, nms_text_n, .inl nms_text_f)), (nms_from, .inl (cs 0, nms_from_n, .inl nms_from_f))] t.heap ∧ va_D (va_A [(nms, .inr (10, [.ref nms_text, .ref nms_from, .ref nms_next, .ref nms_first, .int nms_size, .int nms_texted])), (nms_text, .inl (cs 1, nms_text_n, .inl nms_text_f)), (nms_from, .inl (cs 0, nms_from_n, .inl nms_from_f))] sz) [(nms, .inr (10, [.ref nms_text, .ref nms_from, .ref nms_next, .ref nms_first, .int nms_size, .int nms_texted])), (nms_text, .inl (cs 1, nms_text_n, .inl nms_text_f)), (nms_from, .inl (cs 0, nms_from_n, .inl nms_from_f))]) (va_A [(nms, .inr (10, [.ref nms_text, .ref nms_from, .ref nms_next, .ref nms_first, .int nms_size, .int nms_texted])), (nms_text, .inl (cs 1, nms_text_n, .inl nms_text_f)), (nms_from, .inl (cs 0, nms_from_n, .inl nms_from_f))] sz)) 0 0 (va_A [(nms, .inr (10, [.ref nms_text, .ref nms_from, .ref nms_next, .ref nms_first, .int nms_size, .int nms_texted])), (nms_text, .inl (cs 1, nms_text_n, .inl nms_text_f)), (nms_from, .inl (cs 0, nms_from_n, .inl nms_from_f))] sz) := by
  refine Met.ofW (cc := b_MoPaper_plain) (maxL := 8) (ret := (some .boolean)) (by decide) rfl ?_
  intro p e s m args below meth c s₁ B hml hv
  obtain ⟨rfl, hsz, hP, hK, hD0, hgl, hkn, hkr⟩ := hv
  have hx := B.exec
  have hb := B.bytes
  have hr := B.returns
  have hg : ∀ w ∈ GW, w.before ([.ref nms, .int kk] : List Value).toArray s = true := fun w hw => atoms_spec (ws := .code y_MoPaper_plain b_MoPaper_plain 8 (some .boolean) :: GW) B.pre w (List.mem_cons_of_mem _ hw)
  have hown : s.vm.findClass R_MoPaper = some m.cls := findClass_of_methodNamed B.named
  have hlocks := B.notSynchronized
  subst hsz
  have hD := hD0.self (sz := s.heap.size)
  generalize hAe : va_A [(nms, .inr (10, [.ref nms_text, .ref nms_from, .ref nms_next, .ref nms_first, .int nms_size, .int nms_texted])), (nms_text, .inl (cs 1, nms_text_n, .inl nms_text_f)), (nms_from, .inl (cs 0, nms_from_n, .inl nms_from_f))] s.heap.size = A at hD hkn ⊢
  have hA : ∀ q : Nat, s.heap.size ≤ q → A q := fun q h => by rw [← hAe]; exact Or.inr h
  have hS : va_S A s.heap s.heap [] := va_S.rf
  have hP : va_P g classes [(nms, .inr (10, [.ref nms_text, .ref nms_from, .ref nms_next, .ref nms_first, .int nms_size, .int nms_texted])), (nms_text, .inl (cs 1, nms_text_n, .inl nms_text_f)), (nms_from, .inl (cs 0, nms_from_n, .inl nms_from_f))] s.heap := hP
  have hl := lv_entry ([.ref nms, .int kk]) (n := 8) (Nat.le_of_ble_eq_true rfl)
  rw [lg_entry_eq]
  generalize (lg_sl ([.ref nms, .int kk]) ++ List.replicate (8 - (lg_sl ([.ref nms, .int kk])).length) Slot.unset).toArray = ls at hl ⊢
  have hl : lv_has ls 8 [(0, .ref nms), (1, .int kk)] := hl
  refine gq (fun Q hQ => ?_)
  obtain ⟨H, hH⟩ : ∃ H : Heap, H = s.heap := ⟨_, rfl⟩
  rw [← hH] at hP
  have hS : va_S A s.heap H [] := by rw [hH]; exact hS
  refine W.eqH hH ?_
  obtain ⟨locs, hlc⟩ : ∃ L : List Loc, L = [] := ⟨_, rfl⟩
  rw [← hlc] at hS ⊢
  unfold p_MoPaper_plain at hok
  refine lv_aload_n hx hb d_MoPaper_plain_0 rfl (lv_at hl 0 rfl) ?_
  refine lv_iload_n hx hb d_MoPaper_plain_1 rfl (lv_at hl 1 rfl) ?_
  obtain ⟨r1, hc1, hok⟩ := bd_some hok
  obtain ⟨hPc, hDc, hFc⟩ := cut0 (wc := [(nms, .inr (10, [.ref nms_text, .ref nms_from, .ref nms_next, .ref nms_first, .int nms_size, .int nms_texted])), (nms_from, .inl (cs 0, nms_from_n, .inl nms_from_f))]) hP hD hS hA [0, 2] (by decide) rfl
  refine va_calli (va_runV (As := [.int kk]) (rest := []) ⟨hx, hb, hml, hown, hg⟩ (c_MoNames_length l g cs ka nms_text nms_next nms_first nms nms_from H.size kk nms_size nms_texted nms_from_n nms_from_f r1 hc1) (cwV (C := R_MoNames) 1 hg (gw_V wd_747 wd_723 wd_724 wd_717 wd_721) rfl rfl rfl (by decide +kernel) ⟨Nat.le_of_ble_eq_true rfl, Nat.le_of_ble_eq_true rfl⟩) ⟨gP_blind, va_recv (q0 := 0) (ci := 10) (q := (R_MoNames, F_MoNames, 6)) hK hP rfl rfl, gP_pre hPc hDc hK hgl hkn hkr hS hFc⟩ rfl rfl hl.1 rfl (lv_room (Nat.le_of_ble_eq_true rfl)) d_MoPaper_plain_2 ⟨Nat.le_of_ble_eq_true rfl, Nat.le_of_ble_eq_true rfl⟩) hS (fun q _ h => hFc q h) hFc (fun r1' u t H locs ht hvm hr1 hB hz1 hk1 hS => ?_)
  subst hr1
  rw [ht] at hB
  obtain ⟨hP1, hD1⟩ := hB
  obtain ⟨hP, hD⟩ := jn_A hP hD [0, 2] [1] rfl rfl (by decide) (by decide) hk1 hFc hP1 hD1
  obtain ⟨hP, hD⟩ : PD g A H [(nms_text, .inl (cs 1, nms_text_n, .inl nms_text_f)), (nms, .inr (10, [.ref nms_text, .ref nms_from, .ref nms_next, .ref nms_first, .int nms_size, .int nms_texted])), (nms_from, .inl (cs 0, nms_from_n, .inl nms_from_f))] := ⟨hP, hD⟩
  refine lv_istore_n hx hb d_MoPaper_plain_5 rfl hl (by decide) rfl (fun ls hl => ?_)
  have hl : lv_has ls 8 [(2, .int r1), (0, .ref nms), (1, .int kk)] := hl
  refine lv_iload_n hx hb d_MoPaper_plain_6 rfl (lv_at hl 0 rfl) ?_
  refine lv_if_ne hx hb d_MoPaper_plain_7 rfl (fun h2 => ?_) (fun h2 => ?_)
  · rw [if_neg h2] at hok
    refine lv_aload_n hx hb d_MoPaper_plain_12 rfl (lv_at hl 1 rfl) ?_
    refine lv_iload_n hx hb d_MoPaper_plain_13 rfl (lv_at hl 2 rfl) ?_
    refine lv_iconst (v := 0) hx hb d_MoPaper_plain_14 (by decide) ?_
    obtain ⟨r3, hc3, hok⟩ := bd_some hok
    obtain ⟨hPc, hDc, hFc⟩ := cut0 (wc := [(nms, .inr (10, [.ref nms_text, .ref nms_from, .ref nms_next, .ref nms_first, .int nms_size, .int nms_texted])), (nms_text, .inl (cs 1, nms_text_n, .inl nms_text_f)), (nms_from, .inl (cs 0, nms_from_n, .inl nms_from_f))]) hP hD hS hA [1, 0, 2] (by decide) rfl
    refine va_calli (va_runV (As := [.int kk, .int 0]) (rest := []) ⟨hx, hb, hml, hown, hg⟩ (c_MoNames_at l g cs ka nms_next nms_first nms nms_text nms_from H.size kk (0 : Int32) nms_size nms_texted nms_text_n nms_text_f nms_from_n nms_from_f r3 hc3) (cwV (C := R_MoNames) 2 hg (gw_V wd_748 wd_728 wd_729 wd_717 wd_726) rfl rfl rfl (by decide +kernel) ⟨Nat.le_of_ble_eq_true rfl, Nat.le_of_ble_eq_true rfl⟩) ⟨gP_blind, va_recv (q0 := 1) (ci := 10) (q := (R_MoNames, F_MoNames, 6)) hK hP rfl rfl, gP_pre hPc hDc hK hgl hkn hkr hS hFc⟩ rfl rfl hl.1 rfl (lv_room (Nat.le_of_ble_eq_true rfl)) d_MoPaper_plain_15 ⟨Nat.le_of_ble_eq_true rfl, Nat.le_of_ble_eq_true rfl⟩) hS (fun q _ h => hFc q h) hFc (fun r3' u t H locs ht hvm hr3 hB hz1 hk1 hS => ?_)
    subst hr3
    rw [ht] at hB
    obtain ⟨hP1, hD1⟩ := hB
    obtain ⟨hP, hD⟩ := jn_A hP hD [1, 0, 2] [] rfl rfl (by decide) (by decide) hk1 hFc hP1 hD1
    obtain ⟨hP, hD⟩ : PD g A H [(nms, .inr (10, [.ref nms_text, .ref nms_from, .ref nms_next, .ref nms_first, .int nms_size, .int nms_texted])), (nms_text, .inl (cs 1, nms_text_n, .inl nms_text_f)), (nms_from, .inl (cs 0, nms_from_n, .inl nms_from_f))] := ⟨hP, hD⟩
    refine lv_istore_n hx hb d_MoPaper_plain_18 rfl hl (by decide) rfl (fun ls hl => ?_)
    have hl : lv_has ls 8 [(3, .int r3), (2, .int r1), (0, .ref nms), (1, .int kk)] := hl
    refine lv_iload_n hx hb d_MoPaper_plain_19 rfl (lv_at hl 1 rfl) ?_
    refine lv_iconst (v := 1) hx hb d_MoPaper_plain_20 (by decide) ?_
    refine lv_icmp_ne hx hb d_MoPaper_plain_21 rfl (fun h4 => ?_) (fun h4 => ?_)
    · rw [if_neg h4] at hok
      refine lv_aload_n hx hb d_MoPaper_plain_38 rfl (lv_at hl 2 rfl) ?_
      refine lv_iload_n hx hb d_MoPaper_plain_39 rfl (lv_at hl 3 rfl) ?_
      refine va_ldcS hx hb hown (hkr.1 _ (List.mem_of_getElem? (i := 25) rfl)) d_MoPaper_plain_40 ?_
      obtain ⟨r5, hc5, hok⟩ := bd_some hok
      obtain ⟨hPc, hDc, hFc⟩ := cut0 (wc := [(nms, .inr (10, [.ref nms_text, .ref nms_from, .ref nms_next, .ref nms_first, .int nms_size, .int nms_texted])), (nms_text, .inl (cs 1, nms_text_n, .inl nms_text_f)), (nms_from, .inl (cs 0, nms_from_n, .inl nms_from_f))]) hP hD hS hA [0, 1, 2] (by decide) rfl
      refine va_calli (va_runV (As := [.int kk, .ref (ka (200 + 24))]) (rest := []) ⟨hx, hb, hml, hown, hg⟩ (c_MoNames_spells l g cs ka nms_next nms_first nms nms_text nms_from H.size n kk 24 nms_size nms_texted nms_text_n nms_text_f nms_from_n nms_from_f r5 hc5) (cwV (C := R_MoNames) 2 hg (gw_V wd_750 wd_751 wd_752 wd_717 wd_749) rfl rfl rfl (by decide +kernel) ⟨Nat.le_of_ble_eq_true rfl, Nat.le_of_ble_eq_true rfl⟩) ⟨gP_blind, va_recv (q0 := 0) (ci := 10) (q := (R_MoNames, F_MoNames, 6)) hK hP rfl rfl, gP_pre hPc hDc hK hgl hkn hkr hS hFc⟩ rfl rfl hl.1 rfl (lv_room (Nat.le_of_ble_eq_true rfl)) d_MoPaper_plain_42 ⟨Nat.le_of_ble_eq_true rfl, Nat.le_of_ble_eq_true rfl⟩) hS (fun q _ h => hFc q h) hFc (fun r5' u t H locs ht hvm hr5 hB hz1 hk1 hS => ?_)
      subst hr5
      rw [ht] at hB
      obtain ⟨hP1, hD1⟩ := hB
      obtain ⟨hP, hD⟩ := jn_A hP hD [0, 1, 2] [] rfl rfl (by decide) (by decide) hk1 hFc hP1 hD1
      obtain ⟨hP, hD⟩ : PD g A H [(nms, .inr (10, [.ref nms_text, .ref nms_from, .ref nms_next, .ref nms_first, .int nms_size, .int nms_texted])), (nms_text, .inl (cs 1, nms_text_n, .inl nms_text_f)), (nms_from, .inl (cs 0, nms_from_n, .inl nms_from_f))] := ⟨hP, hD⟩
      refine lv_if_eq hx hb d_MoPaper_plain_45 rfl (fun h6 => ?_) (fun h6 => ?_)
      · rw [if_pos h6] at hok
        refine lv_aload_n hx hb d_MoPaper_plain_50 rfl (lv_at hl 2 rfl) ?_
        refine lv_iload_n hx hb d_MoPaper_plain_51 rfl (lv_at hl 3 rfl) ?_
        refine va_ldcS hx hb hown (hkr.1 _ (List.mem_of_getElem? (i := 24) rfl)) d_MoPaper_plain_52 ?_
        obtain ⟨r7, hc7, hok⟩ := bd_some hok
        obtain ⟨hPc, hDc, hFc⟩ := cut0 (wc := [(nms, .inr (10, [.ref nms_text, .ref nms_from, .ref nms_next, .ref nms_first, .int nms_size, .int nms_texted])), (nms_text, .inl (cs 1, nms_text_n, .inl nms_text_f)), (nms_from, .inl (cs 0, nms_from_n, .inl nms_from_f))]) hP hD hS hA [0, 1, 2] (by decide) rfl
        refine va_calli (va_runV (As := [.int kk, .ref (ka (200 + 23))]) (rest := []) ⟨hx, hb, hml, hown, hg⟩ (c_MoNames_spells l g cs ka nms_next nms_first nms nms_text nms_from H.size n kk 23 nms_size nms_texted nms_text_n nms_text_f nms_from_n nms_from_f r7 hc7) (cwV (C := R_MoNames) 2 hg (gw_V wd_750 wd_751 wd_752 wd_717 wd_749) rfl rfl rfl (by decide +kernel) ⟨Nat.le_of_ble_eq_true rfl, Nat.le_of_ble_eq_true rfl⟩) ⟨gP_blind, va_recv (q0 := 0) (ci := 10) (q := (R_MoNames, F_MoNames, 6)) hK hP rfl rfl, gP_pre hPc hDc hK hgl hkn hkr hS hFc⟩ rfl rfl hl.1 rfl (lv_room (Nat.le_of_ble_eq_true rfl)) d_MoPaper_plain_54 ⟨Nat.le_of_ble_eq_true rfl, Nat.le_of_ble_eq_true rfl⟩) hS (fun q _ h => hFc q h) hFc (fun r7' u t H locs ht hvm hr7 hB hz1 hk1 hS => ?_)
        subst hr7
        rw [ht] at hB
        obtain ⟨hP1, hD1⟩ := hB
        obtain ⟨hP, hD⟩ := jn_A hP hD [0, 1, 2] [] rfl rfl (by decide) (by decide) hk1 hFc hP1 hD1
        obtain ⟨hP, hD⟩ : PD g A H [(nms, .inr (10, [.ref nms_text, .ref nms_from, .ref nms_next, .ref nms_first, .int nms_size, .int nms_texted])), (nms_text, .inl (cs 1, nms_text_n, .inl nms_text_f)), (nms_from, .inl (cs 0, nms_from_n, .inl nms_from_f))] := ⟨hP, hD⟩
        refine lv_if_eq hx hb d_MoPaper_plain_57 rfl (fun h8 => ?_) (fun h8 => ?_)
        · rw [if_pos h8] at hok
          refine lv_iload_n hx hb d_MoPaper_plain_62 rfl (lv_at hl 0 rfl) ?_
          refine lv_bipush (v := 97) hx hb d_MoPaper_plain_63 (by decide) ?_
          refine lv_icmp_lt hx hb d_MoPaper_plain_65 rfl (fun h9 => ?_) (fun h9 => ?_)
          · rw [if_pos h9] at hok
            refine lv_iconst (v := 0) hx hb d_MoPaper_plain_78 (by decide) ?_
            refine lv_istore hx hb d_MoPaper_plain_79 hl (by decide) rfl (fun ls hl => ?_)
            have hl : lv_has ls 8 [(4, .int 0), (3, .int r3), (2, .int r1), (0, .ref nms), (1, .int kk)] := hl
            refine lv_iconst (v := 0) hx hb d_MoPaper_plain_81 (by decide) ?_
            refine lv_istore hx hb d_MoPaper_plain_82 hl (by decide) rfl (fun ls hl => ?_)
            have hl : lv_has ls 8 [(5, .int 0), (4, .int 0), (3, .int r3), (2, .int r1), (0, .ref nms), (1, .int kk)] := hl
            have J10 : ∀ (kf10 : Nat) (H : Heap) (locs : List Loc) (ls : Array Slot) (x5_10 : Int32), lv_has ls 8 [(5, .int x5_10), (4, .int 0), (3, .int r3), (2, .int r1), (0, .ref nms), (1, .int kk)] → PD g A H [(nms, .inr (10, [.ref nms_text, .ref nms_from, .ref nms_next, .ref nms_first, .int nms_size, .int nms_texted])), (nms_text, .inl (cs 1, nms_text_n, .inl nms_text_f)), (nms_from, .inl (cs 0, nms_from_n, .inl nms_from_f))] → va_S A s.heap H locs → p_MoPaper_plain_84 n kk nms_size nms_texted nms_text_n nms_text_f nms_from_n nms_from_f r1 kf10 x5_10 = some r → W p l e (headSpec (.code y_MoPaper_plain b_MoPaper_plain 8 (some .boolean) :: GW) { frames := 5, cells := 0, slots := 0, locals := 111 }).room s m ([.ref nms, .int kk] : List Value).toArray below meth c H locs 0 0 Q (F0 m 84 ls []) := by
              intro kf10
              induction kf10 with
              | zero => intro H locs ls x5_10 hl ⟨hP, hD⟩ hS hok; rw [p_MoPaper_plain_84] at hok; cases hok
              | succ kf10 ih10 =>
                intro H locs ls x5_10 hl ⟨hP, hD⟩ hS hok
                rw [p_MoPaper_plain_84] at hok
                refine lv_iload hx hb d_MoPaper_plain_84 (lv_at hl 0 rfl) ?_
                refine lv_iload_n hx hb d_MoPaper_plain_86 rfl (lv_at hl 3 rfl) ?_
                refine lv_icmp_ge hx hb d_MoPaper_plain_87 rfl (fun h11 => ?_) (fun h11 => ?_)
                · rw [if_pos h11] at hok
                  refine lv_iconst (v := 1) hx hb d_MoPaper_plain_184 (by decide) ?_
                  have hq := Option.some.inj hok
                  have hq0 := hq
                  subst hq0
                  obtain ⟨hP9, hD9⟩ := sub2 (ws' := [(nms, .inr (10, [.ref nms_text, .ref nms_from, .ref nms_next, .ref nms_first, .int nms_size, .int nms_texted])), (nms_text, .inl (cs 1, nms_text_n, .inl nms_text_f)), (nms_from, .inl (cs 0, nms_from_n, .inl nms_from_f))]) hP hD [0, 1, 2] rfl (by decide) rfl
                  rw [hQ]
                  exact W.zret (v := 1) hx hb hr rfl (fun t ht hW => ⟨⟨_, (), rfl, rfl, by rw [ht]; exact hP9, hD9⟩, hS.F ht⟩) hS.2.2 d_MoPaper_plain_185
                · rw [if_neg h11] at hok
                  refine lv_aload_n hx hb d_MoPaper_plain_90 rfl (lv_at hl 4 rfl) ?_
                  refine lv_iload_n hx hb d_MoPaper_plain_91 rfl (lv_at hl 5 rfl) ?_
                  refine lv_iload hx hb d_MoPaper_plain_92 (lv_at hl 0 rfl) ?_
                  obtain ⟨r12, hc12, hok⟩ := bd_some hok
                  obtain ⟨hPc, hDc, hFc⟩ := cut0 (wc := [(nms, .inr (10, [.ref nms_text, .ref nms_from, .ref nms_next, .ref nms_first, .int nms_size, .int nms_texted])), (nms_text, .inl (cs 1, nms_text_n, .inl nms_text_f)), (nms_from, .inl (cs 0, nms_from_n, .inl nms_from_f))]) hP hD hS hA [0, 1, 2] (by decide) rfl
                  refine va_calli (va_runV (As := [.int kk, .int x5_10]) (rest := []) ⟨hx, hb, hml, hown, hg⟩ (c_MoNames_at l g cs ka nms_next nms_first nms nms_text nms_from H.size kk x5_10 nms_size nms_texted nms_text_n nms_text_f nms_from_n nms_from_f r12 hc12) (cwV (C := R_MoNames) 2 hg (gw_V wd_748 wd_728 wd_729 wd_717 wd_726) rfl rfl rfl (by decide +kernel) ⟨Nat.le_of_ble_eq_true rfl, Nat.le_of_ble_eq_true rfl⟩) ⟨gP_blind, va_recv (q0 := 0) (ci := 10) (q := (R_MoNames, F_MoNames, 6)) hK hP rfl rfl, gP_pre hPc hDc hK hgl hkn hkr hS hFc⟩ rfl rfl hl.1 rfl (lv_room (Nat.le_of_ble_eq_true rfl)) d_MoPaper_plain_94 ⟨Nat.le_of_ble_eq_true rfl, Nat.le_of_ble_eq_true rfl⟩) hS (fun q _ h => hFc q h) hFc (fun r12' u t H locs ht hvm hr12 hB hz1 hk1 hS => ?_)
                  subst hr12
                  rw [ht] at hB
                  obtain ⟨hP1, hD1⟩ := hB
                  obtain ⟨hP, hD⟩ := jn_A hP hD [0, 1, 2] [] rfl rfl (by decide) (by decide) hk1 hFc hP1 hD1
                  obtain ⟨hP, hD⟩ : PD g A H [(nms, .inr (10, [.ref nms_text, .ref nms_from, .ref nms_next, .ref nms_first, .int nms_size, .int nms_texted])), (nms_text, .inl (cs 1, nms_text_n, .inl nms_text_f)), (nms_from, .inl (cs 0, nms_from_n, .inl nms_from_f))] := ⟨hP, hD⟩
                  refine lv_istore hx hb d_MoPaper_plain_97 hl (by decide) rfl (fun ls hl => ?_)
                  have hl : lv_has ls 8 [(6, .int r12), (5, .int x5_10), (4, .int 0), (3, .int r3), (2, .int r1), (0, .ref nms), (1, .int kk)] := hl
                  refine lv_iload hx hb d_MoPaper_plain_99 (lv_at hl 0 rfl) ?_
                  refine lv_bipush (v := 97) hx hb d_MoPaper_plain_101 (by decide) ?_
                  refine lv_icmp_lt hx hb d_MoPaper_plain_103 rfl (fun h13 => ?_) (fun h13 => ?_)
                  · rw [if_pos h13] at hok
                    refine lv_iload hx hb d_MoPaper_plain_113 (lv_at hl 0 rfl) ?_
                    refine lv_bipush (v := 65) hx hb d_MoPaper_plain_115 (by decide) ?_
                    refine lv_icmp_lt hx hb d_MoPaper_plain_117 rfl (fun h14 => ?_) (fun h14 => ?_)
                    · rw [if_pos h14] at hok
                      refine lv_iload hx hb d_MoPaper_plain_127 (lv_at hl 0 rfl) ?_
                      refine lv_bipush (v := 48) hx hb d_MoPaper_plain_129 (by decide) ?_
                      refine lv_icmp_lt hx hb d_MoPaper_plain_131 rfl (fun h15 => ?_) (fun h15 => ?_)
                      · rw [if_pos h15] at hok
                        refine lv_iload hx hb d_MoPaper_plain_141 (lv_at hl 0 rfl) ?_
                        refine lv_bipush (v := 95) hx hb d_MoPaper_plain_143 (by decide) ?_
                        refine lv_icmp_ne hx hb d_MoPaper_plain_145 rfl (fun h16 => ?_) (fun h16 => ?_)
                        · rw [if_neg h16] at hok
                          refine lv_iconst (v := 0) hx hb d_MoPaper_plain_152 (by decide) ?_
                          refine lv_istore hx hb d_MoPaper_plain_153 hl (by decide) rfl (fun ls hl => ?_)
                          have hl : lv_has ls 8 [(7, .int 0), (6, .int r12), (5, .int x5_10), (4, .int 0), (3, .int r3), (2, .int r1), (0, .ref nms), (1, .int kk)] := hl
                          refine lv_iload hx hb d_MoPaper_plain_155 (lv_at hl 3 rfl) ?_
                          refine lv_if_eq hx hb d_MoPaper_plain_157 rfl (fun h17 => ?_) (fun h17 => ?_)
                          · refine lv_iload hx hb d_MoPaper_plain_168 (lv_at hl 1 rfl) ?_
                            obtain ⟨r18, hc18, hok⟩ := bd_some hok
                            obtain ⟨hPc, hDc, hFc⟩ := cut0 (wc := []) hP hD hS hA [] (by decide) rfl
                            refine va_calli (va_runS (As := [.int r12]) (rest := []) ⟨hx, hb, hml, hown, hg⟩ (c_MoReader_symbol l g cs ka H.size n r12 r18 hc18) (va_cwS 1 hg (gw_S wd_755 wd_756 wd_754 wd_753) rfl rfl rfl (by decide +kernel) ⟨Nat.le_of_ble_eq_true rfl, Nat.le_of_ble_eq_true rfl⟩) ⟨gP_blind, gP_pre hPc hDc hK hgl hkn hkr hS hFc⟩ rfl rfl hl.1 rfl (lv_room (Nat.le_of_ble_eq_true rfl)) d_MoPaper_plain_170 ⟨Nat.le_of_ble_eq_true rfl, Nat.le_of_ble_eq_true rfl⟩) hS (fun q _ h => hFc q h) hFc (fun r18' u t H locs ht hvm hr18 hB hz1 hk1 hS => ?_)
                            subst hr18
                            rw [ht] at hB
                            obtain ⟨hP1, hD1⟩ := hB
                            obtain ⟨hP, hD⟩ := jn_A hP hD [] [0, 1, 2] rfl rfl (by decide) (by decide) hk1 hFc hP1 hD1
                            obtain ⟨hP, hD⟩ : PD g A H [(nms, .inr (10, [.ref nms_text, .ref nms_from, .ref nms_next, .ref nms_first, .int nms_size, .int nms_texted])), (nms_text, .inl (cs 1, nms_text_n, .inl nms_text_f)), (nms_from, .inl (cs 0, nms_from_n, .inl nms_from_f))] := ⟨hP, hD⟩
                            refine lv_if_ne hx hb d_MoPaper_plain_173 rfl (fun h19 => ?_) (fun h19 => ?_)
                            · rw [if_neg h19] at hok
                              refine lv_iinc (k := 2) (v := x5_10 + 1) hx hb d_MoPaper_plain_178 hl rfl rfl (by decide) rfl (fun ls hl => ?_)
                              have hl : lv_has ls 8 [(5, .int (x5_10 + 1)), (7, .int 0), (6, .int r12), (4, .int 0), (3, .int r3), (2, .int r1), (0, .ref nms), (1, .int kk)] := hl
                              refine lv_goto hx hb d_MoPaper_plain_181 rfl ?_
                              exact ih10 _ _ _ (x5_10 + 1) (lv_sub hl [0, 3, 4, 5, 6, 7] rfl) (sub3 hP hD [0, 1, 2] (by decide)) hS hok
                            · rw [if_pos h19] at hok
                              refine lv_iconst (v := 0) hx hb d_MoPaper_plain_176 (by decide) ?_
                              have hq := Option.some.inj hok
                              have hq0 := hq
                              subst hq0
                              obtain ⟨hP9, hD9⟩ := sub2 (ws' := [(nms, .inr (10, [.ref nms_text, .ref nms_from, .ref nms_next, .ref nms_first, .int nms_size, .int nms_texted])), (nms_text, .inl (cs 1, nms_text_n, .inl nms_text_f)), (nms_from, .inl (cs 0, nms_from_n, .inl nms_from_f))]) hP hD [0, 1, 2] rfl (by decide) rfl
                              rw [hQ]
                              exact W.zret (v := 0) hx hb hr rfl (fun t ht hW => ⟨⟨_, (), rfl, rfl, by rw [ht]; exact hP9, hD9⟩, hS.F ht⟩) hS.2.2 d_MoPaper_plain_177
                          · exact absurd h17 (by decide)
                        · rw [if_pos h16] at hok
                          refine lv_iconst (v := 1) hx hb d_MoPaper_plain_148 (by decide) ?_
                          refine lv_goto hx hb d_MoPaper_plain_149 rfl ?_
                          refine lv_istore hx hb d_MoPaper_plain_153 hl (by decide) rfl (fun ls hl => ?_)
                          have hl : lv_has ls 8 [(7, .int 1), (6, .int r12), (5, .int x5_10), (4, .int 0), (3, .int r3), (2, .int r1), (0, .ref nms), (1, .int kk)] := hl
                          refine lv_iload hx hb d_MoPaper_plain_155 (lv_at hl 3 rfl) ?_
                          refine lv_if_eq hx hb d_MoPaper_plain_157 rfl (fun h20 => ?_) (fun h20 => ?_)
                          · refine lv_iload hx hb d_MoPaper_plain_168 (lv_at hl 1 rfl) ?_
                            obtain ⟨r21, hc21, hok⟩ := bd_some hok
                            obtain ⟨hPc, hDc, hFc⟩ := cut0 (wc := []) hP hD hS hA [] (by decide) rfl
                            refine va_calli (va_runS (As := [.int r12]) (rest := []) ⟨hx, hb, hml, hown, hg⟩ (c_MoReader_symbol l g cs ka H.size n r12 r21 hc21) (va_cwS 1 hg (gw_S wd_755 wd_756 wd_754 wd_753) rfl rfl rfl (by decide +kernel) ⟨Nat.le_of_ble_eq_true rfl, Nat.le_of_ble_eq_true rfl⟩) ⟨gP_blind, gP_pre hPc hDc hK hgl hkn hkr hS hFc⟩ rfl rfl hl.1 rfl (lv_room (Nat.le_of_ble_eq_true rfl)) d_MoPaper_plain_170 ⟨Nat.le_of_ble_eq_true rfl, Nat.le_of_ble_eq_true rfl⟩) hS (fun q _ h => hFc q h) hFc (fun r21' u t H locs ht hvm hr21 hB hz1 hk1 hS => ?_)
                            subst hr21
                            rw [ht] at hB
                            obtain ⟨hP1, hD1⟩ := hB
                            obtain ⟨hP, hD⟩ := jn_A hP hD [] [0, 1, 2] rfl rfl (by decide) (by decide) hk1 hFc hP1 hD1
                            obtain ⟨hP, hD⟩ : PD g A H [(nms, .inr (10, [.ref nms_text, .ref nms_from, .ref nms_next, .ref nms_first, .int nms_size, .int nms_texted])), (nms_text, .inl (cs 1, nms_text_n, .inl nms_text_f)), (nms_from, .inl (cs 0, nms_from_n, .inl nms_from_f))] := ⟨hP, hD⟩
                            refine lv_if_ne hx hb d_MoPaper_plain_173 rfl (fun h22 => ?_) (fun h22 => ?_)
                            · rw [if_neg h22] at hok
                              refine lv_iinc (k := 2) (v := x5_10 + 1) hx hb d_MoPaper_plain_178 hl rfl rfl (by decide) rfl (fun ls hl => ?_)
                              have hl : lv_has ls 8 [(5, .int (x5_10 + 1)), (7, .int 1), (6, .int r12), (4, .int 0), (3, .int r3), (2, .int r1), (0, .ref nms), (1, .int kk)] := hl
                              refine lv_goto hx hb d_MoPaper_plain_181 rfl ?_
                              exact ih10 _ _ _ (x5_10 + 1) (lv_sub hl [0, 3, 4, 5, 6, 7] rfl) (sub3 hP hD [0, 1, 2] (by decide)) hS hok
                            · rw [if_pos h22] at hok
                              refine lv_iconst (v := 0) hx hb d_MoPaper_plain_176 (by decide) ?_
                              have hq := Option.some.inj hok
                              have hq0 := hq
                              subst hq0
                              obtain ⟨hP9, hD9⟩ := sub2 (ws' := [(nms, .inr (10, [.ref nms_text, .ref nms_from, .ref nms_next, .ref nms_first, .int nms_size, .int nms_texted])), (nms_text, .inl (cs 1, nms_text_n, .inl nms_text_f)), (nms_from, .inl (cs 0, nms_from_n, .inl nms_from_f))]) hP hD [0, 1, 2] rfl (by decide) rfl
                              rw [hQ]
                              exact W.zret (v := 0) hx hb hr rfl (fun t ht hW => ⟨⟨_, (), rfl, rfl, by rw [ht]; exact hP9, hD9⟩, hS.F ht⟩) hS.2.2 d_MoPaper_plain_177
                          · exact absurd h20 (by decide)
                      · rw [if_neg h15] at hok
                        refine lv_iload hx hb d_MoPaper_plain_134 (lv_at hl 0 rfl) ?_
                        refine lv_bipush (v := 57) hx hb d_MoPaper_plain_136 (by decide) ?_
                        refine lv_icmp_le hx hb d_MoPaper_plain_138 rfl (fun h23 => ?_) (fun h23 => ?_)
                        · rw [if_pos h23] at hok
                          refine lv_iconst (v := 1) hx hb d_MoPaper_plain_148 (by decide) ?_
                          refine lv_goto hx hb d_MoPaper_plain_149 rfl ?_
                          refine lv_istore hx hb d_MoPaper_plain_153 hl (by decide) rfl (fun ls hl => ?_)
                          have hl : lv_has ls 8 [(7, .int 1), (6, .int r12), (5, .int x5_10), (4, .int 0), (3, .int r3), (2, .int r1), (0, .ref nms), (1, .int kk)] := hl
                          refine lv_iload hx hb d_MoPaper_plain_155 (lv_at hl 3 rfl) ?_
                          refine lv_if_eq hx hb d_MoPaper_plain_157 rfl (fun h24 => ?_) (fun h24 => ?_)
                          · refine lv_iload hx hb d_MoPaper_plain_168 (lv_at hl 1 rfl) ?_
                            obtain ⟨r25, hc25, hok⟩ := bd_some hok
                            obtain ⟨hPc, hDc, hFc⟩ := cut0 (wc := []) hP hD hS hA [] (by decide) rfl
                            refine va_calli (va_runS (As := [.int r12]) (rest := []) ⟨hx, hb, hml, hown, hg⟩ (c_MoReader_symbol l g cs ka H.size n r12 r25 hc25) (va_cwS 1 hg (gw_S wd_755 wd_756 wd_754 wd_753) rfl rfl rfl (by decide +kernel) ⟨Nat.le_of_ble_eq_true rfl, Nat.le_of_ble_eq_true rfl⟩) ⟨gP_blind, gP_pre hPc hDc hK hgl hkn hkr hS hFc⟩ rfl rfl hl.1 rfl (lv_room (Nat.le_of_ble_eq_true rfl)) d_MoPaper_plain_170 ⟨Nat.le_of_ble_eq_true rfl, Nat.le_of_ble_eq_true rfl⟩) hS (fun q _ h => hFc q h) hFc (fun r25' u t H locs ht hvm hr25 hB hz1 hk1 hS => ?_)
                            subst hr25
                            rw [ht] at hB
                            obtain ⟨hP1, hD1⟩ := hB
                            obtain ⟨hP, hD⟩ := jn_A hP hD [] [0, 1, 2] rfl rfl (by decide) (by decide) hk1 hFc hP1 hD1
                            obtain ⟨hP, hD⟩ : PD g A H [(nms, .inr (10, [.ref nms_text, .ref nms_from, .ref nms_next, .ref nms_first, .int nms_size, .int nms_texted])), (nms_text, .inl (cs 1, nms_text_n, .inl nms_text_f)), (nms_from, .inl (cs 0, nms_from_n, .inl nms_from_f))] := ⟨hP, hD⟩
                            refine lv_if_ne hx hb d_MoPaper_plain_173 rfl (fun h26 => ?_) (fun h26 => ?_)
                            · rw [if_neg h26] at hok
                              refine lv_iinc (k := 2) (v := x5_10 + 1) hx hb d_MoPaper_plain_178 hl rfl rfl (by decide) rfl (fun ls hl => ?_)
                              have hl : lv_has ls 8 [(5, .int (x5_10 + 1)), (7, .int 1), (6, .int r12), (4, .int 0), (3, .int r3), (2, .int r1), (0, .ref nms), (1, .int kk)] := hl
                              refine lv_goto hx hb d_MoPaper_plain_181 rfl ?_
                              exact ih10 _ _ _ (x5_10 + 1) (lv_sub hl [0, 3, 4, 5, 6, 7] rfl) (sub3 hP hD [0, 1, 2] (by decide)) hS hok
                            · rw [if_pos h26] at hok
                              refine lv_iconst (v := 0) hx hb d_MoPaper_plain_176 (by decide) ?_
                              have hq := Option.some.inj hok
                              have hq0 := hq
                              subst hq0
                              obtain ⟨hP9, hD9⟩ := sub2 (ws' := [(nms, .inr (10, [.ref nms_text, .ref nms_from, .ref nms_next, .ref nms_first, .int nms_size, .int nms_texted])), (nms_text, .inl (cs 1, nms_text_n, .inl nms_text_f)), (nms_from, .inl (cs 0, nms_from_n, .inl nms_from_f))]) hP hD [0, 1, 2] rfl (by decide) rfl
                              rw [hQ]
                              exact W.zret (v := 0) hx hb hr rfl (fun t ht hW => ⟨⟨_, (), rfl, rfl, by rw [ht]; exact hP9, hD9⟩, hS.F ht⟩) hS.2.2 d_MoPaper_plain_177
                          · exact absurd h24 (by decide)
                        · rw [if_neg h23] at hok
                          refine lv_iload hx hb d_MoPaper_plain_141 (lv_at hl 0 rfl) ?_
                          refine lv_bipush (v := 95) hx hb d_MoPaper_plain_143 (by decide) ?_
                          refine lv_icmp_ne hx hb d_MoPaper_plain_145 rfl (fun h27 => ?_) (fun h27 => ?_)
                          · rw [if_neg h27] at hok
                            refine lv_iconst (v := 0) hx hb d_MoPaper_plain_152 (by decide) ?_
                            refine lv_istore hx hb d_MoPaper_plain_153 hl (by decide) rfl (fun ls hl => ?_)
                            have hl : lv_has ls 8 [(7, .int 0), (6, .int r12), (5, .int x5_10), (4, .int 0), (3, .int r3), (2, .int r1), (0, .ref nms), (1, .int kk)] := hl
                            refine lv_iload hx hb d_MoPaper_plain_155 (lv_at hl 3 rfl) ?_
                            refine lv_if_eq hx hb d_MoPaper_plain_157 rfl (fun h28 => ?_) (fun h28 => ?_)
                            · refine lv_iload hx hb d_MoPaper_plain_168 (lv_at hl 1 rfl) ?_
                              obtain ⟨r29, hc29, hok⟩ := bd_some hok
                              obtain ⟨hPc, hDc, hFc⟩ := cut0 (wc := []) hP hD hS hA [] (by decide) rfl
                              refine va_calli (va_runS (As := [.int r12]) (rest := []) ⟨hx, hb, hml, hown, hg⟩ (c_MoReader_symbol l g cs ka H.size n r12 r29 hc29) (va_cwS 1 hg (gw_S wd_755 wd_756 wd_754 wd_753) rfl rfl rfl (by decide +kernel) ⟨Nat.le_of_ble_eq_true rfl, Nat.le_of_ble_eq_true rfl⟩) ⟨gP_blind, gP_pre hPc hDc hK hgl hkn hkr hS hFc⟩ rfl rfl hl.1 rfl (lv_room (Nat.le_of_ble_eq_true rfl)) d_MoPaper_plain_170 ⟨Nat.le_of_ble_eq_true rfl, Nat.le_of_ble_eq_true rfl⟩) hS (fun q _ h => hFc q h) hFc (fun r29' u t H locs ht hvm hr29 hB hz1 hk1 hS => ?_)
                              subst hr29
                              rw [ht] at hB
                              obtain ⟨hP1, hD1⟩ := hB
                              obtain ⟨hP, hD⟩ := jn_A hP hD [] [0, 1, 2] rfl rfl (by decide) (by decide) hk1 hFc hP1 hD1
                              obtain ⟨hP, hD⟩ : PD g A H [(nms, .inr (10, [.ref nms_text, .ref nms_from, .ref nms_next, .ref nms_first, .int nms_size, .int nms_texted])), (nms_text, .inl (cs 1, nms_text_n, .inl nms_text_f)), (nms_from, .inl (cs 0, nms_from_n, .inl nms_from_f))] := ⟨hP, hD⟩
                              refine lv_if_ne hx hb d_MoPaper_plain_173 rfl (fun h30 => ?_) (fun h30 => ?_)
                              · rw [if_neg h30] at hok
                                refine lv_iinc (k := 2) (v := x5_10 + 1) hx hb d_MoPaper_plain_178 hl rfl rfl (by decide) rfl (fun ls hl => ?_)
                                have hl : lv_has ls 8 [(5, .int (x5_10 + 1)), (7, .int 0), (6, .int r12), (4, .int 0), (3, .int r3), (2, .int r1), (0, .ref nms), (1, .int kk)] := hl
                                refine lv_goto hx hb d_MoPaper_plain_181 rfl ?_
                                exact ih10 _ _ _ (x5_10 + 1) (lv_sub hl [0, 3, 4, 5, 6, 7] rfl) (sub3 hP hD [0, 1, 2] (by decide)) hS hok
                              · rw [if_pos h30] at hok
                                refine lv_iconst (v := 0) hx hb d_MoPaper_plain_176 (by decide) ?_
                                have hq := Option.some.inj hok
                                have hq0 := hq
                                subst hq0
                                obtain ⟨hP9, hD9⟩ := sub2 (ws' := [(nms, .inr (10, [.ref nms_text, .ref nms_from, .ref nms_next, .ref nms_first, .int nms_size, .int nms_texted])), (nms_text, .inl (cs 1, nms_text_n, .inl nms_text_f)), (nms_from, .inl (cs 0, nms_from_n, .inl nms_from_f))]) hP hD [0, 1, 2] rfl (by decide) rfl
                                rw [hQ]
                                exact W.zret (v := 0) hx hb hr rfl (fun t ht hW => ⟨⟨_, (), rfl, rfl, by rw [ht]; exact hP9, hD9⟩, hS.F ht⟩) hS.2.2 d_MoPaper_plain_177
                            · exact absurd h28 (by decide)
                          · rw [if_pos h27] at hok
                            refine lv_iconst (v := 1) hx hb d_MoPaper_plain_148 (by decide) ?_
                            refine lv_goto hx hb d_MoPaper_plain_149 rfl ?_
                            refine lv_istore hx hb d_MoPaper_plain_153 hl (by decide) rfl (fun ls hl => ?_)
                            have hl : lv_has ls 8 [(7, .int 1), (6, .int r12), (5, .int x5_10), (4, .int 0), (3, .int r3), (2, .int r1), (0, .ref nms), (1, .int kk)] := hl
                            refine lv_iload hx hb d_MoPaper_plain_155 (lv_at hl 3 rfl) ?_
                            refine lv_if_eq hx hb d_MoPaper_plain_157 rfl (fun h31 => ?_) (fun h31 => ?_)
                            · refine lv_iload hx hb d_MoPaper_plain_168 (lv_at hl 1 rfl) ?_
                              obtain ⟨r32, hc32, hok⟩ := bd_some hok
                              obtain ⟨hPc, hDc, hFc⟩ := cut0 (wc := []) hP hD hS hA [] (by decide) rfl
                              refine va_calli (va_runS (As := [.int r12]) (rest := []) ⟨hx, hb, hml, hown, hg⟩ (c_MoReader_symbol l g cs ka H.size n r12 r32 hc32) (va_cwS 1 hg (gw_S wd_755 wd_756 wd_754 wd_753) rfl rfl rfl (by decide +kernel) ⟨Nat.le_of_ble_eq_true rfl, Nat.le_of_ble_eq_true rfl⟩) ⟨gP_blind, gP_pre hPc hDc hK hgl hkn hkr hS hFc⟩ rfl rfl hl.1 rfl (lv_room (Nat.le_of_ble_eq_true rfl)) d_MoPaper_plain_170 ⟨Nat.le_of_ble_eq_true rfl, Nat.le_of_ble_eq_true rfl⟩) hS (fun q _ h => hFc q h) hFc (fun r32' u t H locs ht hvm hr32 hB hz1 hk1 hS => ?_)
                              subst hr32
                              rw [ht] at hB
                              obtain ⟨hP1, hD1⟩ := hB
                              obtain ⟨hP, hD⟩ := jn_A hP hD [] [0, 1, 2] rfl rfl (by decide) (by decide) hk1 hFc hP1 hD1
                              obtain ⟨hP, hD⟩ : PD g A H [(nms, .inr (10, [.ref nms_text, .ref nms_from, .ref nms_next, .ref nms_first, .int nms_size, .int nms_texted])), (nms_text, .inl (cs 1, nms_text_n, .inl nms_text_f)), (nms_from, .inl (cs 0, nms_from_n, .inl nms_from_f))] := ⟨hP, hD⟩
                              refine lv_if_ne hx hb d_MoPaper_plain_173 rfl (fun h33 => ?_) (fun h33 => ?_)
                              · rw [if_neg h33] at hok
                                refine lv_iinc (k := 2) (v := x5_10 + 1) hx hb d_MoPaper_plain_178 hl rfl rfl (by decide) rfl (fun ls hl => ?_)
                                have hl : lv_has ls 8 [(5, .int (x5_10 + 1)), (7, .int 1), (6, .int r12), (4, .int 0), (3, .int r3), (2, .int r1), (0, .ref nms), (1, .int kk)] := hl
                                refine lv_goto hx hb d_MoPaper_plain_181 rfl ?_
                                exact ih10 _ _ _ (x5_10 + 1) (lv_sub hl [0, 3, 4, 5, 6, 7] rfl) (sub3 hP hD [0, 1, 2] (by decide)) hS hok
                              · rw [if_pos h33] at hok
                                refine lv_iconst (v := 0) hx hb d_MoPaper_plain_176 (by decide) ?_
                                have hq := Option.some.inj hok
                                have hq0 := hq
                                subst hq0
                                obtain ⟨hP9, hD9⟩ := sub2 (ws' := [(nms, .inr (10, [.ref nms_text, .ref nms_from, .ref nms_next, .ref nms_first, .int nms_size, .int nms_texted])), (nms_text, .inl (cs 1, nms_text_n, .inl nms_text_f)), (nms_from, .inl (cs 0, nms_from_n, .inl nms_from_f))]) hP hD [0, 1, 2] rfl (by decide) rfl
                                rw [hQ]
                                exact W.zret (v := 0) hx hb hr rfl (fun t ht hW => ⟨⟨_, (), rfl, rfl, by rw [ht]; exact hP9, hD9⟩, hS.F ht⟩) hS.2.2 d_MoPaper_plain_177
                            · exact absurd h31 (by decide)
                    · rw [if_neg h14] at hok
                      refine lv_iload hx hb d_MoPaper_plain_120 (lv_at hl 0 rfl) ?_
                      refine lv_bipush (v := 90) hx hb d_MoPaper_plain_122 (by decide) ?_
                      refine lv_icmp_le hx hb d_MoPaper_plain_124 rfl (fun h34 => ?_) (fun h34 => ?_)
                      · rw [if_pos h34] at hok
                        refine lv_iconst (v := 1) hx hb d_MoPaper_plain_148 (by decide) ?_
                        refine lv_goto hx hb d_MoPaper_plain_149 rfl ?_
                        refine lv_istore hx hb d_MoPaper_plain_153 hl (by decide) rfl (fun ls hl => ?_)
                        have hl : lv_has ls 8 [(7, .int 1), (6, .int r12), (5, .int x5_10), (4, .int 0), (3, .int r3), (2, .int r1), (0, .ref nms), (1, .int kk)] := hl
                        refine lv_iload hx hb d_MoPaper_plain_155 (lv_at hl 3 rfl) ?_
                        refine lv_if_eq hx hb d_MoPaper_plain_157 rfl (fun h35 => ?_) (fun h35 => ?_)
                        · refine lv_iload hx hb d_MoPaper_plain_168 (lv_at hl 1 rfl) ?_
                          obtain ⟨r36, hc36, hok⟩ := bd_some hok
                          obtain ⟨hPc, hDc, hFc⟩ := cut0 (wc := []) hP hD hS hA [] (by decide) rfl
                          refine va_calli (va_runS (As := [.int r12]) (rest := []) ⟨hx, hb, hml, hown, hg⟩ (c_MoReader_symbol l g cs ka H.size n r12 r36 hc36) (va_cwS 1 hg (gw_S wd_755 wd_756 wd_754 wd_753) rfl rfl rfl (by decide +kernel) ⟨Nat.le_of_ble_eq_true rfl, Nat.le_of_ble_eq_true rfl⟩) ⟨gP_blind, gP_pre hPc hDc hK hgl hkn hkr hS hFc⟩ rfl rfl hl.1 rfl (lv_room (Nat.le_of_ble_eq_true rfl)) d_MoPaper_plain_170 ⟨Nat.le_of_ble_eq_true rfl, Nat.le_of_ble_eq_true rfl⟩) hS (fun q _ h => hFc q h) hFc (fun r36' u t H locs ht hvm hr36 hB hz1 hk1 hS => ?_)
                          subst hr36
                          rw [ht] at hB
                          obtain ⟨hP1, hD1⟩ := hB
                          obtain ⟨hP, hD⟩ := jn_A hP hD [] [0, 1, 2] rfl rfl (by decide) (by decide) hk1 hFc hP1 hD1
                          obtain ⟨hP, hD⟩ : PD g A H [(nms, .inr (10, [.ref nms_text, .ref nms_from, .ref nms_next, .ref nms_first, .int nms_size, .int nms_texted])), (nms_text, .inl (cs 1, nms_text_n, .inl nms_text_f)), (nms_from, .inl (cs 0, nms_from_n, .inl nms_from_f))] := ⟨hP, hD⟩
                          refine lv_if_ne hx hb d_MoPaper_plain_173 rfl (fun h37 => ?_) (fun h37 => ?_)
                          · rw [if_neg h37] at hok
                            refine lv_iinc (k := 2) (v := x5_10 + 1) hx hb d_MoPaper_plain_178 hl rfl rfl (by decide) rfl (fun ls hl => ?_)
                            have hl : lv_has ls 8 [(5, .int (x5_10 + 1)), (7, .int 1), (6, .int r12), (4, .int 0), (3, .int r3), (2, .int r1), (0, .ref nms), (1, .int kk)] := hl
                            refine lv_goto hx hb d_MoPaper_plain_181 rfl ?_
                            exact ih10 _ _ _ (x5_10 + 1) (lv_sub hl [0, 3, 4, 5, 6, 7] rfl) (sub3 hP hD [0, 1, 2] (by decide)) hS hok
                          · rw [if_pos h37] at hok
                            refine lv_iconst (v := 0) hx hb d_MoPaper_plain_176 (by decide) ?_
                            have hq := Option.some.inj hok
                            have hq0 := hq
                            subst hq0
                            obtain ⟨hP9, hD9⟩ := sub2 (ws' := [(nms, .inr (10, [.ref nms_text, .ref nms_from, .ref nms_next, .ref nms_first, .int nms_size, .int nms_texted])), (nms_text, .inl (cs 1, nms_text_n, .inl nms_text_f)), (nms_from, .inl (cs 0, nms_from_n, .inl nms_from_f))]) hP hD [0, 1, 2] rfl (by decide) rfl
                            rw [hQ]
                            exact W.zret (v := 0) hx hb hr rfl (fun t ht hW => ⟨⟨_, (), rfl, rfl, by rw [ht]; exact hP9, hD9⟩, hS.F ht⟩) hS.2.2 d_MoPaper_plain_177
                        · exact absurd h35 (by decide)
                      · rw [if_neg h34] at hok
                        refine lv_iload hx hb d_MoPaper_plain_127 (lv_at hl 0 rfl) ?_
                        refine lv_bipush (v := 48) hx hb d_MoPaper_plain_129 (by decide) ?_
                        refine lv_icmp_lt hx hb d_MoPaper_plain_131 rfl (fun h38 => ?_) (fun h38 => ?_)
                        · rw [if_pos h38] at hok
                          refine lv_iload hx hb d_MoPaper_plain_141 (lv_at hl 0 rfl) ?_
                          refine lv_bipush (v := 95) hx hb d_MoPaper_plain_143 (by decide) ?_
                          refine lv_icmp_ne hx hb d_MoPaper_plain_145 rfl (fun h39 => ?_) (fun h39 => ?_)
                          · rw [if_neg h39] at hok
                            refine lv_iconst (v := 0) hx hb d_MoPaper_plain_152 (by decide) ?_
                            refine lv_istore hx hb d_MoPaper_plain_153 hl (by decide) rfl (fun ls hl => ?_)
                            have hl : lv_has ls 8 [(7, .int 0), (6, .int r12), (5, .int x5_10), (4, .int 0), (3, .int r3), (2, .int r1), (0, .ref nms), (1, .int kk)] := hl
                            refine lv_iload hx hb d_MoPaper_plain_155 (lv_at hl 3 rfl) ?_
                            refine lv_if_eq hx hb d_MoPaper_plain_157 rfl (fun h40 => ?_) (fun h40 => ?_)
                            · refine lv_iload hx hb d_MoPaper_plain_168 (lv_at hl 1 rfl) ?_
                              obtain ⟨r41, hc41, hok⟩ := bd_some hok
                              obtain ⟨hPc, hDc, hFc⟩ := cut0 (wc := []) hP hD hS hA [] (by decide) rfl
                              refine va_calli (va_runS (As := [.int r12]) (rest := []) ⟨hx, hb, hml, hown, hg⟩ (c_MoReader_symbol l g cs ka H.size n r12 r41 hc41) (va_cwS 1 hg (gw_S wd_755 wd_756 wd_754 wd_753) rfl rfl rfl (by decide +kernel) ⟨Nat.le_of_ble_eq_true rfl, Nat.le_of_ble_eq_true rfl⟩) ⟨gP_blind, gP_pre hPc hDc hK hgl hkn hkr hS hFc⟩ rfl rfl hl.1 rfl (lv_room (Nat.le_of_ble_eq_true rfl)) d_MoPaper_plain_170 ⟨Nat.le_of_ble_eq_true rfl, Nat.le_of_ble_eq_true rfl⟩) hS (fun q _ h => hFc q h) hFc (fun r41' u t H locs ht hvm hr41 hB hz1 hk1 hS => ?_)
                              subst hr41
                              rw [ht] at hB
                              obtain ⟨hP1, hD1⟩ := hB
                              obtain ⟨hP, hD⟩ := jn_A hP hD [] [0, 1, 2] rfl rfl (by decide) (by decide) hk1 hFc hP1 hD1
                              obtain ⟨hP, hD⟩ : PD g A H [(nms, .inr (10, [.ref nms_text, .ref nms_from, .ref nms_next, .ref nms_first, .int nms_size, .int nms_texted])), (nms_text, .inl (cs 1, nms_text_n, .inl nms_text_f)), (nms_from, .inl (cs 0, nms_from_n, .inl nms_from_f))] := ⟨hP, hD⟩
                              refine lv_if_ne hx hb d_MoPaper_plain_173 rfl (fun h42 => ?_) (fun h42 => ?_)
                              · rw [if_neg h42] at hok
                                refine lv_iinc (k := 2) (v := x5_10 + 1) hx hb d_MoPaper_plain_178 hl rfl rfl (by decide) rfl (fun ls hl => ?_)
                                have hl : lv_has ls 8 [(5, .int (x5_10 + 1)), (7, .int 0), (6, .int r12), (4, .int 0), (3, .int r3), (2, .int r1), (0, .ref nms), (1, .int kk)] := hl
                                refine lv_goto hx hb d_MoPaper_plain_181 rfl ?_
                                exact ih10 _ _ _ (x5_10 + 1) (lv_sub hl [0, 3, 4, 5, 6, 7] rfl) (sub3 hP hD [0, 1, 2] (by decide)) hS hok
                              · rw [if_pos h42] at hok
                                refine lv_iconst (v := 0) hx hb d_MoPaper_plain_176 (by decide) ?_
                                have hq := Option.some.inj hok
                                have hq0 := hq
                                subst hq0
                                obtain ⟨hP9, hD9⟩ := sub2 (ws' := [(nms, .inr (10, [.ref nms_text, .ref nms_from, .ref nms_next, .ref nms_first, .int nms_size, .int nms_texted])), (nms_text, .inl (cs 1, nms_text_n, .inl nms_text_f)), (nms_from, .inl (cs 0, nms_from_n, .inl nms_from_f))]) hP hD [0, 1, 2] rfl (by decide) rfl
                                rw [hQ]
                                exact W.zret (v := 0) hx hb hr rfl (fun t ht hW => ⟨⟨_, (), rfl, rfl, by rw [ht]; exact hP9, hD9⟩, hS.F ht⟩) hS.2.2 d_MoPaper_plain_177
                            · exact absurd h40 (by decide)
                          · rw [if_pos h39] at hok
                            refine lv_iconst (v := 1) hx hb d_MoPaper_plain_148 (by decide) ?_
                            refine lv_goto hx hb d_MoPaper_plain_149 rfl ?_
                            refine lv_istore hx hb d_MoPaper_plain_153 hl (by decide) rfl (fun ls hl => ?_)
                            have hl : lv_has ls 8 [(7, .int 1), (6, .int r12), (5, .int x5_10), (4, .int 0), (3, .int r3), (2, .int r1), (0, .ref nms), (1, .int kk)] := hl
                            refine lv_iload hx hb d_MoPaper_plain_155 (lv_at hl 3 rfl) ?_
                            refine lv_if_eq hx hb d_MoPaper_plain_157 rfl (fun h43 => ?_) (fun h43 => ?_)
                            · refine lv_iload hx hb d_MoPaper_plain_168 (lv_at hl 1 rfl) ?_
                              obtain ⟨r44, hc44, hok⟩ := bd_some hok
                              obtain ⟨hPc, hDc, hFc⟩ := cut0 (wc := []) hP hD hS hA [] (by decide) rfl
                              refine va_calli (va_runS (As := [.int r12]) (rest := []) ⟨hx, hb, hml, hown, hg⟩ (c_MoReader_symbol l g cs ka H.size n r12 r44 hc44) (va_cwS 1 hg (gw_S wd_755 wd_756 wd_754 wd_753) rfl rfl rfl (by decide +kernel) ⟨Nat.le_of_ble_eq_true rfl, Nat.le_of_ble_eq_true rfl⟩) ⟨gP_blind, gP_pre hPc hDc hK hgl hkn hkr hS hFc⟩ rfl rfl hl.1 rfl (lv_room (Nat.le_of_ble_eq_true rfl)) d_MoPaper_plain_170 ⟨Nat.le_of_ble_eq_true rfl, Nat.le_of_ble_eq_true rfl⟩) hS (fun q _ h => hFc q h) hFc (fun r44' u t H locs ht hvm hr44 hB hz1 hk1 hS => ?_)
                              subst hr44
                              rw [ht] at hB
                              obtain ⟨hP1, hD1⟩ := hB
                              obtain ⟨hP, hD⟩ := jn_A hP hD [] [0, 1, 2] rfl rfl (by decide) (by decide) hk1 hFc hP1 hD1
                              obtain ⟨hP, hD⟩ : PD g A H [(nms, .inr (10, [.ref nms_text, .ref nms_from, .ref nms_next, .ref nms_first, .int nms_size, .int nms_texted])), (nms_text, .inl (cs 1, nms_text_n, .inl nms_text_f)), (nms_from, .inl (cs 0, nms_from_n, .inl nms_from_f))] := ⟨hP, hD⟩
                              refine lv_if_ne hx hb d_MoPaper_plain_173 rfl (fun h45 => ?_) (fun h45 => ?_)
                              · rw [if_neg h45] at hok
                                refine lv_iinc (k := 2) (v := x5_10 + 1) hx hb d_MoPaper_plain_178 hl rfl rfl (by decide) rfl (fun ls hl => ?_)
                                have hl : lv_has ls 8 [(5, .int (x5_10 + 1)), (7, .int 1), (6, .int r12), (4, .int 0), (3, .int r3), (2, .int r1), (0, .ref nms), (1, .int kk)] := hl
                                refine lv_goto hx hb d_MoPaper_plain_181 rfl ?_
                                exact ih10 _ _ _ (x5_10 + 1) (lv_sub hl [0, 3, 4, 5, 6, 7] rfl) (sub3 hP hD [0, 1, 2] (by decide)) hS hok
                              · rw [if_pos h45] at hok
                                refine lv_iconst (v := 0) hx hb d_MoPaper_plain_176 (by decide) ?_
                                have hq := Option.some.inj hok
                                have hq0 := hq
                                subst hq0
                                obtain ⟨hP9, hD9⟩ := sub2 (ws' := [(nms, .inr (10, [.ref nms_text, .ref nms_from, .ref nms_next, .ref nms_first, .int nms_size, .int nms_texted])), (nms_text, .inl (cs 1, nms_text_n, .inl nms_text_f)), (nms_from, .inl (cs 0, nms_from_n, .inl nms_from_f))]) hP hD [0, 1, 2] rfl (by decide) rfl
                                rw [hQ]
                                exact W.zret (v := 0) hx hb hr rfl (fun t ht hW => ⟨⟨_, (), rfl, rfl, by rw [ht]; exact hP9, hD9⟩, hS.F ht⟩) hS.2.2 d_MoPaper_plain_177
                            · exact absurd h43 (by decide)
                        · rw [if_neg h38] at hok
                          refine lv_iload hx hb d_MoPaper_plain_134 (lv_at hl 0 rfl) ?_
                          refine lv_bipush (v := 57) hx hb d_MoPaper_plain_136 (by decide) ?_
                          refine lv_icmp_le hx hb d_MoPaper_plain_138 rfl (fun h46 => ?_) (fun h46 => ?_)
                          · rw [if_pos h46] at hok
                            refine lv_iconst (v := 1) hx hb d_MoPaper_plain_148 (by decide) ?_
                            refine lv_goto hx hb d_MoPaper_plain_149 rfl ?_
                            refine lv_istore hx hb d_MoPaper_plain_153 hl (by decide) rfl (fun ls hl => ?_)
                            have hl : lv_has ls 8 [(7, .int 1), (6, .int r12), (5, .int x5_10), (4, .int 0), (3, .int r3), (2, .int r1), (0, .ref nms), (1, .int kk)] := hl
                            refine lv_iload hx hb d_MoPaper_plain_155 (lv_at hl 3 rfl) ?_
                            refine lv_if_eq hx hb d_MoPaper_plain_157 rfl (fun h47 => ?_) (fun h47 => ?_)
                            · refine lv_iload hx hb d_MoPaper_plain_168 (lv_at hl 1 rfl) ?_
                              obtain ⟨r48, hc48, hok⟩ := bd_some hok
                              obtain ⟨hPc, hDc, hFc⟩ := cut0 (wc := []) hP hD hS hA [] (by decide) rfl
                              refine va_calli (va_runS (As := [.int r12]) (rest := []) ⟨hx, hb, hml, hown, hg⟩ (c_MoReader_symbol l g cs ka H.size n r12 r48 hc48) (va_cwS 1 hg (gw_S wd_755 wd_756 wd_754 wd_753) rfl rfl rfl (by decide +kernel) ⟨Nat.le_of_ble_eq_true rfl, Nat.le_of_ble_eq_true rfl⟩) ⟨gP_blind, gP_pre hPc hDc hK hgl hkn hkr hS hFc⟩ rfl rfl hl.1 rfl (lv_room (Nat.le_of_ble_eq_true rfl)) d_MoPaper_plain_170 ⟨Nat.le_of_ble_eq_true rfl, Nat.le_of_ble_eq_true rfl⟩) hS (fun q _ h => hFc q h) hFc (fun r48' u t H locs ht hvm hr48 hB hz1 hk1 hS => ?_)
                              subst hr48
                              rw [ht] at hB
                              obtain ⟨hP1, hD1⟩ := hB
                              obtain ⟨hP, hD⟩ := jn_A hP hD [] [0, 1, 2] rfl rfl (by decide) (by decide) hk1 hFc hP1 hD1
                              obtain ⟨hP, hD⟩ : PD g A H [(nms, .inr (10, [.ref nms_text, .ref nms_from, .ref nms_next, .ref nms_first, .int nms_size, .int nms_texted])), (nms_text, .inl (cs 1, nms_text_n, .inl nms_text_f)), (nms_from, .inl (cs 0, nms_from_n, .inl nms_from_f))] := ⟨hP, hD⟩
                              refine lv_if_ne hx hb d_MoPaper_plain_173 rfl (fun h49 => ?_) (fun h49 => ?_)
                              · rw [if_neg h49] at hok
                                refine lv_iinc (k := 2) (v := x5_10 + 1) hx hb d_MoPaper_plain_178 hl rfl rfl (by decide) rfl (fun ls hl => ?_)
                                have hl : lv_has ls 8 [(5, .int (x5_10 + 1)), (7, .int 1), (6, .int r12), (4, .int 0), (3, .int r3), (2, .int r1), (0, .ref nms), (1, .int kk)] := hl
                                refine lv_goto hx hb d_MoPaper_plain_181 rfl ?_
                                exact ih10 _ _ _ (x5_10 + 1) (lv_sub hl [0, 3, 4, 5, 6, 7] rfl) (sub3 hP hD [0, 1, 2] (by decide)) hS hok
                              · rw [if_pos h49] at hok
                                refine lv_iconst (v := 0) hx hb d_MoPaper_plain_176 (by decide) ?_
                                have hq := Option.some.inj hok
                                have hq0 := hq
                                subst hq0
                                obtain ⟨hP9, hD9⟩ := sub2 (ws' := [(nms, .inr (10, [.ref nms_text, .ref nms_from, .ref nms_next, .ref nms_first, .int nms_size, .int nms_texted])), (nms_text, .inl (cs 1, nms_text_n, .inl nms_text_f)), (nms_from, .inl (cs 0, nms_from_n, .inl nms_from_f))]) hP hD [0, 1, 2] rfl (by decide) rfl
                                rw [hQ]
                                exact W.zret (v := 0) hx hb hr rfl (fun t ht hW => ⟨⟨_, (), rfl, rfl, by rw [ht]; exact hP9, hD9⟩, hS.F ht⟩) hS.2.2 d_MoPaper_plain_177
                            · exact absurd h47 (by decide)
                          · rw [if_neg h46] at hok
                            refine lv_iload hx hb d_MoPaper_plain_141 (lv_at hl 0 rfl) ?_
                            refine lv_bipush (v := 95) hx hb d_MoPaper_plain_143 (by decide) ?_
                            refine lv_icmp_ne hx hb d_MoPaper_plain_145 rfl (fun h50 => ?_) (fun h50 => ?_)
                            · rw [if_neg h50] at hok
                              refine lv_iconst (v := 0) hx hb d_MoPaper_plain_152 (by decide) ?_
                              refine lv_istore hx hb d_MoPaper_plain_153 hl (by decide) rfl (fun ls hl => ?_)
                              have hl : lv_has ls 8 [(7, .int 0), (6, .int r12), (5, .int x5_10), (4, .int 0), (3, .int r3), (2, .int r1), (0, .ref nms), (1, .int kk)] := hl
                              refine lv_iload hx hb d_MoPaper_plain_155 (lv_at hl 3 rfl) ?_
                              refine lv_if_eq hx hb d_MoPaper_plain_157 rfl (fun h51 => ?_) (fun h51 => ?_)
                              · refine lv_iload hx hb d_MoPaper_plain_168 (lv_at hl 1 rfl) ?_
                                obtain ⟨r52, hc52, hok⟩ := bd_some hok
                                obtain ⟨hPc, hDc, hFc⟩ := cut0 (wc := []) hP hD hS hA [] (by decide) rfl
                                refine va_calli (va_runS (As := [.int r12]) (rest := []) ⟨hx, hb, hml, hown, hg⟩ (c_MoReader_symbol l g cs ka H.size n r12 r52 hc52) (va_cwS 1 hg (gw_S wd_755 wd_756 wd_754 wd_753) rfl rfl rfl (by decide +kernel) ⟨Nat.le_of_ble_eq_true rfl, Nat.le_of_ble_eq_true rfl⟩) ⟨gP_blind, gP_pre hPc hDc hK hgl hkn hkr hS hFc⟩ rfl rfl hl.1 rfl (lv_room (Nat.le_of_ble_eq_true rfl)) d_MoPaper_plain_170 ⟨Nat.le_of_ble_eq_true rfl, Nat.le_of_ble_eq_true rfl⟩) hS (fun q _ h => hFc q h) hFc (fun r52' u t H locs ht hvm hr52 hB hz1 hk1 hS => ?_)
                                subst hr52
                                rw [ht] at hB
                                obtain ⟨hP1, hD1⟩ := hB
                                obtain ⟨hP, hD⟩ := jn_A hP hD [] [0, 1, 2] rfl rfl (by decide) (by decide) hk1 hFc hP1 hD1
                                obtain ⟨hP, hD⟩ : PD g A H [(nms, .inr (10, [.ref nms_text, .ref nms_from, .ref nms_next, .ref nms_first, .int nms_size, .int nms_texted])), (nms_text, .inl (cs 1, nms_text_n, .inl nms_text_f)), (nms_from, .inl (cs 0, nms_from_n, .inl nms_from_f))] := ⟨hP, hD⟩
                                refine lv_if_ne hx hb d_MoPaper_plain_173 rfl (fun h53 => ?_) (fun h53 => ?_)
                                · rw [if_neg h53] at hok
                                  refine lv_iinc (k := 2) (v := x5_10 + 1) hx hb d_MoPaper_plain_178 hl rfl rfl (by decide) rfl (fun ls hl => ?_)
                                  have hl : lv_has ls 8 [(5, .int (x5_10 + 1)), (7, .int 0), (6, .int r12), (4, .int 0), (3, .int r3), (2, .int r1), (0, .ref nms), (1, .int kk)] := hl
                                  refine lv_goto hx hb d_MoPaper_plain_181 rfl ?_
                                  exact ih10 _ _ _ (x5_10 + 1) (lv_sub hl [0, 3, 4, 5, 6, 7] rfl) (sub3 hP hD [0, 1, 2] (by decide)) hS hok
                                · rw [if_pos h53] at hok
                                  refine lv_iconst (v := 0) hx hb d_MoPaper_plain_176 (by decide) ?_
                                  have hq := Option.some.inj hok
                                  have hq0 := hq
                                  subst hq0
                                  obtain ⟨hP9, hD9⟩ := sub2 (ws' := [(nms, .inr (10, [.ref nms_text, .ref nms_from, .ref nms_next, .ref nms_first, .int nms_size, .int nms_texted])), (nms_text, .inl (cs 1, nms_text_n, .inl nms_text_f)), (nms_from, .inl (cs 0, nms_from_n, .inl nms_from_f))]) hP hD [0, 1, 2] rfl (by decide) rfl
                                  rw [hQ]
                                  exact W.zret (v := 0) hx hb hr rfl (fun t ht hW => ⟨⟨_, (), rfl, rfl, by rw [ht]; exact hP9, hD9⟩, hS.F ht⟩) hS.2.2 d_MoPaper_plain_177
                              · exact absurd h51 (by decide)
                            · rw [if_pos h50] at hok
                              refine lv_iconst (v := 1) hx hb d_MoPaper_plain_148 (by decide) ?_
                              refine lv_goto hx hb d_MoPaper_plain_149 rfl ?_
                              refine lv_istore hx hb d_MoPaper_plain_153 hl (by decide) rfl (fun ls hl => ?_)
                              have hl : lv_has ls 8 [(7, .int 1), (6, .int r12), (5, .int x5_10), (4, .int 0), (3, .int r3), (2, .int r1), (0, .ref nms), (1, .int kk)] := hl
                              refine lv_iload hx hb d_MoPaper_plain_155 (lv_at hl 3 rfl) ?_
                              refine lv_if_eq hx hb d_MoPaper_plain_157 rfl (fun h54 => ?_) (fun h54 => ?_)
                              · refine lv_iload hx hb d_MoPaper_plain_168 (lv_at hl 1 rfl) ?_
                                obtain ⟨r55, hc55, hok⟩ := bd_some hok
                                obtain ⟨hPc, hDc, hFc⟩ := cut0 (wc := []) hP hD hS hA [] (by decide) rfl
                                refine va_calli (va_runS (As := [.int r12]) (rest := []) ⟨hx, hb, hml, hown, hg⟩ (c_MoReader_symbol l g cs ka H.size n r12 r55 hc55) (va_cwS 1 hg (gw_S wd_755 wd_756 wd_754 wd_753) rfl rfl rfl (by decide +kernel) ⟨Nat.le_of_ble_eq_true rfl, Nat.le_of_ble_eq_true rfl⟩) ⟨gP_blind, gP_pre hPc hDc hK hgl hkn hkr hS hFc⟩ rfl rfl hl.1 rfl (lv_room (Nat.le_of_ble_eq_true rfl)) d_MoPaper_plain_170 ⟨Nat.le_of_ble_eq_true rfl, Nat.le_of_ble_eq_true rfl⟩) hS (fun q _ h => hFc q h) hFc (fun r55' u t H locs ht hvm hr55 hB hz1 hk1 hS => ?_)
                                subst hr55
                                rw [ht] at hB
                                obtain ⟨hP1, hD1⟩ := hB
                                obtain ⟨hP, hD⟩ := jn_A hP hD [] [0, 1, 2] rfl rfl (by decide) (by decide) hk1 hFc hP1 hD1
                                obtain ⟨hP, hD⟩ : PD g A H [(nms, .inr (10, [.ref nms_text, .ref nms_from, .ref nms_next, .ref nms_first, .int nms_size, .int nms_texted])), (nms_text, .inl (cs 1, nms_text_n, .inl nms_text_f)), (nms_from, .inl (cs 0, nms_from_n, .inl nms_from_f))] := ⟨hP, hD⟩
                                refine lv_if_ne hx hb d_MoPaper_plain_173 rfl (fun h56 => ?_) (fun h56 => ?_)
                                · rw [if_neg h56] at hok
                                  refine lv_iinc (k := 2) (v := x5_10 + 1) hx hb d_MoPaper_plain_178 hl rfl rfl (by decide) rfl (fun ls hl => ?_)
                                  have hl : lv_has ls 8 [(5, .int (x5_10 + 1)), (7, .int 1), (6, .int r12), (4, .int 0), (3, .int r3), (2, .int r1), (0, .ref nms), (1, .int kk)] := hl
                                  refine lv_goto hx hb d_MoPaper_plain_181 rfl ?_
                                  exact ih10 _ _ _ (x5_10 + 1) (lv_sub hl [0, 3, 4, 5, 6, 7] rfl) (sub3 hP hD [0, 1, 2] (by decide)) hS hok
                                · rw [if_pos h56] at hok
                                  refine lv_iconst (v := 0) hx hb d_MoPaper_plain_176 (by decide) ?_
                                  have hq := Option.some.inj hok
                                  have hq0 := hq
                                  subst hq0
                                  obtain ⟨hP9, hD9⟩ := sub2 (ws' := [(nms, .inr (10, [.ref nms_text, .ref nms_from, .ref nms_next, .ref nms_first, .int nms_size, .int nms_texted])), (nms_text, .inl (cs 1, nms_text_n, .inl nms_text_f)), (nms_from, .inl (cs 0, nms_from_n, .inl nms_from_f))]) hP hD [0, 1, 2] rfl (by decide) rfl
                                  rw [hQ]
                                  exact W.zret (v := 0) hx hb hr rfl (fun t ht hW => ⟨⟨_, (), rfl, rfl, by rw [ht]; exact hP9, hD9⟩, hS.F ht⟩) hS.2.2 d_MoPaper_plain_177
                              · exact absurd h54 (by decide)
                  · rw [if_neg h13] at hok
                    refine lv_iload hx hb d_MoPaper_plain_106 (lv_at hl 0 rfl) ?_
                    refine lv_bipush (v := 122) hx hb d_MoPaper_plain_108 (by decide) ?_
                    refine lv_icmp_le hx hb d_MoPaper_plain_110 rfl (fun h57 => ?_) (fun h57 => ?_)
                    · rw [if_pos h57] at hok
                      refine lv_iconst (v := 1) hx hb d_MoPaper_plain_148 (by decide) ?_
                      refine lv_goto hx hb d_MoPaper_plain_149 rfl ?_
                      refine lv_istore hx hb d_MoPaper_plain_153 hl (by decide) rfl (fun ls hl => ?_)
                      have hl : lv_has ls 8 [(7, .int 1), (6, .int r12), (5, .int x5_10), (4, .int 0), (3, .int r3), (2, .int r1), (0, .ref nms), (1, .int kk)] := hl
                      refine lv_iload hx hb d_MoPaper_plain_155 (lv_at hl 3 rfl) ?_
                      refine lv_if_eq hx hb d_MoPaper_plain_157 rfl (fun h58 => ?_) (fun h58 => ?_)
                      · refine lv_iload hx hb d_MoPaper_plain_168 (lv_at hl 1 rfl) ?_
                        obtain ⟨r59, hc59, hok⟩ := bd_some hok
                        obtain ⟨hPc, hDc, hFc⟩ := cut0 (wc := []) hP hD hS hA [] (by decide) rfl
                        refine va_calli (va_runS (As := [.int r12]) (rest := []) ⟨hx, hb, hml, hown, hg⟩ (c_MoReader_symbol l g cs ka H.size n r12 r59 hc59) (va_cwS 1 hg (gw_S wd_755 wd_756 wd_754 wd_753) rfl rfl rfl (by decide +kernel) ⟨Nat.le_of_ble_eq_true rfl, Nat.le_of_ble_eq_true rfl⟩) ⟨gP_blind, gP_pre hPc hDc hK hgl hkn hkr hS hFc⟩ rfl rfl hl.1 rfl (lv_room (Nat.le_of_ble_eq_true rfl)) d_MoPaper_plain_170 ⟨Nat.le_of_ble_eq_true rfl, Nat.le_of_ble_eq_true rfl⟩) hS (fun q _ h => hFc q h) hFc (fun r59' u t H locs ht hvm hr59 hB hz1 hk1 hS => ?_)
                        subst hr59
                        rw [ht] at hB
                        obtain ⟨hP1, hD1⟩ := hB
                        obtain ⟨hP, hD⟩ := jn_A hP hD [] [0, 1, 2] rfl rfl (by decide) (by decide) hk1 hFc hP1 hD1
                        obtain ⟨hP, hD⟩ : PD g A H [(nms, .inr (10, [.ref nms_text, .ref nms_from, .ref nms_next, .ref nms_first, .int nms_size, .int nms_texted])), (nms_text, .inl (cs 1, nms_text_n, .inl nms_text_f)), (nms_from, .inl (cs 0, nms_from_n, .inl nms_from_f))] := ⟨hP, hD⟩
                        refine lv_if_ne hx hb d_MoPaper_plain_173 rfl (fun h60 => ?_) (fun h60 => ?_)
                        · rw [if_neg h60] at hok
                          refine lv_iinc (k := 2) (v := x5_10 + 1) hx hb d_MoPaper_plain_178 hl rfl rfl (by decide) rfl (fun ls hl => ?_)
                          have hl : lv_has ls 8 [(5, .int (x5_10 + 1)), (7, .int 1), (6, .int r12), (4, .int 0), (3, .int r3), (2, .int r1), (0, .ref nms), (1, .int kk)] := hl
                          refine lv_goto hx hb d_MoPaper_plain_181 rfl ?_
                          exact ih10 _ _ _ (x5_10 + 1) (lv_sub hl [0, 3, 4, 5, 6, 7] rfl) (sub3 hP hD [0, 1, 2] (by decide)) hS hok
                        · rw [if_pos h60] at hok
                          refine lv_iconst (v := 0) hx hb d_MoPaper_plain_176 (by decide) ?_
                          have hq := Option.some.inj hok
                          have hq0 := hq
                          subst hq0
                          obtain ⟨hP9, hD9⟩ := sub2 (ws' := [(nms, .inr (10, [.ref nms_text, .ref nms_from, .ref nms_next, .ref nms_first, .int nms_size, .int nms_texted])), (nms_text, .inl (cs 1, nms_text_n, .inl nms_text_f)), (nms_from, .inl (cs 0, nms_from_n, .inl nms_from_f))]) hP hD [0, 1, 2] rfl (by decide) rfl
                          rw [hQ]
                          exact W.zret (v := 0) hx hb hr rfl (fun t ht hW => ⟨⟨_, (), rfl, rfl, by rw [ht]; exact hP9, hD9⟩, hS.F ht⟩) hS.2.2 d_MoPaper_plain_177
                      · exact absurd h58 (by decide)
                    · rw [if_neg h57] at hok
                      refine lv_iload hx hb d_MoPaper_plain_113 (lv_at hl 0 rfl) ?_
                      refine lv_bipush (v := 65) hx hb d_MoPaper_plain_115 (by decide) ?_
                      refine lv_icmp_lt hx hb d_MoPaper_plain_117 rfl (fun h61 => ?_) (fun h61 => ?_)
                      · rw [if_pos h61] at hok
                        refine lv_iload hx hb d_MoPaper_plain_127 (lv_at hl 0 rfl) ?_
                        refine lv_bipush (v := 48) hx hb d_MoPaper_plain_129 (by decide) ?_
                        refine lv_icmp_lt hx hb d_MoPaper_plain_131 rfl (fun h62 => ?_) (fun h62 => ?_)
                        · rw [if_pos h62] at hok
                          refine lv_iload hx hb d_MoPaper_plain_141 (lv_at hl 0 rfl) ?_
                          refine lv_bipush (v := 95) hx hb d_MoPaper_plain_143 (by decide) ?_
                          refine lv_icmp_ne hx hb d_MoPaper_plain_145 rfl (fun h63 => ?_) (fun h63 => ?_)
                          · rw [if_neg h63] at hok
                            refine lv_iconst (v := 0) hx hb d_MoPaper_plain_152 (by decide) ?_
                            refine lv_istore hx hb d_MoPaper_plain_153 hl (by decide) rfl (fun ls hl => ?_)
                            have hl : lv_has ls 8 [(7, .int 0), (6, .int r12), (5, .int x5_10), (4, .int 0), (3, .int r3), (2, .int r1), (0, .ref nms), (1, .int kk)] := hl
                            refine lv_iload hx hb d_MoPaper_plain_155 (lv_at hl 3 rfl) ?_
                            refine lv_if_eq hx hb d_MoPaper_plain_157 rfl (fun h64 => ?_) (fun h64 => ?_)
                            · refine lv_iload hx hb d_MoPaper_plain_168 (lv_at hl 1 rfl) ?_
                              obtain ⟨r65, hc65, hok⟩ := bd_some hok
                              obtain ⟨hPc, hDc, hFc⟩ := cut0 (wc := []) hP hD hS hA [] (by decide) rfl
                              refine va_calli (va_runS (As := [.int r12]) (rest := []) ⟨hx, hb, hml, hown, hg⟩ (c_MoReader_symbol l g cs ka H.size n r12 r65 hc65) (va_cwS 1 hg (gw_S wd_755 wd_756 wd_754 wd_753) rfl rfl rfl (by decide +kernel) ⟨Nat.le_of_ble_eq_true rfl, Nat.le_of_ble_eq_true rfl⟩) ⟨gP_blind, gP_pre hPc hDc hK hgl hkn hkr hS hFc⟩ rfl rfl hl.1 rfl (lv_room (Nat.le_of_ble_eq_true rfl)) d_MoPaper_plain_170 ⟨Nat.le_of_ble_eq_true rfl, Nat.le_of_ble_eq_true rfl⟩) hS (fun q _ h => hFc q h) hFc (fun r65' u t H locs ht hvm hr65 hB hz1 hk1 hS => ?_)
                              subst hr65
                              rw [ht] at hB
                              obtain ⟨hP1, hD1⟩ := hB
                              obtain ⟨hP, hD⟩ := jn_A hP hD [] [0, 1, 2] rfl rfl (by decide) (by decide) hk1 hFc hP1 hD1
                              obtain ⟨hP, hD⟩ : PD g A H [(nms, .inr (10, [.ref nms_text, .ref nms_from, .ref nms_next, .ref nms_first, .int nms_size, .int nms_texted])), (nms_text, .inl (cs 1, nms_text_n, .inl nms_text_f)), (nms_from, .inl (cs 0, nms_from_n, .inl nms_from_f))] := ⟨hP, hD⟩
                              refine lv_if_ne hx hb d_MoPaper_plain_173 rfl (fun h66 => ?_) (fun h66 => ?_)
                              · rw [if_neg h66] at hok
                                refine lv_iinc (k := 2) (v := x5_10 + 1) hx hb d_MoPaper_plain_178 hl rfl rfl (by decide) rfl (fun ls hl => ?_)
                                have hl : lv_has ls 8 [(5, .int (x5_10 + 1)), (7, .int 0), (6, .int r12), (4, .int 0), (3, .int r3), (2, .int r1), (0, .ref nms), (1, .int kk)] := hl
                                refine lv_goto hx hb d_MoPaper_plain_181 rfl ?_
                                exact ih10 _ _ _ (x5_10 + 1) (lv_sub hl [0, 3, 4, 5, 6, 7] rfl) (sub3 hP hD [0, 1, 2] (by decide)) hS hok
                              · rw [if_pos h66] at hok
                                refine lv_iconst (v := 0) hx hb d_MoPaper_plain_176 (by decide) ?_
                                have hq := Option.some.inj hok
                                have hq0 := hq
                                subst hq0
                                obtain ⟨hP9, hD9⟩ := sub2 (ws' := [(nms, .inr (10, [.ref nms_text, .ref nms_from, .ref nms_next, .ref nms_first, .int nms_size, .int nms_texted])), (nms_text, .inl (cs 1, nms_text_n, .inl nms_text_f)), (nms_from, .inl (cs 0, nms_from_n, .inl nms_from_f))]) hP hD [0, 1, 2] rfl (by decide) rfl
                                rw [hQ]
                                exact W.zret (v := 0) hx hb hr rfl (fun t ht hW => ⟨⟨_, (), rfl, rfl, by rw [ht]; exact hP9, hD9⟩, hS.F ht⟩) hS.2.2 d_MoPaper_plain_177
                            · exact absurd h64 (by decide)
                          · rw [if_pos h63] at hok
                            refine lv_iconst (v := 1) hx hb d_MoPaper_plain_148 (by decide) ?_
                            refine lv_goto hx hb d_MoPaper_plain_149 rfl ?_
                            refine lv_istore hx hb d_MoPaper_plain_153 hl (by decide) rfl (fun ls hl => ?_)
                            have hl : lv_has ls 8 [(7, .int 1), (6, .int r12), (5, .int x5_10), (4, .int 0), (3, .int r3), (2, .int r1), (0, .ref nms), (1, .int kk)] := hl
                            refine lv_iload hx hb d_MoPaper_plain_155 (lv_at hl 3 rfl) ?_
                            refine lv_if_eq hx hb d_MoPaper_plain_157 rfl (fun h67 => ?_) (fun h67 => ?_)
                            · refine lv_iload hx hb d_MoPaper_plain_168 (lv_at hl 1 rfl) ?_
                              obtain ⟨r68, hc68, hok⟩ := bd_some hok
                              obtain ⟨hPc, hDc, hFc⟩ := cut0 (wc := []) hP hD hS hA [] (by decide) rfl
                              refine va_calli (va_runS (As := [.int r12]) (rest := []) ⟨hx, hb, hml, hown, hg⟩ (c_MoReader_symbol l g cs ka H.size n r12 r68 hc68) (va_cwS 1 hg (gw_S wd_755 wd_756 wd_754 wd_753) rfl rfl rfl (by decide +kernel) ⟨Nat.le_of_ble_eq_true rfl, Nat.le_of_ble_eq_true rfl⟩) ⟨gP_blind, gP_pre hPc hDc hK hgl hkn hkr hS hFc⟩ rfl rfl hl.1 rfl (lv_room (Nat.le_of_ble_eq_true rfl)) d_MoPaper_plain_170 ⟨Nat.le_of_ble_eq_true rfl, Nat.le_of_ble_eq_true rfl⟩) hS (fun q _ h => hFc q h) hFc (fun r68' u t H locs ht hvm hr68 hB hz1 hk1 hS => ?_)
                              subst hr68
                              rw [ht] at hB
                              obtain ⟨hP1, hD1⟩ := hB
                              obtain ⟨hP, hD⟩ := jn_A hP hD [] [0, 1, 2] rfl rfl (by decide) (by decide) hk1 hFc hP1 hD1
                              obtain ⟨hP, hD⟩ : PD g A H [(nms, .inr (10, [.ref nms_text, .ref nms_from, .ref nms_next, .ref nms_first, .int nms_size, .int nms_texted])), (nms_text, .inl (cs 1, nms_text_n, .inl nms_text_f)), (nms_from, .inl (cs 0, nms_from_n, .inl nms_from_f))] := ⟨hP, hD⟩
                              refine lv_if_ne hx hb d_MoPaper_plain_173 rfl (fun h69 => ?_) (fun h69 => ?_)
                              · rw [if_neg h69] at hok
                                refine lv_iinc (k := 2) (v := x5_10 + 1) hx hb d_MoPaper_plain_178 hl rfl rfl (by decide) rfl (fun ls hl => ?_)
                                have hl : lv_has ls 8 [(5, .int (x5_10 + 1)), (7, .int 1), (6, .int r12), (4, .int 0), (3, .int r3), (2, .int r1), (0, .ref nms), (1, .int kk)] := hl
                                refine lv_goto hx hb d_MoPaper_plain_181 rfl ?_
                                exact ih10 _ _ _ (x5_10 + 1) (lv_sub hl [0, 3, 4, 5, 6, 7] rfl) (sub3 hP hD [0, 1, 2] (by decide)) hS hok
                              · rw [if_pos h69] at hok
                                refine lv_iconst (v := 0) hx hb d_MoPaper_plain_176 (by decide) ?_
                                have hq := Option.some.inj hok
                                have hq0 := hq
                                subst hq0
                                obtain ⟨hP9, hD9⟩ := sub2 (ws' := [(nms, .inr (10, [.ref nms_text, .ref nms_from, .ref nms_next, .ref nms_first, .int nms_size, .int nms_texted])), (nms_text, .inl (cs 1, nms_text_n, .inl nms_text_f)), (nms_from, .inl (cs 0, nms_from_n, .inl nms_from_f))]) hP hD [0, 1, 2] rfl (by decide) rfl
                                rw [hQ]
                                exact W.zret (v := 0) hx hb hr rfl (fun t ht hW => ⟨⟨_, (), rfl, rfl, by rw [ht]; exact hP9, hD9⟩, hS.F ht⟩) hS.2.2 d_MoPaper_plain_177
                            · exact absurd h67 (by decide)
                        · rw [if_neg h62] at hok
                          refine lv_iload hx hb d_MoPaper_plain_134 (lv_at hl 0 rfl) ?_
                          refine lv_bipush (v := 57) hx hb d_MoPaper_plain_136 (by decide) ?_
                          refine lv_icmp_le hx hb d_MoPaper_plain_138 rfl (fun h70 => ?_) (fun h70 => ?_)
                          · rw [if_pos h70] at hok
                            refine lv_iconst (v := 1) hx hb d_MoPaper_plain_148 (by decide) ?_
                            refine lv_goto hx hb d_MoPaper_plain_149 rfl ?_
                            refine lv_istore hx hb d_MoPaper_plain_153 hl (by decide) rfl (fun ls hl => ?_)
                            have hl : lv_has ls 8 [(7, .int 1), (6, .int r12), (5, .int x5_10), (4, .int 0), (3, .int r3), (2, .int r1), (0, .ref nms), (1, .int kk)] := hl
                            refine lv_iload hx hb d_MoPaper_plain_155 (lv_at hl 3 rfl) ?_
                            refine lv_if_eq hx hb d_MoPaper_plain_157 rfl (fun h71 => ?_) (fun h71 => ?_)
                            · refine lv_iload hx hb d_MoPaper_plain_168 (lv_at hl 1 rfl) ?_
                              obtain ⟨r72, hc72, hok⟩ := bd_some hok
                              obtain ⟨hPc, hDc, hFc⟩ := cut0 (wc := []) hP hD hS hA [] (by decide) rfl
                              refine va_calli (va_runS (As := [.int r12]) (rest := []) ⟨hx, hb, hml, hown, hg⟩ (c_MoReader_symbol l g cs ka H.size n r12 r72 hc72) (va_cwS 1 hg (gw_S wd_755 wd_756 wd_754 wd_753) rfl rfl rfl (by decide +kernel) ⟨Nat.le_of_ble_eq_true rfl, Nat.le_of_ble_eq_true rfl⟩) ⟨gP_blind, gP_pre hPc hDc hK hgl hkn hkr hS hFc⟩ rfl rfl hl.1 rfl (lv_room (Nat.le_of_ble_eq_true rfl)) d_MoPaper_plain_170 ⟨Nat.le_of_ble_eq_true rfl, Nat.le_of_ble_eq_true rfl⟩) hS (fun q _ h => hFc q h) hFc (fun r72' u t H locs ht hvm hr72 hB hz1 hk1 hS => ?_)
                              subst hr72
                              rw [ht] at hB
                              obtain ⟨hP1, hD1⟩ := hB
                              obtain ⟨hP, hD⟩ := jn_A hP hD [] [0, 1, 2] rfl rfl (by decide) (by decide) hk1 hFc hP1 hD1
                              obtain ⟨hP, hD⟩ : PD g A H [(nms, .inr (10, [.ref nms_text, .ref nms_from, .ref nms_next, .ref nms_first, .int nms_size, .int nms_texted])), (nms_text, .inl (cs 1, nms_text_n, .inl nms_text_f)), (nms_from, .inl (cs 0, nms_from_n, .inl nms_from_f))] := ⟨hP, hD⟩
                              refine lv_if_ne hx hb d_MoPaper_plain_173 rfl (fun h73 => ?_) (fun h73 => ?_)
                              · rw [if_neg h73] at hok
                                refine lv_iinc (k := 2) (v := x5_10 + 1) hx hb d_MoPaper_plain_178 hl rfl rfl (by decide) rfl (fun ls hl => ?_)
                                have hl : lv_has ls 8 [(5, .int (x5_10 + 1)), (7, .int 1), (6, .int r12), (4, .int 0), (3, .int r3), (2, .int r1), (0, .ref nms), (1, .int kk)] := hl
                                refine lv_goto hx hb d_MoPaper_plain_181 rfl ?_
                                exact ih10 _ _ _ (x5_10 + 1) (lv_sub hl [0, 3, 4, 5, 6, 7] rfl) (sub3 hP hD [0, 1, 2] (by decide)) hS hok
                              · rw [if_pos h73] at hok
                                refine lv_iconst (v := 0) hx hb d_MoPaper_plain_176 (by decide) ?_
                                have hq := Option.some.inj hok
                                have hq0 := hq
                                subst hq0
                                obtain ⟨hP9, hD9⟩ := sub2 (ws' := [(nms, .inr (10, [.ref nms_text, .ref nms_from, .ref nms_next, .ref nms_first, .int nms_size, .int nms_texted])), (nms_text, .inl (cs 1, nms_text_n, .inl nms_text_f)), (nms_from, .inl (cs 0, nms_from_n, .inl nms_from_f))]) hP hD [0, 1, 2] rfl (by decide) rfl
                                rw [hQ]
                                exact W.zret (v := 0) hx hb hr rfl (fun t ht hW => ⟨⟨_, (), rfl, rfl, by rw [ht]; exact hP9, hD9⟩, hS.F ht⟩) hS.2.2 d_MoPaper_plain_177
                            · exact absurd h71 (by decide)
                          · rw [if_neg h70] at hok
                            refine lv_iload hx hb d_MoPaper_plain_141 (lv_at hl 0 rfl) ?_
                            refine lv_bipush (v := 95) hx hb d_MoPaper_plain_143 (by decide) ?_
                            refine lv_icmp_ne hx hb d_MoPaper_plain_145 rfl (fun h74 => ?_) (fun h74 => ?_)
                            · rw [if_neg h74] at hok
                              refine lv_iconst (v := 0) hx hb d_MoPaper_plain_152 (by decide) ?_
                              refine lv_istore hx hb d_MoPaper_plain_153 hl (by decide) rfl (fun ls hl => ?_)
                              have hl : lv_has ls 8 [(7, .int 0), (6, .int r12), (5, .int x5_10), (4, .int 0), (3, .int r3), (2, .int r1), (0, .ref nms), (1, .int kk)] := hl
                              refine lv_iload hx hb d_MoPaper_plain_155 (lv_at hl 3 rfl) ?_
                              refine lv_if_eq hx hb d_MoPaper_plain_157 rfl (fun h75 => ?_) (fun h75 => ?_)
                              · refine lv_iload hx hb d_MoPaper_plain_168 (lv_at hl 1 rfl) ?_
                                obtain ⟨r76, hc76, hok⟩ := bd_some hok
                                obtain ⟨hPc, hDc, hFc⟩ := cut0 (wc := []) hP hD hS hA [] (by decide) rfl
                                refine va_calli (va_runS (As := [.int r12]) (rest := []) ⟨hx, hb, hml, hown, hg⟩ (c_MoReader_symbol l g cs ka H.size n r12 r76 hc76) (va_cwS 1 hg (gw_S wd_755 wd_756 wd_754 wd_753) rfl rfl rfl (by decide +kernel) ⟨Nat.le_of_ble_eq_true rfl, Nat.le_of_ble_eq_true rfl⟩) ⟨gP_blind, gP_pre hPc hDc hK hgl hkn hkr hS hFc⟩ rfl rfl hl.1 rfl (lv_room (Nat.le_of_ble_eq_true rfl)) d_MoPaper_plain_170 ⟨Nat.le_of_ble_eq_true rfl, Nat.le_of_ble_eq_true rfl⟩) hS (fun q _ h => hFc q h) hFc (fun r76' u t H locs ht hvm hr76 hB hz1 hk1 hS => ?_)
                                subst hr76
                                rw [ht] at hB
                                obtain ⟨hP1, hD1⟩ := hB
                                obtain ⟨hP, hD⟩ := jn_A hP hD [] [0, 1, 2] rfl rfl (by decide) (by decide) hk1 hFc hP1 hD1
                                obtain ⟨hP, hD⟩ : PD g A H [(nms, .inr (10, [.ref nms_text, .ref nms_from, .ref nms_next, .ref nms_first, .int nms_size, .int nms_texted])), (nms_text, .inl (cs 1, nms_text_n, .inl nms_text_f)), (nms_from, .inl (cs 0, nms_from_n, .inl nms_from_f))] := ⟨hP, hD⟩
                                refine lv_if_ne hx hb d_MoPaper_plain_173 rfl (fun h77 => ?_) (fun h77 => ?_)
                                · rw [if_neg h77] at hok
                                  refine lv_iinc (k := 2) (v := x5_10 + 1) hx hb d_MoPaper_plain_178 hl rfl rfl (by decide) rfl (fun ls hl => ?_)
                                  have hl : lv_has ls 8 [(5, .int (x5_10 + 1)), (7, .int 0), (6, .int r12), (4, .int 0), (3, .int r3), (2, .int r1), (0, .ref nms), (1, .int kk)] := hl
                                  refine lv_goto hx hb d_MoPaper_plain_181 rfl ?_
                                  exact ih10 _ _ _ (x5_10 + 1) (lv_sub hl [0, 3, 4, 5, 6, 7] rfl) (sub3 hP hD [0, 1, 2] (by decide)) hS hok
                                · rw [if_pos h77] at hok
                                  refine lv_iconst (v := 0) hx hb d_MoPaper_plain_176 (by decide) ?_
                                  have hq := Option.some.inj hok
                                  have hq0 := hq
                                  subst hq0
                                  obtain ⟨hP9, hD9⟩ := sub2 (ws' := [(nms, .inr (10, [.ref nms_text, .ref nms_from, .ref nms_next, .ref nms_first, .int nms_size, .int nms_texted])), (nms_text, .inl (cs 1, nms_text_n, .inl nms_text_f)), (nms_from, .inl (cs 0, nms_from_n, .inl nms_from_f))]) hP hD [0, 1, 2] rfl (by decide) rfl
                                  rw [hQ]
                                  exact W.zret (v := 0) hx hb hr rfl (fun t ht hW => ⟨⟨_, (), rfl, rfl, by rw [ht]; exact hP9, hD9⟩, hS.F ht⟩) hS.2.2 d_MoPaper_plain_177
                              · exact absurd h75 (by decide)
                            · rw [if_pos h74] at hok
                              refine lv_iconst (v := 1) hx hb d_MoPaper_plain_148 (by decide) ?_
                              refine lv_goto hx hb d_MoPaper_plain_149 rfl ?_
                              refine lv_istore hx hb d_MoPaper_plain_153 hl (by decide) rfl (fun ls hl => ?_)
                              have hl : lv_has ls 8 [(7, .int 1), (6, .int r12), (5, .int x5_10), (4, .int 0), (3, .int r3), (2, .int r1), (0, .ref nms), (1, .int kk)] := hl
                              refine lv_iload hx hb d_MoPaper_plain_155 (lv_at hl 3 rfl) ?_
                              refine lv_if_eq hx hb d_MoPaper_plain_157 rfl (fun h78 => ?_) (fun h78 => ?_)
                              · refine lv_iload hx hb d_MoPaper_plain_168 (lv_at hl 1 rfl) ?_
                                obtain ⟨r79, hc79, hok⟩ := bd_some hok
                                obtain ⟨hPc, hDc, hFc⟩ := cut0 (wc := []) hP hD hS hA [] (by decide) rfl
                                refine va_calli (va_runS (As := [.int r12]) (rest := []) ⟨hx, hb, hml, hown, hg⟩ (c_MoReader_symbol l g cs ka H.size n r12 r79 hc79) (va_cwS 1 hg (gw_S wd_755 wd_756 wd_754 wd_753) rfl rfl rfl (by decide +kernel) ⟨Nat.le_of_ble_eq_true rfl, Nat.le_of_ble_eq_true rfl⟩) ⟨gP_blind, gP_pre hPc hDc hK hgl hkn hkr hS hFc⟩ rfl rfl hl.1 rfl (lv_room (Nat.le_of_ble_eq_true rfl)) d_MoPaper_plain_170 ⟨Nat.le_of_ble_eq_true rfl, Nat.le_of_ble_eq_true rfl⟩) hS (fun q _ h => hFc q h) hFc (fun r79' u t H locs ht hvm hr79 hB hz1 hk1 hS => ?_)
                                subst hr79
                                rw [ht] at hB
                                obtain ⟨hP1, hD1⟩ := hB
                                obtain ⟨hP, hD⟩ := jn_A hP hD [] [0, 1, 2] rfl rfl (by decide) (by decide) hk1 hFc hP1 hD1
                                obtain ⟨hP, hD⟩ : PD g A H [(nms, .inr (10, [.ref nms_text, .ref nms_from, .ref nms_next, .ref nms_first, .int nms_size, .int nms_texted])), (nms_text, .inl (cs 1, nms_text_n, .inl nms_text_f)), (nms_from, .inl (cs 0, nms_from_n, .inl nms_from_f))] := ⟨hP, hD⟩
                                refine lv_if_ne hx hb d_MoPaper_plain_173 rfl (fun h80 => ?_) (fun h80 => ?_)
                                · rw [if_neg h80] at hok
                                  refine lv_iinc (k := 2) (v := x5_10 + 1) hx hb d_MoPaper_plain_178 hl rfl rfl (by decide) rfl (fun ls hl => ?_)
                                  have hl : lv_has ls 8 [(5, .int (x5_10 + 1)), (7, .int 1), (6, .int r12), (4, .int 0), (3, .int r3), (2, .int r1), (0, .ref nms), (1, .int kk)] := hl
                                  refine lv_goto hx hb d_MoPaper_plain_181 rfl ?_
                                  exact ih10 _ _ _ (x5_10 + 1) (lv_sub hl [0, 3, 4, 5, 6, 7] rfl) (sub3 hP hD [0, 1, 2] (by decide)) hS hok
                                · rw [if_pos h80] at hok
                                  refine lv_iconst (v := 0) hx hb d_MoPaper_plain_176 (by decide) ?_
                                  have hq := Option.some.inj hok
                                  have hq0 := hq
                                  subst hq0
                                  obtain ⟨hP9, hD9⟩ := sub2 (ws' := [(nms, .inr (10, [.ref nms_text, .ref nms_from, .ref nms_next, .ref nms_first, .int nms_size, .int nms_texted])), (nms_text, .inl (cs 1, nms_text_n, .inl nms_text_f)), (nms_from, .inl (cs 0, nms_from_n, .inl nms_from_f))]) hP hD [0, 1, 2] rfl (by decide) rfl
                                  rw [hQ]
                                  exact W.zret (v := 0) hx hb hr rfl (fun t ht hW => ⟨⟨_, (), rfl, rfl, by rw [ht]; exact hP9, hD9⟩, hS.F ht⟩) hS.2.2 d_MoPaper_plain_177
                              · exact absurd h78 (by decide)
                      · rw [if_neg h61] at hok
                        refine lv_iload hx hb d_MoPaper_plain_120 (lv_at hl 0 rfl) ?_
                        refine lv_bipush (v := 90) hx hb d_MoPaper_plain_122 (by decide) ?_
                        refine lv_icmp_le hx hb d_MoPaper_plain_124 rfl (fun h81 => ?_) (fun h81 => ?_)
                        · rw [if_pos h81] at hok
                          refine lv_iconst (v := 1) hx hb d_MoPaper_plain_148 (by decide) ?_
                          refine lv_goto hx hb d_MoPaper_plain_149 rfl ?_
                          refine lv_istore hx hb d_MoPaper_plain_153 hl (by decide) rfl (fun ls hl => ?_)
                          have hl : lv_has ls 8 [(7, .int 1), (6, .int r12), (5, .int x5_10), (4, .int 0), (3, .int r3), (2, .int r1), (0, .ref nms), (1, .int kk)] := hl
                          refine lv_iload hx hb d_MoPaper_plain_155 (lv_at hl 3 rfl) ?_
                          refine lv_if_eq hx hb d_MoPaper_plain_157 rfl (fun h82 => ?_) (fun h82 => ?_)
                          · refine lv_iload hx hb d_MoPaper_plain_168 (lv_at hl 1 rfl) ?_
                            obtain ⟨r83, hc83, hok⟩ := bd_some hok
                            obtain ⟨hPc, hDc, hFc⟩ := cut0 (wc := []) hP hD hS hA [] (by decide) rfl
                            refine va_calli (va_runS (As := [.int r12]) (rest := []) ⟨hx, hb, hml, hown, hg⟩ (c_MoReader_symbol l g cs ka H.size n r12 r83 hc83) (va_cwS 1 hg (gw_S wd_755 wd_756 wd_754 wd_753) rfl rfl rfl (by decide +kernel) ⟨Nat.le_of_ble_eq_true rfl, Nat.le_of_ble_eq_true rfl⟩) ⟨gP_blind, gP_pre hPc hDc hK hgl hkn hkr hS hFc⟩ rfl rfl hl.1 rfl (lv_room (Nat.le_of_ble_eq_true rfl)) d_MoPaper_plain_170 ⟨Nat.le_of_ble_eq_true rfl, Nat.le_of_ble_eq_true rfl⟩) hS (fun q _ h => hFc q h) hFc (fun r83' u t H locs ht hvm hr83 hB hz1 hk1 hS => ?_)
                            subst hr83
                            rw [ht] at hB
                            obtain ⟨hP1, hD1⟩ := hB
                            obtain ⟨hP, hD⟩ := jn_A hP hD [] [0, 1, 2] rfl rfl (by decide) (by decide) hk1 hFc hP1 hD1
                            obtain ⟨hP, hD⟩ : PD g A H [(nms, .inr (10, [.ref nms_text, .ref nms_from, .ref nms_next, .ref nms_first, .int nms_size, .int nms_texted])), (nms_text, .inl (cs 1, nms_text_n, .inl nms_text_f)), (nms_from, .inl (cs 0, nms_from_n, .inl nms_from_f))] := ⟨hP, hD⟩
                            refine lv_if_ne hx hb d_MoPaper_plain_173 rfl (fun h84 => ?_) (fun h84 => ?_)
                            · rw [if_neg h84] at hok
                              refine lv_iinc (k := 2) (v := x5_10 + 1) hx hb d_MoPaper_plain_178 hl rfl rfl (by decide) rfl (fun ls hl => ?_)
                              have hl : lv_has ls 8 [(5, .int (x5_10 + 1)), (7, .int 1), (6, .int r12), (4, .int 0), (3, .int r3), (2, .int r1), (0, .ref nms), (1, .int kk)] := hl
                              refine lv_goto hx hb d_MoPaper_plain_181 rfl ?_
                              exact ih10 _ _ _ (x5_10 + 1) (lv_sub hl [0, 3, 4, 5, 6, 7] rfl) (sub3 hP hD [0, 1, 2] (by decide)) hS hok
                            · rw [if_pos h84] at hok
                              refine lv_iconst (v := 0) hx hb d_MoPaper_plain_176 (by decide) ?_
                              have hq := Option.some.inj hok
                              have hq0 := hq
                              subst hq0
                              obtain ⟨hP9, hD9⟩ := sub2 (ws' := [(nms, .inr (10, [.ref nms_text, .ref nms_from, .ref nms_next, .ref nms_first, .int nms_size, .int nms_texted])), (nms_text, .inl (cs 1, nms_text_n, .inl nms_text_f)), (nms_from, .inl (cs 0, nms_from_n, .inl nms_from_f))]) hP hD [0, 1, 2] rfl (by decide) rfl
                              rw [hQ]
                              exact W.zret (v := 0) hx hb hr rfl (fun t ht hW => ⟨⟨_, (), rfl, rfl, by rw [ht]; exact hP9, hD9⟩, hS.F ht⟩) hS.2.2 d_MoPaper_plain_177
                          · exact absurd h82 (by decide)
                        · rw [if_neg h81] at hok
                          refine lv_iload hx hb d_MoPaper_plain_127 (lv_at hl 0 rfl) ?_
                          refine lv_bipush (v := 48) hx hb d_MoPaper_plain_129 (by decide) ?_
                          refine lv_icmp_lt hx hb d_MoPaper_plain_131 rfl (fun h85 => ?_) (fun h85 => ?_)
                          · rw [if_pos h85] at hok
                            refine lv_iload hx hb d_MoPaper_plain_141 (lv_at hl 0 rfl) ?_
                            refine lv_bipush (v := 95) hx hb d_MoPaper_plain_143 (by decide) ?_
                            refine lv_icmp_ne hx hb d_MoPaper_plain_145 rfl (fun h86 => ?_) (fun h86 => ?_)
                            · rw [if_neg h86] at hok
                              refine lv_iconst (v := 0) hx hb d_MoPaper_plain_152 (by decide) ?_
                              refine lv_istore hx hb d_MoPaper_plain_153 hl (by decide) rfl (fun ls hl => ?_)
                              have hl : lv_has ls 8 [(7, .int 0), (6, .int r12), (5, .int x5_10), (4, .int 0), (3, .int r3), (2, .int r1), (0, .ref nms), (1, .int kk)] := hl
                              refine lv_iload hx hb d_MoPaper_plain_155 (lv_at hl 3 rfl) ?_
                              refine lv_if_eq hx hb d_MoPaper_plain_157 rfl (fun h87 => ?_) (fun h87 => ?_)
                              · refine lv_iload hx hb d_MoPaper_plain_168 (lv_at hl 1 rfl) ?_
                                obtain ⟨r88, hc88, hok⟩ := bd_some hok
                                obtain ⟨hPc, hDc, hFc⟩ := cut0 (wc := []) hP hD hS hA [] (by decide) rfl
                                refine va_calli (va_runS (As := [.int r12]) (rest := []) ⟨hx, hb, hml, hown, hg⟩ (c_MoReader_symbol l g cs ka H.size n r12 r88 hc88) (va_cwS 1 hg (gw_S wd_755 wd_756 wd_754 wd_753) rfl rfl rfl (by decide +kernel) ⟨Nat.le_of_ble_eq_true rfl, Nat.le_of_ble_eq_true rfl⟩) ⟨gP_blind, gP_pre hPc hDc hK hgl hkn hkr hS hFc⟩ rfl rfl hl.1 rfl (lv_room (Nat.le_of_ble_eq_true rfl)) d_MoPaper_plain_170 ⟨Nat.le_of_ble_eq_true rfl, Nat.le_of_ble_eq_true rfl⟩) hS (fun q _ h => hFc q h) hFc (fun r88' u t H locs ht hvm hr88 hB hz1 hk1 hS => ?_)
                                subst hr88
                                rw [ht] at hB
                                obtain ⟨hP1, hD1⟩ := hB
                                obtain ⟨hP, hD⟩ := jn_A hP hD [] [0, 1, 2] rfl rfl (by decide) (by decide) hk1 hFc hP1 hD1
                                obtain ⟨hP, hD⟩ : PD g A H [(nms, .inr (10, [.ref nms_text, .ref nms_from, .ref nms_next, .ref nms_first, .int nms_size, .int nms_texted])), (nms_text, .inl (cs 1, nms_text_n, .inl nms_text_f)), (nms_from, .inl (cs 0, nms_from_n, .inl nms_from_f))] := ⟨hP, hD⟩
                                refine lv_if_ne hx hb d_MoPaper_plain_173 rfl (fun h89 => ?_) (fun h89 => ?_)
                                · rw [if_neg h89] at hok
                                  refine lv_iinc (k := 2) (v := x5_10 + 1) hx hb d_MoPaper_plain_178 hl rfl rfl (by decide) rfl (fun ls hl => ?_)
                                  have hl : lv_has ls 8 [(5, .int (x5_10 + 1)), (7, .int 0), (6, .int r12), (4, .int 0), (3, .int r3), (2, .int r1), (0, .ref nms), (1, .int kk)] := hl
                                  refine lv_goto hx hb d_MoPaper_plain_181 rfl ?_
                                  exact ih10 _ _ _ (x5_10 + 1) (lv_sub hl [0, 3, 4, 5, 6, 7] rfl) (sub3 hP hD [0, 1, 2] (by decide)) hS hok
                                · rw [if_pos h89] at hok
                                  refine lv_iconst (v := 0) hx hb d_MoPaper_plain_176 (by decide) ?_
                                  have hq := Option.some.inj hok
                                  have hq0 := hq
                                  subst hq0
                                  obtain ⟨hP9, hD9⟩ := sub2 (ws' := [(nms, .inr (10, [.ref nms_text, .ref nms_from, .ref nms_next, .ref nms_first, .int nms_size, .int nms_texted])), (nms_text, .inl (cs 1, nms_text_n, .inl nms_text_f)), (nms_from, .inl (cs 0, nms_from_n, .inl nms_from_f))]) hP hD [0, 1, 2] rfl (by decide) rfl
                                  rw [hQ]
                                  exact W.zret (v := 0) hx hb hr rfl (fun t ht hW => ⟨⟨_, (), rfl, rfl, by rw [ht]; exact hP9, hD9⟩, hS.F ht⟩) hS.2.2 d_MoPaper_plain_177
                              · exact absurd h87 (by decide)
                            · rw [if_pos h86] at hok
                              refine lv_iconst (v := 1) hx hb d_MoPaper_plain_148 (by decide) ?_
                              refine lv_goto hx hb d_MoPaper_plain_149 rfl ?_
                              refine lv_istore hx hb d_MoPaper_plain_153 hl (by decide) rfl (fun ls hl => ?_)
                              have hl : lv_has ls 8 [(7, .int 1), (6, .int r12), (5, .int x5_10), (4, .int 0), (3, .int r3), (2, .int r1), (0, .ref nms), (1, .int kk)] := hl
                              refine lv_iload hx hb d_MoPaper_plain_155 (lv_at hl 3 rfl) ?_
                              refine lv_if_eq hx hb d_MoPaper_plain_157 rfl (fun h90 => ?_) (fun h90 => ?_)
                              · refine lv_iload hx hb d_MoPaper_plain_168 (lv_at hl 1 rfl) ?_
                                obtain ⟨r91, hc91, hok⟩ := bd_some hok
                                obtain ⟨hPc, hDc, hFc⟩ := cut0 (wc := []) hP hD hS hA [] (by decide) rfl
                                refine va_calli (va_runS (As := [.int r12]) (rest := []) ⟨hx, hb, hml, hown, hg⟩ (c_MoReader_symbol l g cs ka H.size n r12 r91 hc91) (va_cwS 1 hg (gw_S wd_755 wd_756 wd_754 wd_753) rfl rfl rfl (by decide +kernel) ⟨Nat.le_of_ble_eq_true rfl, Nat.le_of_ble_eq_true rfl⟩) ⟨gP_blind, gP_pre hPc hDc hK hgl hkn hkr hS hFc⟩ rfl rfl hl.1 rfl (lv_room (Nat.le_of_ble_eq_true rfl)) d_MoPaper_plain_170 ⟨Nat.le_of_ble_eq_true rfl, Nat.le_of_ble_eq_true rfl⟩) hS (fun q _ h => hFc q h) hFc (fun r91' u t H locs ht hvm hr91 hB hz1 hk1 hS => ?_)
                                subst hr91
                                rw [ht] at hB
                                obtain ⟨hP1, hD1⟩ := hB
                                obtain ⟨hP, hD⟩ := jn_A hP hD [] [0, 1, 2] rfl rfl (by decide) (by decide) hk1 hFc hP1 hD1
                                obtain ⟨hP, hD⟩ : PD g A H [(nms, .inr (10, [.ref nms_text, .ref nms_from, .ref nms_next, .ref nms_first, .int nms_size, .int nms_texted])), (nms_text, .inl (cs 1, nms_text_n, .inl nms_text_f)), (nms_from, .inl (cs 0, nms_from_n, .inl nms_from_f))] := ⟨hP, hD⟩
                                refine lv_if_ne hx hb d_MoPaper_plain_173 rfl (fun h92 => ?_) (fun h92 => ?_)
                                · rw [if_neg h92] at hok
                                  refine lv_iinc (k := 2) (v := x5_10 + 1) hx hb d_MoPaper_plain_178 hl rfl rfl (by decide) rfl (fun ls hl => ?_)
                                  have hl : lv_has ls 8 [(5, .int (x5_10 + 1)), (7, .int 1), (6, .int r12), (4, .int 0), (3, .int r3), (2, .int r1), (0, .ref nms), (1, .int kk)] := hl
                                  refine lv_goto hx hb d_MoPaper_plain_181 rfl ?_
                                  exact ih10 _ _ _ (x5_10 + 1) (lv_sub hl [0, 3, 4, 5, 6, 7] rfl) (sub3 hP hD [0, 1, 2] (by decide)) hS hok
                                · rw [if_pos h92] at hok
                                  refine lv_iconst (v := 0) hx hb d_MoPaper_plain_176 (by decide) ?_
                                  have hq := Option.some.inj hok
                                  have hq0 := hq
                                  subst hq0
                                  obtain ⟨hP9, hD9⟩ := sub2 (ws' := [(nms, .inr (10, [.ref nms_text, .ref nms_from, .ref nms_next, .ref nms_first, .int nms_size, .int nms_texted])), (nms_text, .inl (cs 1, nms_text_n, .inl nms_text_f)), (nms_from, .inl (cs 0, nms_from_n, .inl nms_from_f))]) hP hD [0, 1, 2] rfl (by decide) rfl
                                  rw [hQ]
                                  exact W.zret (v := 0) hx hb hr rfl (fun t ht hW => ⟨⟨_, (), rfl, rfl, by rw [ht]; exact hP9, hD9⟩, hS.F ht⟩) hS.2.2 d_MoPaper_plain_177
                              · exact absurd h90 (by decide)
                          · rw [if_neg h85] at hok
                            refine lv_iload hx hb d_MoPaper_plain_134 (lv_at hl 0 rfl) ?_
                            refine lv_bipush (v := 57) hx hb d_MoPaper_plain_136 (by decide) ?_
                            refine lv_icmp_le hx hb d_MoPaper_plain_138 rfl (fun h93 => ?_) (fun h93 => ?_)
                            · rw [if_pos h93] at hok
                              refine lv_iconst (v := 1) hx hb d_MoPaper_plain_148 (by decide) ?_
                              refine lv_goto hx hb d_MoPaper_plain_149 rfl ?_
                              refine lv_istore hx hb d_MoPaper_plain_153 hl (by decide) rfl (fun ls hl => ?_)
                              have hl : lv_has ls 8 [(7, .int 1), (6, .int r12), (5, .int x5_10), (4, .int 0), (3, .int r3), (2, .int r1), (0, .ref nms), (1, .int kk)] := hl
                              refine lv_iload hx hb d_MoPaper_plain_155 (lv_at hl 3 rfl) ?_
                              refine lv_if_eq hx hb d_MoPaper_plain_157 rfl (fun h94 => ?_) (fun h94 => ?_)
                              · refine lv_iload hx hb d_MoPaper_plain_168 (lv_at hl 1 rfl) ?_
                                obtain ⟨r95, hc95, hok⟩ := bd_some hok
                                obtain ⟨hPc, hDc, hFc⟩ := cut0 (wc := []) hP hD hS hA [] (by decide) rfl
                                refine va_calli (va_runS (As := [.int r12]) (rest := []) ⟨hx, hb, hml, hown, hg⟩ (c_MoReader_symbol l g cs ka H.size n r12 r95 hc95) (va_cwS 1 hg (gw_S wd_755 wd_756 wd_754 wd_753) rfl rfl rfl (by decide +kernel) ⟨Nat.le_of_ble_eq_true rfl, Nat.le_of_ble_eq_true rfl⟩) ⟨gP_blind, gP_pre hPc hDc hK hgl hkn hkr hS hFc⟩ rfl rfl hl.1 rfl (lv_room (Nat.le_of_ble_eq_true rfl)) d_MoPaper_plain_170 ⟨Nat.le_of_ble_eq_true rfl, Nat.le_of_ble_eq_true rfl⟩) hS (fun q _ h => hFc q h) hFc (fun r95' u t H locs ht hvm hr95 hB hz1 hk1 hS => ?_)
                                subst hr95
                                rw [ht] at hB
                                obtain ⟨hP1, hD1⟩ := hB
                                obtain ⟨hP, hD⟩ := jn_A hP hD [] [0, 1, 2] rfl rfl (by decide) (by decide) hk1 hFc hP1 hD1
                                obtain ⟨hP, hD⟩ : PD g A H [(nms, .inr (10, [.ref nms_text, .ref nms_from, .ref nms_next, .ref nms_first, .int nms_size, .int nms_texted])), (nms_text, .inl (cs 1, nms_text_n, .inl nms_text_f)), (nms_from, .inl (cs 0, nms_from_n, .inl nms_from_f))] := ⟨hP, hD⟩
                                refine lv_if_ne hx hb d_MoPaper_plain_173 rfl (fun h96 => ?_) (fun h96 => ?_)
                                · rw [if_neg h96] at hok
                                  refine lv_iinc (k := 2) (v := x5_10 + 1) hx hb d_MoPaper_plain_178 hl rfl rfl (by decide) rfl (fun ls hl => ?_)
                                  have hl : lv_has ls 8 [(5, .int (x5_10 + 1)), (7, .int 1), (6, .int r12), (4, .int 0), (3, .int r3), (2, .int r1), (0, .ref nms), (1, .int kk)] := hl
                                  refine lv_goto hx hb d_MoPaper_plain_181 rfl ?_
                                  exact ih10 _ _ _ (x5_10 + 1) (lv_sub hl [0, 3, 4, 5, 6, 7] rfl) (sub3 hP hD [0, 1, 2] (by decide)) hS hok
                                · rw [if_pos h96] at hok
                                  refine lv_iconst (v := 0) hx hb d_MoPaper_plain_176 (by decide) ?_
                                  have hq := Option.some.inj hok
                                  have hq0 := hq
                                  subst hq0
                                  obtain ⟨hP9, hD9⟩ := sub2 (ws' := [(nms, .inr (10, [.ref nms_text, .ref nms_from, .ref nms_next, .ref nms_first, .int nms_size, .int nms_texted])), (nms_text, .inl (cs 1, nms_text_n, .inl nms_text_f)), (nms_from, .inl (cs 0, nms_from_n, .inl nms_from_f))]) hP hD [0, 1, 2] rfl (by decide) rfl
                                  rw [hQ]
                                  exact W.zret (v := 0) hx hb hr rfl (fun t ht hW => ⟨⟨_, (), rfl, rfl, by rw [ht]; exact hP9, hD9⟩, hS.F ht⟩) hS.2.2 d_MoPaper_plain_177
                              · exact absurd h94 (by decide)
                            · rw [if_neg h93] at hok
                              refine lv_iload hx hb d_MoPaper_plain_141 (lv_at hl 0 rfl) ?_
                              refine lv_bipush (v := 95) hx hb d_MoPaper_plain_143 (by decide) ?_
                              refine lv_icmp_ne hx hb d_MoPaper_plain_145 rfl (fun h97 => ?_) (fun h97 => ?_)
                              · rw [if_neg h97] at hok
                                refine lv_iconst (v := 0) hx hb d_MoPaper_plain_152 (by decide) ?_
                                refine lv_istore hx hb d_MoPaper_plain_153 hl (by decide) rfl (fun ls hl => ?_)
                                have hl : lv_has ls 8 [(7, .int 0), (6, .int r12), (5, .int x5_10), (4, .int 0), (3, .int r3), (2, .int r1), (0, .ref nms), (1, .int kk)] := hl
                                refine lv_iload hx hb d_MoPaper_plain_155 (lv_at hl 3 rfl) ?_
                                refine lv_if_eq hx hb d_MoPaper_plain_157 rfl (fun h98 => ?_) (fun h98 => ?_)
                                · refine lv_iload hx hb d_MoPaper_plain_168 (lv_at hl 1 rfl) ?_
                                  obtain ⟨r99, hc99, hok⟩ := bd_some hok
                                  obtain ⟨hPc, hDc, hFc⟩ := cut0 (wc := []) hP hD hS hA [] (by decide) rfl
                                  refine va_calli (va_runS (As := [.int r12]) (rest := []) ⟨hx, hb, hml, hown, hg⟩ (c_MoReader_symbol l g cs ka H.size n r12 r99 hc99) (va_cwS 1 hg (gw_S wd_755 wd_756 wd_754 wd_753) rfl rfl rfl (by decide +kernel) ⟨Nat.le_of_ble_eq_true rfl, Nat.le_of_ble_eq_true rfl⟩) ⟨gP_blind, gP_pre hPc hDc hK hgl hkn hkr hS hFc⟩ rfl rfl hl.1 rfl (lv_room (Nat.le_of_ble_eq_true rfl)) d_MoPaper_plain_170 ⟨Nat.le_of_ble_eq_true rfl, Nat.le_of_ble_eq_true rfl⟩) hS (fun q _ h => hFc q h) hFc (fun r99' u t H locs ht hvm hr99 hB hz1 hk1 hS => ?_)
                                  subst hr99
                                  rw [ht] at hB
                                  obtain ⟨hP1, hD1⟩ := hB
                                  obtain ⟨hP, hD⟩ := jn_A hP hD [] [0, 1, 2] rfl rfl (by decide) (by decide) hk1 hFc hP1 hD1
                                  obtain ⟨hP, hD⟩ : PD g A H [(nms, .inr (10, [.ref nms_text, .ref nms_from, .ref nms_next, .ref nms_first, .int nms_size, .int nms_texted])), (nms_text, .inl (cs 1, nms_text_n, .inl nms_text_f)), (nms_from, .inl (cs 0, nms_from_n, .inl nms_from_f))] := ⟨hP, hD⟩
                                  refine lv_if_ne hx hb d_MoPaper_plain_173 rfl (fun h100 => ?_) (fun h100 => ?_)
                                  · rw [if_neg h100] at hok
                                    refine lv_iinc (k := 2) (v := x5_10 + 1) hx hb d_MoPaper_plain_178 hl rfl rfl (by decide) rfl (fun ls hl => ?_)
                                    have hl : lv_has ls 8 [(5, .int (x5_10 + 1)), (7, .int 0), (6, .int r12), (4, .int 0), (3, .int r3), (2, .int r1), (0, .ref nms), (1, .int kk)] := hl
                                    refine lv_goto hx hb d_MoPaper_plain_181 rfl ?_
                                    exact ih10 _ _ _ (x5_10 + 1) (lv_sub hl [0, 3, 4, 5, 6, 7] rfl) (sub3 hP hD [0, 1, 2] (by decide)) hS hok
                                  · rw [if_pos h100] at hok
                                    refine lv_iconst (v := 0) hx hb d_MoPaper_plain_176 (by decide) ?_
                                    have hq := Option.some.inj hok
                                    have hq0 := hq
                                    subst hq0
                                    obtain ⟨hP9, hD9⟩ := sub2 (ws' := [(nms, .inr (10, [.ref nms_text, .ref nms_from, .ref nms_next, .ref nms_first, .int nms_size, .int nms_texted])), (nms_text, .inl (cs 1, nms_text_n, .inl nms_text_f)), (nms_from, .inl (cs 0, nms_from_n, .inl nms_from_f))]) hP hD [0, 1, 2] rfl (by decide) rfl
                                    rw [hQ]
                                    exact W.zret (v := 0) hx hb hr rfl (fun t ht hW => ⟨⟨_, (), rfl, rfl, by rw [ht]; exact hP9, hD9⟩, hS.F ht⟩) hS.2.2 d_MoPaper_plain_177
                                · exact absurd h98 (by decide)
                              · rw [if_pos h97] at hok
                                refine lv_iconst (v := 1) hx hb d_MoPaper_plain_148 (by decide) ?_
                                refine lv_goto hx hb d_MoPaper_plain_149 rfl ?_
                                refine lv_istore hx hb d_MoPaper_plain_153 hl (by decide) rfl (fun ls hl => ?_)
                                have hl : lv_has ls 8 [(7, .int 1), (6, .int r12), (5, .int x5_10), (4, .int 0), (3, .int r3), (2, .int r1), (0, .ref nms), (1, .int kk)] := hl
                                refine lv_iload hx hb d_MoPaper_plain_155 (lv_at hl 3 rfl) ?_
                                refine lv_if_eq hx hb d_MoPaper_plain_157 rfl (fun h101 => ?_) (fun h101 => ?_)
                                · refine lv_iload hx hb d_MoPaper_plain_168 (lv_at hl 1 rfl) ?_
                                  obtain ⟨r102, hc102, hok⟩ := bd_some hok
                                  obtain ⟨hPc, hDc, hFc⟩ := cut0 (wc := []) hP hD hS hA [] (by decide) rfl
                                  refine va_calli (va_runS (As := [.int r12]) (rest := []) ⟨hx, hb, hml, hown, hg⟩ (c_MoReader_symbol l g cs ka H.size n r12 r102 hc102) (va_cwS 1 hg (gw_S wd_755 wd_756 wd_754 wd_753) rfl rfl rfl (by decide +kernel) ⟨Nat.le_of_ble_eq_true rfl, Nat.le_of_ble_eq_true rfl⟩) ⟨gP_blind, gP_pre hPc hDc hK hgl hkn hkr hS hFc⟩ rfl rfl hl.1 rfl (lv_room (Nat.le_of_ble_eq_true rfl)) d_MoPaper_plain_170 ⟨Nat.le_of_ble_eq_true rfl, Nat.le_of_ble_eq_true rfl⟩) hS (fun q _ h => hFc q h) hFc (fun r102' u t H locs ht hvm hr102 hB hz1 hk1 hS => ?_)
                                  subst hr102
                                  rw [ht] at hB
                                  obtain ⟨hP1, hD1⟩ := hB
                                  obtain ⟨hP, hD⟩ := jn_A hP hD [] [0, 1, 2] rfl rfl (by decide) (by decide) hk1 hFc hP1 hD1
                                  obtain ⟨hP, hD⟩ : PD g A H [(nms, .inr (10, [.ref nms_text, .ref nms_from, .ref nms_next, .ref nms_first, .int nms_size, .int nms_texted])), (nms_text, .inl (cs 1, nms_text_n, .inl nms_text_f)), (nms_from, .inl (cs 0, nms_from_n, .inl nms_from_f))] := ⟨hP, hD⟩
                                  refine lv_if_ne hx hb d_MoPaper_plain_173 rfl (fun h103 => ?_) (fun h103 => ?_)
                                  · rw [if_neg h103] at hok
                                    refine lv_iinc (k := 2) (v := x5_10 + 1) hx hb d_MoPaper_plain_178 hl rfl rfl (by decide) rfl (fun ls hl => ?_)
                                    have hl : lv_has ls 8 [(5, .int (x5_10 + 1)), (7, .int 1), (6, .int r12), (4, .int 0), (3, .int r3), (2, .int r1), (0, .ref nms), (1, .int kk)] := hl
                                    refine lv_goto hx hb d_MoPaper_plain_181 rfl ?_
                                    exact ih10 _ _ _ (x5_10 + 1) (lv_sub hl [0, 3, 4, 5, 6, 7] rfl) (sub3 hP hD [0, 1, 2] (by decide)) hS hok
                                  · rw [if_pos h103] at hok
                                    refine lv_iconst (v := 0) hx hb d_MoPaper_plain_176 (by decide) ?_
                                    have hq := Option.some.inj hok
                                    have hq0 := hq
                                    subst hq0
                                    obtain ⟨hP9, hD9⟩ := sub2 (ws' := [(nms, .inr (10, [.ref nms_text, .ref nms_from, .ref nms_next, .ref nms_first, .int nms_size, .int nms_texted])), (nms_text, .inl (cs 1, nms_text_n, .inl nms_text_f)), (nms_from, .inl (cs 0, nms_from_n, .inl nms_from_f))]) hP hD [0, 1, 2] rfl (by decide) rfl
                                    rw [hQ]
                                    exact W.zret (v := 0) hx hb hr rfl (fun t ht hW => ⟨⟨_, (), rfl, rfl, by rw [ht]; exact hP9, hD9⟩, hS.F ht⟩) hS.2.2 d_MoPaper_plain_177
                                · exact absurd h101 (by decide)
            exact J10 n H locs ls (0 : Int32) hl ⟨hP, hD⟩ hS hok
          · rw [if_neg h9] at hok
            refine lv_iload_n hx hb d_MoPaper_plain_68 rfl (lv_at hl 0 rfl) ?_
            refine lv_bipush (v := 122) hx hb d_MoPaper_plain_69 (by decide) ?_
            refine lv_icmp_gt hx hb d_MoPaper_plain_71 rfl (fun h104 => ?_) (fun h104 => ?_)
            · rw [if_pos h104] at hok
              refine lv_iconst (v := 0) hx hb d_MoPaper_plain_78 (by decide) ?_
              refine lv_istore hx hb d_MoPaper_plain_79 hl (by decide) rfl (fun ls hl => ?_)
              have hl : lv_has ls 8 [(4, .int 0), (3, .int r3), (2, .int r1), (0, .ref nms), (1, .int kk)] := hl
              refine lv_iconst (v := 0) hx hb d_MoPaper_plain_81 (by decide) ?_
              refine lv_istore hx hb d_MoPaper_plain_82 hl (by decide) rfl (fun ls hl => ?_)
              have hl : lv_has ls 8 [(5, .int 0), (4, .int 0), (3, .int r3), (2, .int r1), (0, .ref nms), (1, .int kk)] := hl
              have J105 : ∀ (kf105 : Nat) (H : Heap) (locs : List Loc) (ls : Array Slot) (x5_105 : Int32), lv_has ls 8 [(5, .int x5_105), (4, .int 0), (3, .int r3), (2, .int r1), (0, .ref nms), (1, .int kk)] → PD g A H [(nms, .inr (10, [.ref nms_text, .ref nms_from, .ref nms_next, .ref nms_first, .int nms_size, .int nms_texted])), (nms_text, .inl (cs 1, nms_text_n, .inl nms_text_f)), (nms_from, .inl (cs 0, nms_from_n, .inl nms_from_f))] → va_S A s.heap H locs → p_MoPaper_plain_84_105 n kk nms_size nms_texted nms_text_n nms_text_f nms_from_n nms_from_f r1 kf105 x5_105 = some r → W p l e (headSpec (.code y_MoPaper_plain b_MoPaper_plain 8 (some .boolean) :: GW) { frames := 5, cells := 0, slots := 0, locals := 111 }).room s m ([.ref nms, .int kk] : List Value).toArray below meth c H locs 0 0 Q (F0 m 84 ls []) := by
                intro kf105
                induction kf105 with
                | zero => intro H locs ls x5_105 hl ⟨hP, hD⟩ hS hok; rw [p_MoPaper_plain_84_105] at hok; cases hok
                | succ kf105 ih105 =>
                  intro H locs ls x5_105 hl ⟨hP, hD⟩ hS hok
                  rw [p_MoPaper_plain_84_105] at hok
                  refine lv_iload hx hb d_MoPaper_plain_84 (lv_at hl 0 rfl) ?_
                  refine lv_iload_n hx hb d_MoPaper_plain_86 rfl (lv_at hl 3 rfl) ?_
                  refine lv_icmp_ge hx hb d_MoPaper_plain_87 rfl (fun h106 => ?_) (fun h106 => ?_)
                  · rw [if_pos h106] at hok
                    refine lv_iconst (v := 1) hx hb d_MoPaper_plain_184 (by decide) ?_
                    have hq := Option.some.inj hok
                    have hq0 := hq
                    subst hq0
                    obtain ⟨hP9, hD9⟩ := sub2 (ws' := [(nms, .inr (10, [.ref nms_text, .ref nms_from, .ref nms_next, .ref nms_first, .int nms_size, .int nms_texted])), (nms_text, .inl (cs 1, nms_text_n, .inl nms_text_f)), (nms_from, .inl (cs 0, nms_from_n, .inl nms_from_f))]) hP hD [0, 1, 2] rfl (by decide) rfl
                    rw [hQ]
                    exact W.zret (v := 1) hx hb hr rfl (fun t ht hW => ⟨⟨_, (), rfl, rfl, by rw [ht]; exact hP9, hD9⟩, hS.F ht⟩) hS.2.2 d_MoPaper_plain_185
                  · rw [if_neg h106] at hok
                    refine lv_aload_n hx hb d_MoPaper_plain_90 rfl (lv_at hl 4 rfl) ?_
                    refine lv_iload_n hx hb d_MoPaper_plain_91 rfl (lv_at hl 5 rfl) ?_
                    refine lv_iload hx hb d_MoPaper_plain_92 (lv_at hl 0 rfl) ?_
                    obtain ⟨r107, hc107, hok⟩ := bd_some hok
                    obtain ⟨hPc, hDc, hFc⟩ := cut0 (wc := [(nms, .inr (10, [.ref nms_text, .ref nms_from, .ref nms_next, .ref nms_first, .int nms_size, .int nms_texted])), (nms_text, .inl (cs 1, nms_text_n, .inl nms_text_f)), (nms_from, .inl (cs 0, nms_from_n, .inl nms_from_f))]) hP hD hS hA [0, 1, 2] (by decide) rfl
                    refine va_calli (va_runV (As := [.int kk, .int x5_105]) (rest := []) ⟨hx, hb, hml, hown, hg⟩ (c_MoNames_at l g cs ka nms_next nms_first nms nms_text nms_from H.size kk x5_105 nms_size nms_texted nms_text_n nms_text_f nms_from_n nms_from_f r107 hc107) (cwV (C := R_MoNames) 2 hg (gw_V wd_748 wd_728 wd_729 wd_717 wd_726) rfl rfl rfl (by decide +kernel) ⟨Nat.le_of_ble_eq_true rfl, Nat.le_of_ble_eq_true rfl⟩) ⟨gP_blind, va_recv (q0 := 0) (ci := 10) (q := (R_MoNames, F_MoNames, 6)) hK hP rfl rfl, gP_pre hPc hDc hK hgl hkn hkr hS hFc⟩ rfl rfl hl.1 rfl (lv_room (Nat.le_of_ble_eq_true rfl)) d_MoPaper_plain_94 ⟨Nat.le_of_ble_eq_true rfl, Nat.le_of_ble_eq_true rfl⟩) hS (fun q _ h => hFc q h) hFc (fun r107' u t H locs ht hvm hr107 hB hz1 hk1 hS => ?_)
                    subst hr107
                    rw [ht] at hB
                    obtain ⟨hP1, hD1⟩ := hB
                    obtain ⟨hP, hD⟩ := jn_A hP hD [0, 1, 2] [] rfl rfl (by decide) (by decide) hk1 hFc hP1 hD1
                    obtain ⟨hP, hD⟩ : PD g A H [(nms, .inr (10, [.ref nms_text, .ref nms_from, .ref nms_next, .ref nms_first, .int nms_size, .int nms_texted])), (nms_text, .inl (cs 1, nms_text_n, .inl nms_text_f)), (nms_from, .inl (cs 0, nms_from_n, .inl nms_from_f))] := ⟨hP, hD⟩
                    refine lv_istore hx hb d_MoPaper_plain_97 hl (by decide) rfl (fun ls hl => ?_)
                    have hl : lv_has ls 8 [(6, .int r107), (5, .int x5_105), (4, .int 0), (3, .int r3), (2, .int r1), (0, .ref nms), (1, .int kk)] := hl
                    refine lv_iload hx hb d_MoPaper_plain_99 (lv_at hl 0 rfl) ?_
                    refine lv_bipush (v := 97) hx hb d_MoPaper_plain_101 (by decide) ?_
                    refine lv_icmp_lt hx hb d_MoPaper_plain_103 rfl (fun h108 => ?_) (fun h108 => ?_)
                    · rw [if_pos h108] at hok
                      refine lv_iload hx hb d_MoPaper_plain_113 (lv_at hl 0 rfl) ?_
                      refine lv_bipush (v := 65) hx hb d_MoPaper_plain_115 (by decide) ?_
                      refine lv_icmp_lt hx hb d_MoPaper_plain_117 rfl (fun h109 => ?_) (fun h109 => ?_)
                      · rw [if_pos h109] at hok
                        refine lv_iload hx hb d_MoPaper_plain_127 (lv_at hl 0 rfl) ?_
                        refine lv_bipush (v := 48) hx hb d_MoPaper_plain_129 (by decide) ?_
                        refine lv_icmp_lt hx hb d_MoPaper_plain_131 rfl (fun h110 => ?_) (fun h110 => ?_)
                        · rw [if_pos h110] at hok
                          refine lv_iload hx hb d_MoPaper_plain_141 (lv_at hl 0 rfl) ?_
                          refine lv_bipush (v := 95) hx hb d_MoPaper_plain_143 (by decide) ?_
                          refine lv_icmp_ne hx hb d_MoPaper_plain_145 rfl (fun h111 => ?_) (fun h111 => ?_)
                          · rw [if_neg h111] at hok
                            refine lv_iconst (v := 0) hx hb d_MoPaper_plain_152 (by decide) ?_
                            refine lv_istore hx hb d_MoPaper_plain_153 hl (by decide) rfl (fun ls hl => ?_)
                            have hl : lv_has ls 8 [(7, .int 0), (6, .int r107), (5, .int x5_105), (4, .int 0), (3, .int r3), (2, .int r1), (0, .ref nms), (1, .int kk)] := hl
                            refine lv_iload hx hb d_MoPaper_plain_155 (lv_at hl 3 rfl) ?_
                            refine lv_if_eq hx hb d_MoPaper_plain_157 rfl (fun h112 => ?_) (fun h112 => ?_)
                            · refine lv_iload hx hb d_MoPaper_plain_168 (lv_at hl 1 rfl) ?_
                              obtain ⟨r113, hc113, hok⟩ := bd_some hok
                              obtain ⟨hPc, hDc, hFc⟩ := cut0 (wc := []) hP hD hS hA [] (by decide) rfl
                              refine va_calli (va_runS (As := [.int r107]) (rest := []) ⟨hx, hb, hml, hown, hg⟩ (c_MoReader_symbol l g cs ka H.size n r107 r113 hc113) (va_cwS 1 hg (gw_S wd_755 wd_756 wd_754 wd_753) rfl rfl rfl (by decide +kernel) ⟨Nat.le_of_ble_eq_true rfl, Nat.le_of_ble_eq_true rfl⟩) ⟨gP_blind, gP_pre hPc hDc hK hgl hkn hkr hS hFc⟩ rfl rfl hl.1 rfl (lv_room (Nat.le_of_ble_eq_true rfl)) d_MoPaper_plain_170 ⟨Nat.le_of_ble_eq_true rfl, Nat.le_of_ble_eq_true rfl⟩) hS (fun q _ h => hFc q h) hFc (fun r113' u t H locs ht hvm hr113 hB hz1 hk1 hS => ?_)
                              subst hr113
                              rw [ht] at hB
                              obtain ⟨hP1, hD1⟩ := hB
                              obtain ⟨hP, hD⟩ := jn_A hP hD [] [0, 1, 2] rfl rfl (by decide) (by decide) hk1 hFc hP1 hD1
                              obtain ⟨hP, hD⟩ : PD g A H [(nms, .inr (10, [.ref nms_text, .ref nms_from, .ref nms_next, .ref nms_first, .int nms_size, .int nms_texted])), (nms_text, .inl (cs 1, nms_text_n, .inl nms_text_f)), (nms_from, .inl (cs 0, nms_from_n, .inl nms_from_f))] := ⟨hP, hD⟩
                              refine lv_if_ne hx hb d_MoPaper_plain_173 rfl (fun h114 => ?_) (fun h114 => ?_)
                              · rw [if_neg h114] at hok
                                refine lv_iinc (k := 2) (v := x5_105 + 1) hx hb d_MoPaper_plain_178 hl rfl rfl (by decide) rfl (fun ls hl => ?_)
                                have hl : lv_has ls 8 [(5, .int (x5_105 + 1)), (7, .int 0), (6, .int r107), (4, .int 0), (3, .int r3), (2, .int r1), (0, .ref nms), (1, .int kk)] := hl
                                refine lv_goto hx hb d_MoPaper_plain_181 rfl ?_
                                exact ih105 _ _ _ (x5_105 + 1) (lv_sub hl [0, 3, 4, 5, 6, 7] rfl) (sub3 hP hD [0, 1, 2] (by decide)) hS hok
                              · rw [if_pos h114] at hok
                                refine lv_iconst (v := 0) hx hb d_MoPaper_plain_176 (by decide) ?_
                                have hq := Option.some.inj hok
                                have hq0 := hq
                                subst hq0
                                obtain ⟨hP9, hD9⟩ := sub2 (ws' := [(nms, .inr (10, [.ref nms_text, .ref nms_from, .ref nms_next, .ref nms_first, .int nms_size, .int nms_texted])), (nms_text, .inl (cs 1, nms_text_n, .inl nms_text_f)), (nms_from, .inl (cs 0, nms_from_n, .inl nms_from_f))]) hP hD [0, 1, 2] rfl (by decide) rfl
                                rw [hQ]
                                exact W.zret (v := 0) hx hb hr rfl (fun t ht hW => ⟨⟨_, (), rfl, rfl, by rw [ht]; exact hP9, hD9⟩, hS.F ht⟩) hS.2.2 d_MoPaper_plain_177
                            · exact absurd h112 (by decide)
                          · rw [if_pos h111] at hok
                            refine lv_iconst (v := 1) hx hb d_MoPaper_plain_148 (by decide) ?_
                            refine lv_goto hx hb d_MoPaper_plain_149 rfl ?_
                            refine lv_istore hx hb d_MoPaper_plain_153 hl (by decide) rfl (fun ls hl => ?_)
                            have hl : lv_has ls 8 [(7, .int 1), (6, .int r107), (5, .int x5_105), (4, .int 0), (3, .int r3), (2, .int r1), (0, .ref nms), (1, .int kk)] := hl
                            refine lv_iload hx hb d_MoPaper_plain_155 (lv_at hl 3 rfl) ?_
                            refine lv_if_eq hx hb d_MoPaper_plain_157 rfl (fun h115 => ?_) (fun h115 => ?_)
                            · refine lv_iload hx hb d_MoPaper_plain_168 (lv_at hl 1 rfl) ?_
                              obtain ⟨r116, hc116, hok⟩ := bd_some hok
                              obtain ⟨hPc, hDc, hFc⟩ := cut0 (wc := []) hP hD hS hA [] (by decide) rfl
                              refine va_calli (va_runS (As := [.int r107]) (rest := []) ⟨hx, hb, hml, hown, hg⟩ (c_MoReader_symbol l g cs ka H.size n r107 r116 hc116) (va_cwS 1 hg (gw_S wd_755 wd_756 wd_754 wd_753) rfl rfl rfl (by decide +kernel) ⟨Nat.le_of_ble_eq_true rfl, Nat.le_of_ble_eq_true rfl⟩) ⟨gP_blind, gP_pre hPc hDc hK hgl hkn hkr hS hFc⟩ rfl rfl hl.1 rfl (lv_room (Nat.le_of_ble_eq_true rfl)) d_MoPaper_plain_170 ⟨Nat.le_of_ble_eq_true rfl, Nat.le_of_ble_eq_true rfl⟩) hS (fun q _ h => hFc q h) hFc (fun r116' u t H locs ht hvm hr116 hB hz1 hk1 hS => ?_)
                              subst hr116
                              rw [ht] at hB
                              obtain ⟨hP1, hD1⟩ := hB
                              obtain ⟨hP, hD⟩ := jn_A hP hD [] [0, 1, 2] rfl rfl (by decide) (by decide) hk1 hFc hP1 hD1
                              obtain ⟨hP, hD⟩ : PD g A H [(nms, .inr (10, [.ref nms_text, .ref nms_from, .ref nms_next, .ref nms_first, .int nms_size, .int nms_texted])), (nms_text, .inl (cs 1, nms_text_n, .inl nms_text_f)), (nms_from, .inl (cs 0, nms_from_n, .inl nms_from_f))] := ⟨hP, hD⟩
                              refine lv_if_ne hx hb d_MoPaper_plain_173 rfl (fun h117 => ?_) (fun h117 => ?_)
                              · rw [if_neg h117] at hok
                                refine lv_iinc (k := 2) (v := x5_105 + 1) hx hb d_MoPaper_plain_178 hl rfl rfl (by decide) rfl (fun ls hl => ?_)
                                have hl : lv_has ls 8 [(5, .int (x5_105 + 1)), (7, .int 1), (6, .int r107), (4, .int 0), (3, .int r3), (2, .int r1), (0, .ref nms), (1, .int kk)] := hl
                                refine lv_goto hx hb d_MoPaper_plain_181 rfl ?_
                                exact ih105 _ _ _ (x5_105 + 1) (lv_sub hl [0, 3, 4, 5, 6, 7] rfl) (sub3 hP hD [0, 1, 2] (by decide)) hS hok
                              · rw [if_pos h117] at hok
                                refine lv_iconst (v := 0) hx hb d_MoPaper_plain_176 (by decide) ?_
                                have hq := Option.some.inj hok
                                have hq0 := hq
                                subst hq0
                                obtain ⟨hP9, hD9⟩ := sub2 (ws' := [(nms, .inr (10, [.ref nms_text, .ref nms_from, .ref nms_next, .ref nms_first, .int nms_size, .int nms_texted])), (nms_text, .inl (cs 1, nms_text_n, .inl nms_text_f)), (nms_from, .inl (cs 0, nms_from_n, .inl nms_from_f))]) hP hD [0, 1, 2] rfl (by decide) rfl
                                rw [hQ]
                                exact W.zret (v := 0) hx hb hr rfl (fun t ht hW => ⟨⟨_, (), rfl, rfl, by rw [ht]; exact hP9, hD9⟩, hS.F ht⟩) hS.2.2 d_MoPaper_plain_177
                            · exact absurd h115 (by decide)
                        · rw [if_neg h110] at hok
                          refine lv_iload hx hb d_MoPaper_plain_134 (lv_at hl 0 rfl) ?_
                          refine lv_bipush (v := 57) hx hb d_MoPaper_plain_136 (by decide) ?_
                          refine lv_icmp_le hx hb d_MoPaper_plain_138 rfl (fun h118 => ?_) (fun h118 => ?_)
                          · rw [if_pos h118] at hok
                            refine lv_iconst (v := 1) hx hb d_MoPaper_plain_148 (by decide) ?_
                            refine lv_goto hx hb d_MoPaper_plain_149 rfl ?_
                            refine lv_istore hx hb d_MoPaper_plain_153 hl (by decide) rfl (fun ls hl => ?_)
                            have hl : lv_has ls 8 [(7, .int 1), (6, .int r107), (5, .int x5_105), (4, .int 0), (3, .int r3), (2, .int r1), (0, .ref nms), (1, .int kk)] := hl
                            refine lv_iload hx hb d_MoPaper_plain_155 (lv_at hl 3 rfl) ?_
                            refine lv_if_eq hx hb d_MoPaper_plain_157 rfl (fun h119 => ?_) (fun h119 => ?_)
                            · refine lv_iload hx hb d_MoPaper_plain_168 (lv_at hl 1 rfl) ?_
                              obtain ⟨r120, hc120, hok⟩ := bd_some hok
                              obtain ⟨hPc, hDc, hFc⟩ := cut0 (wc := []) hP hD hS hA [] (by decide) rfl
                              refine va_calli (va_runS (As := [.int r107]) (rest := []) ⟨hx, hb, hml, hown, hg⟩ (c_MoReader_symbol l g cs ka H.size n r107 r120 hc120) (va_cwS 1 hg (gw_S wd_755 wd_756 wd_754 wd_753) rfl rfl rfl (by decide +kernel) ⟨Nat.le_of_ble_eq_true rfl, Nat.le_of_ble_eq_true rfl⟩) ⟨gP_blind, gP_pre hPc hDc hK hgl hkn hkr hS hFc⟩ rfl rfl hl.1 rfl (lv_room (Nat.le_of_ble_eq_true rfl)) d_MoPaper_plain_170 ⟨Nat.le_of_ble_eq_true rfl, Nat.le_of_ble_eq_true rfl⟩) hS (fun q _ h => hFc q h) hFc (fun r120' u t H locs ht hvm hr120 hB hz1 hk1 hS => ?_)
                              subst hr120
                              rw [ht] at hB
                              obtain ⟨hP1, hD1⟩ := hB
                              obtain ⟨hP, hD⟩ := jn_A hP hD [] [0, 1, 2] rfl rfl (by decide) (by decide) hk1 hFc hP1 hD1
                              obtain ⟨hP, hD⟩ : PD g A H [(nms, .inr (10, [.ref nms_text, .ref nms_from, .ref nms_next, .ref nms_first, .int nms_size, .int nms_texted])), (nms_text, .inl (cs 1, nms_text_n, .inl nms_text_f)), (nms_from, .inl (cs 0, nms_from_n, .inl nms_from_f))] := ⟨hP, hD⟩
                              refine lv_if_ne hx hb d_MoPaper_plain_173 rfl (fun h121 => ?_) (fun h121 => ?_)
                              · rw [if_neg h121] at hok
                                refine lv_iinc (k := 2) (v := x5_105 + 1) hx hb d_MoPaper_plain_178 hl rfl rfl (by decide) rfl (fun ls hl => ?_)
                                have hl : lv_has ls 8 [(5, .int (x5_105 + 1)), (7, .int 1), (6, .int r107), (4, .int 0), (3, .int r3), (2, .int r1), (0, .ref nms), (1, .int kk)] := hl
                                refine lv_goto hx hb d_MoPaper_plain_181 rfl ?_
                                exact ih105 _ _ _ (x5_105 + 1) (lv_sub hl [0, 3, 4, 5, 6, 7] rfl) (sub3 hP hD [0, 1, 2] (by decide)) hS hok
                              · rw [if_pos h121] at hok
                                refine lv_iconst (v := 0) hx hb d_MoPaper_plain_176 (by decide) ?_
                                have hq := Option.some.inj hok
                                have hq0 := hq
                                subst hq0
                                obtain ⟨hP9, hD9⟩ := sub2 (ws' := [(nms, .inr (10, [.ref nms_text, .ref nms_from, .ref nms_next, .ref nms_first, .int nms_size, .int nms_texted])), (nms_text, .inl (cs 1, nms_text_n, .inl nms_text_f)), (nms_from, .inl (cs 0, nms_from_n, .inl nms_from_f))]) hP hD [0, 1, 2] rfl (by decide) rfl
                                rw [hQ]
                                exact W.zret (v := 0) hx hb hr rfl (fun t ht hW => ⟨⟨_, (), rfl, rfl, by rw [ht]; exact hP9, hD9⟩, hS.F ht⟩) hS.2.2 d_MoPaper_plain_177
                            · exact absurd h119 (by decide)
                          · rw [if_neg h118] at hok
                            refine lv_iload hx hb d_MoPaper_plain_141 (lv_at hl 0 rfl) ?_
                            refine lv_bipush (v := 95) hx hb d_MoPaper_plain_143 (by decide) ?_
                            refine lv_icmp_ne hx hb d_MoPaper_plain_145 rfl (fun h122 => ?_) (fun h122 => ?_)
                            · rw [if_neg h122] at hok
                              refine lv_iconst (v := 0) hx hb d_MoPaper_plain_152 (by decide) ?_
                              refine lv_istore hx hb d_MoPaper_plain_153 hl (by decide) rfl (fun ls hl => ?_)
                              have hl : lv_has ls 8 [(7, .int 0), (6, .int r107), (5, .int x5_105), (4, .int 0), (3, .int r3), (2, .int r1), (0, .ref nms), (1, .int kk)] := hl
                              refine lv_iload hx hb d_MoPaper_plain_155 (lv_at hl 3 rfl) ?_
                              refine lv_if_eq hx hb d_MoPaper_plain_157 rfl (fun h123 => ?_) (fun h123 => ?_)
                              · refine lv_iload hx hb d_MoPaper_plain_168 (lv_at hl 1 rfl) ?_
                                obtain ⟨r124, hc124, hok⟩ := bd_some hok
                                obtain ⟨hPc, hDc, hFc⟩ := cut0 (wc := []) hP hD hS hA [] (by decide) rfl
                                refine va_calli (va_runS (As := [.int r107]) (rest := []) ⟨hx, hb, hml, hown, hg⟩ (c_MoReader_symbol l g cs ka H.size n r107 r124 hc124) (va_cwS 1 hg (gw_S wd_755 wd_756 wd_754 wd_753) rfl rfl rfl (by decide +kernel) ⟨Nat.le_of_ble_eq_true rfl, Nat.le_of_ble_eq_true rfl⟩) ⟨gP_blind, gP_pre hPc hDc hK hgl hkn hkr hS hFc⟩ rfl rfl hl.1 rfl (lv_room (Nat.le_of_ble_eq_true rfl)) d_MoPaper_plain_170 ⟨Nat.le_of_ble_eq_true rfl, Nat.le_of_ble_eq_true rfl⟩) hS (fun q _ h => hFc q h) hFc (fun r124' u t H locs ht hvm hr124 hB hz1 hk1 hS => ?_)
                                subst hr124
                                rw [ht] at hB
                                obtain ⟨hP1, hD1⟩ := hB
                                obtain ⟨hP, hD⟩ := jn_A hP hD [] [0, 1, 2] rfl rfl (by decide) (by decide) hk1 hFc hP1 hD1
                                obtain ⟨hP, hD⟩ : PD g A H [(nms, .inr (10, [.ref nms_text, .ref nms_from, .ref nms_next, .ref nms_first, .int nms_size, .int nms_texted])), (nms_text, .inl (cs 1, nms_text_n, .inl nms_text_f)), (nms_from, .inl (cs 0, nms_from_n, .inl nms_from_f))] := ⟨hP, hD⟩
                                refine lv_if_ne hx hb d_MoPaper_plain_173 rfl (fun h125 => ?_) (fun h125 => ?_)
                                · rw [if_neg h125] at hok
                                  refine lv_iinc (k := 2) (v := x5_105 + 1) hx hb d_MoPaper_plain_178 hl rfl rfl (by decide) rfl (fun ls hl => ?_)
                                  have hl : lv_has ls 8 [(5, .int (x5_105 + 1)), (7, .int 0), (6, .int r107), (4, .int 0), (3, .int r3), (2, .int r1), (0, .ref nms), (1, .int kk)] := hl
                                  refine lv_goto hx hb d_MoPaper_plain_181 rfl ?_
                                  exact ih105 _ _ _ (x5_105 + 1) (lv_sub hl [0, 3, 4, 5, 6, 7] rfl) (sub3 hP hD [0, 1, 2] (by decide)) hS hok
                                · rw [if_pos h125] at hok
                                  refine lv_iconst (v := 0) hx hb d_MoPaper_plain_176 (by decide) ?_
                                  have hq := Option.some.inj hok
                                  have hq0 := hq
                                  subst hq0
                                  obtain ⟨hP9, hD9⟩ := sub2 (ws' := [(nms, .inr (10, [.ref nms_text, .ref nms_from, .ref nms_next, .ref nms_first, .int nms_size, .int nms_texted])), (nms_text, .inl (cs 1, nms_text_n, .inl nms_text_f)), (nms_from, .inl (cs 0, nms_from_n, .inl nms_from_f))]) hP hD [0, 1, 2] rfl (by decide) rfl
                                  rw [hQ]
                                  exact W.zret (v := 0) hx hb hr rfl (fun t ht hW => ⟨⟨_, (), rfl, rfl, by rw [ht]; exact hP9, hD9⟩, hS.F ht⟩) hS.2.2 d_MoPaper_plain_177
                              · exact absurd h123 (by decide)
                            · rw [if_pos h122] at hok
                              refine lv_iconst (v := 1) hx hb d_MoPaper_plain_148 (by decide) ?_
                              refine lv_goto hx hb d_MoPaper_plain_149 rfl ?_
                              refine lv_istore hx hb d_MoPaper_plain_153 hl (by decide) rfl (fun ls hl => ?_)
                              have hl : lv_has ls 8 [(7, .int 1), (6, .int r107), (5, .int x5_105), (4, .int 0), (3, .int r3), (2, .int r1), (0, .ref nms), (1, .int kk)] := hl
                              refine lv_iload hx hb d_MoPaper_plain_155 (lv_at hl 3 rfl) ?_
                              refine lv_if_eq hx hb d_MoPaper_plain_157 rfl (fun h126 => ?_) (fun h126 => ?_)
                              · refine lv_iload hx hb d_MoPaper_plain_168 (lv_at hl 1 rfl) ?_
                                obtain ⟨r127, hc127, hok⟩ := bd_some hok
                                obtain ⟨hPc, hDc, hFc⟩ := cut0 (wc := []) hP hD hS hA [] (by decide) rfl
                                refine va_calli (va_runS (As := [.int r107]) (rest := []) ⟨hx, hb, hml, hown, hg⟩ (c_MoReader_symbol l g cs ka H.size n r107 r127 hc127) (va_cwS 1 hg (gw_S wd_755 wd_756 wd_754 wd_753) rfl rfl rfl (by decide +kernel) ⟨Nat.le_of_ble_eq_true rfl, Nat.le_of_ble_eq_true rfl⟩) ⟨gP_blind, gP_pre hPc hDc hK hgl hkn hkr hS hFc⟩ rfl rfl hl.1 rfl (lv_room (Nat.le_of_ble_eq_true rfl)) d_MoPaper_plain_170 ⟨Nat.le_of_ble_eq_true rfl, Nat.le_of_ble_eq_true rfl⟩) hS (fun q _ h => hFc q h) hFc (fun r127' u t H locs ht hvm hr127 hB hz1 hk1 hS => ?_)
                                subst hr127
                                rw [ht] at hB
                                obtain ⟨hP1, hD1⟩ := hB
                                obtain ⟨hP, hD⟩ := jn_A hP hD [] [0, 1, 2] rfl rfl (by decide) (by decide) hk1 hFc hP1 hD1
                                obtain ⟨hP, hD⟩ : PD g A H [(nms, .inr (10, [.ref nms_text, .ref nms_from, .ref nms_next, .ref nms_first, .int nms_size, .int nms_texted])), (nms_text, .inl (cs 1, nms_text_n, .inl nms_text_f)), (nms_from, .inl (cs 0, nms_from_n, .inl nms_from_f))] := ⟨hP, hD⟩
                                refine lv_if_ne hx hb d_MoPaper_plain_173 rfl (fun h128 => ?_) (fun h128 => ?_)
                                · rw [if_neg h128] at hok
                                  refine lv_iinc (k := 2) (v := x5_105 + 1) hx hb d_MoPaper_plain_178 hl rfl rfl (by decide) rfl (fun ls hl => ?_)
                                  have hl : lv_has ls 8 [(5, .int (x5_105 + 1)), (7, .int 1), (6, .int r107), (4, .int 0), (3, .int r3), (2, .int r1), (0, .ref nms), (1, .int kk)] := hl
                                  refine lv_goto hx hb d_MoPaper_plain_181 rfl ?_
                                  exact ih105 _ _ _ (x5_105 + 1) (lv_sub hl [0, 3, 4, 5, 6, 7] rfl) (sub3 hP hD [0, 1, 2] (by decide)) hS hok
                                · rw [if_pos h128] at hok
                                  refine lv_iconst (v := 0) hx hb d_MoPaper_plain_176 (by decide) ?_
                                  have hq := Option.some.inj hok
                                  have hq0 := hq
                                  subst hq0
                                  obtain ⟨hP9, hD9⟩ := sub2 (ws' := [(nms, .inr (10, [.ref nms_text, .ref nms_from, .ref nms_next, .ref nms_first, .int nms_size, .int nms_texted])), (nms_text, .inl (cs 1, nms_text_n, .inl nms_text_f)), (nms_from, .inl (cs 0, nms_from_n, .inl nms_from_f))]) hP hD [0, 1, 2] rfl (by decide) rfl
                                  rw [hQ]
                                  exact W.zret (v := 0) hx hb hr rfl (fun t ht hW => ⟨⟨_, (), rfl, rfl, by rw [ht]; exact hP9, hD9⟩, hS.F ht⟩) hS.2.2 d_MoPaper_plain_177
                              · exact absurd h126 (by decide)
                      · rw [if_neg h109] at hok
                        refine lv_iload hx hb d_MoPaper_plain_120 (lv_at hl 0 rfl) ?_
                        refine lv_bipush (v := 90) hx hb d_MoPaper_plain_122 (by decide) ?_
                        refine lv_icmp_le hx hb d_MoPaper_plain_124 rfl (fun h129 => ?_) (fun h129 => ?_)
                        · rw [if_pos h129] at hok
                          refine lv_iconst (v := 1) hx hb d_MoPaper_plain_148 (by decide) ?_
                          refine lv_goto hx hb d_MoPaper_plain_149 rfl ?_
                          refine lv_istore hx hb d_MoPaper_plain_153 hl (by decide) rfl (fun ls hl => ?_)
                          have hl : lv_has ls 8 [(7, .int 1), (6, .int r107), (5, .int x5_105), (4, .int 0), (3, .int r3), (2, .int r1), (0, .ref nms), (1, .int kk)] := hl
                          refine lv_iload hx hb d_MoPaper_plain_155 (lv_at hl 3 rfl) ?_
                          refine lv_if_eq hx hb d_MoPaper_plain_157 rfl (fun h130 => ?_) (fun h130 => ?_)
                          · refine lv_iload hx hb d_MoPaper_plain_168 (lv_at hl 1 rfl) ?_
                            obtain ⟨r131, hc131, hok⟩ := bd_some hok
                            obtain ⟨hPc, hDc, hFc⟩ := cut0 (wc := []) hP hD hS hA [] (by decide) rfl
                            refine va_calli (va_runS (As := [.int r107]) (rest := []) ⟨hx, hb, hml, hown, hg⟩ (c_MoReader_symbol l g cs ka H.size n r107 r131 hc131) (va_cwS 1 hg (gw_S wd_755 wd_756 wd_754 wd_753) rfl rfl rfl (by decide +kernel) ⟨Nat.le_of_ble_eq_true rfl, Nat.le_of_ble_eq_true rfl⟩) ⟨gP_blind, gP_pre hPc hDc hK hgl hkn hkr hS hFc⟩ rfl rfl hl.1 rfl (lv_room (Nat.le_of_ble_eq_true rfl)) d_MoPaper_plain_170 ⟨Nat.le_of_ble_eq_true rfl, Nat.le_of_ble_eq_true rfl⟩) hS (fun q _ h => hFc q h) hFc (fun r131' u t H locs ht hvm hr131 hB hz1 hk1 hS => ?_)
                            subst hr131
                            rw [ht] at hB
                            obtain ⟨hP1, hD1⟩ := hB
                            obtain ⟨hP, hD⟩ := jn_A hP hD [] [0, 1, 2] rfl rfl (by decide) (by decide) hk1 hFc hP1 hD1
                            obtain ⟨hP, hD⟩ : PD g A H [(nms, .inr (10, [.ref nms_text, .ref nms_from, .ref nms_next, .ref nms_first, .int nms_size, .int nms_texted])), (nms_text, .inl (cs 1, nms_text_n, .inl nms_text_f)), (nms_from, .inl (cs 0, nms_from_n, .inl nms_from_f))] := ⟨hP, hD⟩
                            refine lv_if_ne hx hb d_MoPaper_plain_173 rfl (fun h132 => ?_) (fun h132 => ?_)
                            · rw [if_neg h132] at hok
                              refine lv_iinc (k := 2) (v := x5_105 + 1) hx hb d_MoPaper_plain_178 hl rfl rfl (by decide) rfl (fun ls hl => ?_)
                              have hl : lv_has ls 8 [(5, .int (x5_105 + 1)), (7, .int 1), (6, .int r107), (4, .int 0), (3, .int r3), (2, .int r1), (0, .ref nms), (1, .int kk)] := hl
                              refine lv_goto hx hb d_MoPaper_plain_181 rfl ?_
                              exact ih105 _ _ _ (x5_105 + 1) (lv_sub hl [0, 3, 4, 5, 6, 7] rfl) (sub3 hP hD [0, 1, 2] (by decide)) hS hok
                            · rw [if_pos h132] at hok
                              refine lv_iconst (v := 0) hx hb d_MoPaper_plain_176 (by decide) ?_
                              have hq := Option.some.inj hok
                              have hq0 := hq
                              subst hq0
                              obtain ⟨hP9, hD9⟩ := sub2 (ws' := [(nms, .inr (10, [.ref nms_text, .ref nms_from, .ref nms_next, .ref nms_first, .int nms_size, .int nms_texted])), (nms_text, .inl (cs 1, nms_text_n, .inl nms_text_f)), (nms_from, .inl (cs 0, nms_from_n, .inl nms_from_f))]) hP hD [0, 1, 2] rfl (by decide) rfl
                              rw [hQ]
                              exact W.zret (v := 0) hx hb hr rfl (fun t ht hW => ⟨⟨_, (), rfl, rfl, by rw [ht]; exact hP9, hD9⟩, hS.F ht⟩) hS.2.2 d_MoPaper_plain_177
                          · exact absurd h130 (by decide)
                        · rw [if_neg h129] at hok
                          refine lv_iload hx hb d_MoPaper_plain_127 (lv_at hl 0 rfl) ?_
                          refine lv_bipush (v := 48) hx hb d_MoPaper_plain_129 (by decide) ?_
                          refine lv_icmp_lt hx hb d_MoPaper_plain_131 rfl (fun h133 => ?_) (fun h133 => ?_)
                          · rw [if_pos h133] at hok
                            refine lv_iload hx hb d_MoPaper_plain_141 (lv_at hl 0 rfl) ?_
                            refine lv_bipush (v := 95) hx hb d_MoPaper_plain_143 (by decide) ?_
                            refine lv_icmp_ne hx hb d_MoPaper_plain_145 rfl (fun h134 => ?_) (fun h134 => ?_)
                            · rw [if_neg h134] at hok
                              refine lv_iconst (v := 0) hx hb d_MoPaper_plain_152 (by decide) ?_
                              refine lv_istore hx hb d_MoPaper_plain_153 hl (by decide) rfl (fun ls hl => ?_)
                              have hl : lv_has ls 8 [(7, .int 0), (6, .int r107), (5, .int x5_105), (4, .int 0), (3, .int r3), (2, .int r1), (0, .ref nms), (1, .int kk)] := hl
                              refine lv_iload hx hb d_MoPaper_plain_155 (lv_at hl 3 rfl) ?_
                              refine lv_if_eq hx hb d_MoPaper_plain_157 rfl (fun h135 => ?_) (fun h135 => ?_)
                              · refine lv_iload hx hb d_MoPaper_plain_168 (lv_at hl 1 rfl) ?_
                                obtain ⟨r136, hc136, hok⟩ := bd_some hok
                                obtain ⟨hPc, hDc, hFc⟩ := cut0 (wc := []) hP hD hS hA [] (by decide) rfl
                                refine va_calli (va_runS (As := [.int r107]) (rest := []) ⟨hx, hb, hml, hown, hg⟩ (c_MoReader_symbol l g cs ka H.size n r107 r136 hc136) (va_cwS 1 hg (gw_S wd_755 wd_756 wd_754 wd_753) rfl rfl rfl (by decide +kernel) ⟨Nat.le_of_ble_eq_true rfl, Nat.le_of_ble_eq_true rfl⟩) ⟨gP_blind, gP_pre hPc hDc hK hgl hkn hkr hS hFc⟩ rfl rfl hl.1 rfl (lv_room (Nat.le_of_ble_eq_true rfl)) d_MoPaper_plain_170 ⟨Nat.le_of_ble_eq_true rfl, Nat.le_of_ble_eq_true rfl⟩) hS (fun q _ h => hFc q h) hFc (fun r136' u t H locs ht hvm hr136 hB hz1 hk1 hS => ?_)
                                subst hr136
                                rw [ht] at hB
                                obtain ⟨hP1, hD1⟩ := hB
                                obtain ⟨hP, hD⟩ := jn_A hP hD [] [0, 1, 2] rfl rfl (by decide) (by decide) hk1 hFc hP1 hD1
                                obtain ⟨hP, hD⟩ : PD g A H [(nms, .inr (10, [.ref nms_text, .ref nms_from, .ref nms_next, .ref nms_first, .int nms_size, .int nms_texted])), (nms_text, .inl (cs 1, nms_text_n, .inl nms_text_f)), (nms_from, .inl (cs 0, nms_from_n, .inl nms_from_f))] := ⟨hP, hD⟩
                                refine lv_if_ne hx hb d_MoPaper_plain_173 rfl (fun h137 => ?_) (fun h137 => ?_)
                                · rw [if_neg h137] at hok
                                  refine lv_iinc (k := 2) (v := x5_105 + 1) hx hb d_MoPaper_plain_178 hl rfl rfl (by decide) rfl (fun ls hl => ?_)
                                  have hl : lv_has ls 8 [(5, .int (x5_105 + 1)), (7, .int 0), (6, .int r107), (4, .int 0), (3, .int r3), (2, .int r1), (0, .ref nms), (1, .int kk)] := hl
                                  refine lv_goto hx hb d_MoPaper_plain_181 rfl ?_
                                  exact ih105 _ _ _ (x5_105 + 1) (lv_sub hl [0, 3, 4, 5, 6, 7] rfl) (sub3 hP hD [0, 1, 2] (by decide)) hS hok
                                · rw [if_pos h137] at hok
                                  refine lv_iconst (v := 0) hx hb d_MoPaper_plain_176 (by decide) ?_
                                  have hq := Option.some.inj hok
                                  have hq0 := hq
                                  subst hq0
                                  obtain ⟨hP9, hD9⟩ := sub2 (ws' := [(nms, .inr (10, [.ref nms_text, .ref nms_from, .ref nms_next, .ref nms_first, .int nms_size, .int nms_texted])), (nms_text, .inl (cs 1, nms_text_n, .inl nms_text_f)), (nms_from, .inl (cs 0, nms_from_n, .inl nms_from_f))]) hP hD [0, 1, 2] rfl (by decide) rfl
                                  rw [hQ]
                                  exact W.zret (v := 0) hx hb hr rfl (fun t ht hW => ⟨⟨_, (), rfl, rfl, by rw [ht]; exact hP9, hD9⟩, hS.F ht⟩) hS.2.2 d_MoPaper_plain_177
                              · exact absurd h135 (by decide)
                            · rw [if_pos h134] at hok
                              refine lv_iconst (v := 1) hx hb d_MoPaper_plain_148 (by decide) ?_
                              refine lv_goto hx hb d_MoPaper_plain_149 rfl ?_
                              refine lv_istore hx hb d_MoPaper_plain_153 hl (by decide) rfl (fun ls hl => ?_)
                              have hl : lv_has ls 8 [(7, .int 1), (6, .int r107), (5, .int x5_105), (4, .int 0), (3, .int r3), (2, .int r1), (0, .ref nms), (1, .int kk)] := hl
                              refine lv_iload hx hb d_MoPaper_plain_155 (lv_at hl 3 rfl) ?_
                              refine lv_if_eq hx hb d_MoPaper_plain_157 rfl (fun h138 => ?_) (fun h138 => ?_)
                              · refine lv_iload hx hb d_MoPaper_plain_168 (lv_at hl 1 rfl) ?_
                                obtain ⟨r139, hc139, hok⟩ := bd_some hok
                                obtain ⟨hPc, hDc, hFc⟩ := cut0 (wc := []) hP hD hS hA [] (by decide) rfl
                                refine va_calli (va_runS (As := [.int r107]) (rest := []) ⟨hx, hb, hml, hown, hg⟩ (c_MoReader_symbol l g cs ka H.size n r107 r139 hc139) (va_cwS 1 hg (gw_S wd_755 wd_756 wd_754 wd_753) rfl rfl rfl (by decide +kernel) ⟨Nat.le_of_ble_eq_true rfl, Nat.le_of_ble_eq_true rfl⟩) ⟨gP_blind, gP_pre hPc hDc hK hgl hkn hkr hS hFc⟩ rfl rfl hl.1 rfl (lv_room (Nat.le_of_ble_eq_true rfl)) d_MoPaper_plain_170 ⟨Nat.le_of_ble_eq_true rfl, Nat.le_of_ble_eq_true rfl⟩) hS (fun q _ h => hFc q h) hFc (fun r139' u t H locs ht hvm hr139 hB hz1 hk1 hS => ?_)
                                subst hr139
                                rw [ht] at hB
                                obtain ⟨hP1, hD1⟩ := hB
                                obtain ⟨hP, hD⟩ := jn_A hP hD [] [0, 1, 2] rfl rfl (by decide) (by decide) hk1 hFc hP1 hD1
                                obtain ⟨hP, hD⟩ : PD g A H [(nms, .inr (10, [.ref nms_text, .ref nms_from, .ref nms_next, .ref nms_first, .int nms_size, .int nms_texted])), (nms_text, .inl (cs 1, nms_text_n, .inl nms_text_f)), (nms_from, .inl (cs 0, nms_from_n, .inl nms_from_f))] := ⟨hP, hD⟩
                                refine lv_if_ne hx hb d_MoPaper_plain_173 rfl (fun h140 => ?_) (fun h140 => ?_)
                                · rw [if_neg h140] at hok
                                  refine lv_iinc (k := 2) (v := x5_105 + 1) hx hb d_MoPaper_plain_178 hl rfl rfl (by decide) rfl (fun ls hl => ?_)
                                  have hl : lv_has ls 8 [(5, .int (x5_105 + 1)), (7, .int 1), (6, .int r107), (4, .int 0), (3, .int r3), (2, .int r1), (0, .ref nms), (1, .int kk)] := hl
                                  refine lv_goto hx hb d_MoPaper_plain_181 rfl ?_
                                  exact ih105 _ _ _ (x5_105 + 1) (lv_sub hl [0, 3, 4, 5, 6, 7] rfl) (sub3 hP hD [0, 1, 2] (by decide)) hS hok
                                · rw [if_pos h140] at hok
                                  refine lv_iconst (v := 0) hx hb d_MoPaper_plain_176 (by decide) ?_
                                  have hq := Option.some.inj hok
                                  have hq0 := hq
                                  subst hq0
                                  obtain ⟨hP9, hD9⟩ := sub2 (ws' := [(nms, .inr (10, [.ref nms_text, .ref nms_from, .ref nms_next, .ref nms_first, .int nms_size, .int nms_texted])), (nms_text, .inl (cs 1, nms_text_n, .inl nms_text_f)), (nms_from, .inl (cs 0, nms_from_n, .inl nms_from_f))]) hP hD [0, 1, 2] rfl (by decide) rfl
                                  rw [hQ]
                                  exact W.zret (v := 0) hx hb hr rfl (fun t ht hW => ⟨⟨_, (), rfl, rfl, by rw [ht]; exact hP9, hD9⟩, hS.F ht⟩) hS.2.2 d_MoPaper_plain_177
                              · exact absurd h138 (by decide)
                          · rw [if_neg h133] at hok
                            refine lv_iload hx hb d_MoPaper_plain_134 (lv_at hl 0 rfl) ?_
                            refine lv_bipush (v := 57) hx hb d_MoPaper_plain_136 (by decide) ?_
                            refine lv_icmp_le hx hb d_MoPaper_plain_138 rfl (fun h141 => ?_) (fun h141 => ?_)
                            · rw [if_pos h141] at hok
                              refine lv_iconst (v := 1) hx hb d_MoPaper_plain_148 (by decide) ?_
                              refine lv_goto hx hb d_MoPaper_plain_149 rfl ?_
                              refine lv_istore hx hb d_MoPaper_plain_153 hl (by decide) rfl (fun ls hl => ?_)
                              have hl : lv_has ls 8 [(7, .int 1), (6, .int r107), (5, .int x5_105), (4, .int 0), (3, .int r3), (2, .int r1), (0, .ref nms), (1, .int kk)] := hl
                              refine lv_iload hx hb d_MoPaper_plain_155 (lv_at hl 3 rfl) ?_
                              refine lv_if_eq hx hb d_MoPaper_plain_157 rfl (fun h142 => ?_) (fun h142 => ?_)
                              · refine lv_iload hx hb d_MoPaper_plain_168 (lv_at hl 1 rfl) ?_
                                obtain ⟨r143, hc143, hok⟩ := bd_some hok
                                obtain ⟨hPc, hDc, hFc⟩ := cut0 (wc := []) hP hD hS hA [] (by decide) rfl
                                refine va_calli (va_runS (As := [.int r107]) (rest := []) ⟨hx, hb, hml, hown, hg⟩ (c_MoReader_symbol l g cs ka H.size n r107 r143 hc143) (va_cwS 1 hg (gw_S wd_755 wd_756 wd_754 wd_753) rfl rfl rfl (by decide +kernel) ⟨Nat.le_of_ble_eq_true rfl, Nat.le_of_ble_eq_true rfl⟩) ⟨gP_blind, gP_pre hPc hDc hK hgl hkn hkr hS hFc⟩ rfl rfl hl.1 rfl (lv_room (Nat.le_of_ble_eq_true rfl)) d_MoPaper_plain_170 ⟨Nat.le_of_ble_eq_true rfl, Nat.le_of_ble_eq_true rfl⟩) hS (fun q _ h => hFc q h) hFc (fun r143' u t H locs ht hvm hr143 hB hz1 hk1 hS => ?_)
                                subst hr143
                                rw [ht] at hB
                                obtain ⟨hP1, hD1⟩ := hB
                                obtain ⟨hP, hD⟩ := jn_A hP hD [] [0, 1, 2] rfl rfl (by decide) (by decide) hk1 hFc hP1 hD1
                                obtain ⟨hP, hD⟩ : PD g A H [(nms, .inr (10, [.ref nms_text, .ref nms_from, .ref nms_next, .ref nms_first, .int nms_size, .int nms_texted])), (nms_text, .inl (cs 1, nms_text_n, .inl nms_text_f)), (nms_from, .inl (cs 0, nms_from_n, .inl nms_from_f))] := ⟨hP, hD⟩
                                refine lv_if_ne hx hb d_MoPaper_plain_173 rfl (fun h144 => ?_) (fun h144 => ?_)
                                · rw [if_neg h144] at hok
                                  refine lv_iinc (k := 2) (v := x5_105 + 1) hx hb d_MoPaper_plain_178 hl rfl rfl (by decide) rfl (fun ls hl => ?_)
                                  have hl : lv_has ls 8 [(5, .int (x5_105 + 1)), (7, .int 1), (6, .int r107), (4, .int 0), (3, .int r3), (2, .int r1), (0, .ref nms), (1, .int kk)] := hl
                                  refine lv_goto hx hb d_MoPaper_plain_181 rfl ?_
                                  exact ih105 _ _ _ (x5_105 + 1) (lv_sub hl [0, 3, 4, 5, 6, 7] rfl) (sub3 hP hD [0, 1, 2] (by decide)) hS hok
                                · rw [if_pos h144] at hok
                                  refine lv_iconst (v := 0) hx hb d_MoPaper_plain_176 (by decide) ?_
                                  have hq := Option.some.inj hok
                                  have hq0 := hq
                                  subst hq0
                                  obtain ⟨hP9, hD9⟩ := sub2 (ws' := [(nms, .inr (10, [.ref nms_text, .ref nms_from, .ref nms_next, .ref nms_first, .int nms_size, .int nms_texted])), (nms_text, .inl (cs 1, nms_text_n, .inl nms_text_f)), (nms_from, .inl (cs 0, nms_from_n, .inl nms_from_f))]) hP hD [0, 1, 2] rfl (by decide) rfl
                                  rw [hQ]
                                  exact W.zret (v := 0) hx hb hr rfl (fun t ht hW => ⟨⟨_, (), rfl, rfl, by rw [ht]; exact hP9, hD9⟩, hS.F ht⟩) hS.2.2 d_MoPaper_plain_177
                              · exact absurd h142 (by decide)
                            · rw [if_neg h141] at hok
                              refine lv_iload hx hb d_MoPaper_plain_141 (lv_at hl 0 rfl) ?_
                              refine lv_bipush (v := 95) hx hb d_MoPaper_plain_143 (by decide) ?_
                              refine lv_icmp_ne hx hb d_MoPaper_plain_145 rfl (fun h145 => ?_) (fun h145 => ?_)
                              · rw [if_neg h145] at hok
                                refine lv_iconst (v := 0) hx hb d_MoPaper_plain_152 (by decide) ?_
                                refine lv_istore hx hb d_MoPaper_plain_153 hl (by decide) rfl (fun ls hl => ?_)
                                have hl : lv_has ls 8 [(7, .int 0), (6, .int r107), (5, .int x5_105), (4, .int 0), (3, .int r3), (2, .int r1), (0, .ref nms), (1, .int kk)] := hl
                                refine lv_iload hx hb d_MoPaper_plain_155 (lv_at hl 3 rfl) ?_
                                refine lv_if_eq hx hb d_MoPaper_plain_157 rfl (fun h146 => ?_) (fun h146 => ?_)
                                · refine lv_iload hx hb d_MoPaper_plain_168 (lv_at hl 1 rfl) ?_
                                  obtain ⟨r147, hc147, hok⟩ := bd_some hok
                                  obtain ⟨hPc, hDc, hFc⟩ := cut0 (wc := []) hP hD hS hA [] (by decide) rfl
                                  refine va_calli (va_runS (As := [.int r107]) (rest := []) ⟨hx, hb, hml, hown, hg⟩ (c_MoReader_symbol l g cs ka H.size n r107 r147 hc147) (va_cwS 1 hg (gw_S wd_755 wd_756 wd_754 wd_753) rfl rfl rfl (by decide +kernel) ⟨Nat.le_of_ble_eq_true rfl, Nat.le_of_ble_eq_true rfl⟩) ⟨gP_blind, gP_pre hPc hDc hK hgl hkn hkr hS hFc⟩ rfl rfl hl.1 rfl (lv_room (Nat.le_of_ble_eq_true rfl)) d_MoPaper_plain_170 ⟨Nat.le_of_ble_eq_true rfl, Nat.le_of_ble_eq_true rfl⟩) hS (fun q _ h => hFc q h) hFc (fun r147' u t H locs ht hvm hr147 hB hz1 hk1 hS => ?_)
                                  subst hr147
                                  rw [ht] at hB
                                  obtain ⟨hP1, hD1⟩ := hB
                                  obtain ⟨hP, hD⟩ := jn_A hP hD [] [0, 1, 2] rfl rfl (by decide) (by decide) hk1 hFc hP1 hD1
                                  obtain ⟨hP, hD⟩ : PD g A H [(nms, .inr (10, [.ref nms_text, .ref nms_from, .ref nms_next, .ref nms_first, .int nms_size, .int nms_texted])), (nms_text, .inl (cs 1, nms_text_n, .inl nms_text_f)), (nms_from, .inl (cs 0, nms_from_n, .inl nms_from_f))] := ⟨hP, hD⟩
                                  refine lv_if_ne hx hb d_MoPaper_plain_173 rfl (fun h148 => ?_) (fun h148 => ?_)
                                  · rw [if_neg h148] at hok
                                    refine lv_iinc (k := 2) (v := x5_105 + 1) hx hb d_MoPaper_plain_178 hl rfl rfl (by decide) rfl (fun ls hl => ?_)
                                    have hl : lv_has ls 8 [(5, .int (x5_105 + 1)), (7, .int 0), (6, .int r107), (4, .int 0), (3, .int r3), (2, .int r1), (0, .ref nms), (1, .int kk)] := hl
                                    refine lv_goto hx hb d_MoPaper_plain_181 rfl ?_
                                    exact ih105 _ _ _ (x5_105 + 1) (lv_sub hl [0, 3, 4, 5, 6, 7] rfl) (sub3 hP hD [0, 1, 2] (by decide)) hS hok
                                  · rw [if_pos h148] at hok
                                    refine lv_iconst (v := 0) hx hb d_MoPaper_plain_176 (by decide) ?_
                                    have hq := Option.some.inj hok
                                    have hq0 := hq
                                    subst hq0
                                    obtain ⟨hP9, hD9⟩ := sub2 (ws' := [(nms, .inr (10, [.ref nms_text, .ref nms_from, .ref nms_next, .ref nms_first, .int nms_size, .int nms_texted])), (nms_text, .inl (cs 1, nms_text_n, .inl nms_text_f)), (nms_from, .inl (cs 0, nms_from_n, .inl nms_from_f))]) hP hD [0, 1, 2] rfl (by decide) rfl
                                    rw [hQ]
                                    exact W.zret (v := 0) hx hb hr rfl (fun t ht hW => ⟨⟨_, (), rfl, rfl, by rw [ht]; exact hP9, hD9⟩, hS.F ht⟩) hS.2.2 d_MoPaper_plain_177
                                · exact absurd h146 (by decide)
                              · rw [if_pos h145] at hok
                                refine lv_iconst (v := 1) hx hb d_MoPaper_plain_148 (by decide) ?_
                                refine lv_goto hx hb d_MoPaper_plain_149 rfl ?_
                                refine lv_istore hx hb d_MoPaper_plain_153 hl (by decide) rfl (fun ls hl => ?_)
                                have hl : lv_has ls 8 [(7, .int 1), (6, .int r107), (5, .int x5_105), (4, .int 0), (3, .int r3), (2, .int r1), (0, .ref nms), (1, .int kk)] := hl
                                refine lv_iload hx hb d_MoPaper_plain_155 (lv_at hl 3 rfl) ?_
                                refine lv_if_eq hx hb d_MoPaper_plain_157 rfl (fun h149 => ?_) (fun h149 => ?_)
                                · refine lv_iload hx hb d_MoPaper_plain_168 (lv_at hl 1 rfl) ?_
                                  obtain ⟨r150, hc150, hok⟩ := bd_some hok
                                  obtain ⟨hPc, hDc, hFc⟩ := cut0 (wc := []) hP hD hS hA [] (by decide) rfl
                                  refine va_calli (va_runS (As := [.int r107]) (rest := []) ⟨hx, hb, hml, hown, hg⟩ (c_MoReader_symbol l g cs ka H.size n r107 r150 hc150) (va_cwS 1 hg (gw_S wd_755 wd_756 wd_754 wd_753) rfl rfl rfl (by decide +kernel) ⟨Nat.le_of_ble_eq_true rfl, Nat.le_of_ble_eq_true rfl⟩) ⟨gP_blind, gP_pre hPc hDc hK hgl hkn hkr hS hFc⟩ rfl rfl hl.1 rfl (lv_room (Nat.le_of_ble_eq_true rfl)) d_MoPaper_plain_170 ⟨Nat.le_of_ble_eq_true rfl, Nat.le_of_ble_eq_true rfl⟩) hS (fun q _ h => hFc q h) hFc (fun r150' u t H locs ht hvm hr150 hB hz1 hk1 hS => ?_)
                                  subst hr150
                                  rw [ht] at hB
                                  obtain ⟨hP1, hD1⟩ := hB
                                  obtain ⟨hP, hD⟩ := jn_A hP hD [] [0, 1, 2] rfl rfl (by decide) (by decide) hk1 hFc hP1 hD1
                                  obtain ⟨hP, hD⟩ : PD g A H [(nms, .inr (10, [.ref nms_text, .ref nms_from, .ref nms_next, .ref nms_first, .int nms_size, .int nms_texted])), (nms_text, .inl (cs 1, nms_text_n, .inl nms_text_f)), (nms_from, .inl (cs 0, nms_from_n, .inl nms_from_f))] := ⟨hP, hD⟩
                                  refine lv_if_ne hx hb d_MoPaper_plain_173 rfl (fun h151 => ?_) (fun h151 => ?_)
                                  · rw [if_neg h151] at hok
                                    refine lv_iinc (k := 2) (v := x5_105 + 1) hx hb d_MoPaper_plain_178 hl rfl rfl (by decide) rfl (fun ls hl => ?_)
                                    have hl : lv_has ls 8 [(5, .int (x5_105 + 1)), (7, .int 1), (6, .int r107), (4, .int 0), (3, .int r3), (2, .int r1), (0, .ref nms), (1, .int kk)] := hl
                                    refine lv_goto hx hb d_MoPaper_plain_181 rfl ?_
                                    exact ih105 _ _ _ (x5_105 + 1) (lv_sub hl [0, 3, 4, 5, 6, 7] rfl) (sub3 hP hD [0, 1, 2] (by decide)) hS hok
                                  · rw [if_pos h151] at hok
                                    refine lv_iconst (v := 0) hx hb d_MoPaper_plain_176 (by decide) ?_
                                    have hq := Option.some.inj hok
                                    have hq0 := hq
                                    subst hq0
                                    obtain ⟨hP9, hD9⟩ := sub2 (ws' := [(nms, .inr (10, [.ref nms_text, .ref nms_from, .ref nms_next, .ref nms_first, .int nms_size, .int nms_texted])), (nms_text, .inl (cs 1, nms_text_n, .inl nms_text_f)), (nms_from, .inl (cs 0, nms_from_n, .inl nms_from_f))]) hP hD [0, 1, 2] rfl (by decide) rfl
                                    rw [hQ]
                                    exact W.zret (v := 0) hx hb hr rfl (fun t ht hW => ⟨⟨_, (), rfl, rfl, by rw [ht]; exact hP9, hD9⟩, hS.F ht⟩) hS.2.2 d_MoPaper_plain_177
                                · exact absurd h149 (by decide)
                    · rw [if_neg h108] at hok
                      refine lv_iload hx hb d_MoPaper_plain_106 (lv_at hl 0 rfl) ?_
                      refine lv_bipush (v := 122) hx hb d_MoPaper_plain_108 (by decide) ?_
                      refine lv_icmp_le hx hb d_MoPaper_plain_110 rfl (fun h152 => ?_) (fun h152 => ?_)
                      · rw [if_pos h152] at hok
                        refine lv_iconst (v := 1) hx hb d_MoPaper_plain_148 (by decide) ?_
                        refine lv_goto hx hb d_MoPaper_plain_149 rfl ?_
                        refine lv_istore hx hb d_MoPaper_plain_153 hl (by decide) rfl (fun ls hl => ?_)
                        have hl : lv_has ls 8 [(7, .int 1), (6, .int r107), (5, .int x5_105), (4, .int 0), (3, .int r3), (2, .int r1), (0, .ref nms), (1, .int kk)] := hl
                        refine lv_iload hx hb d_MoPaper_plain_155 (lv_at hl 3 rfl) ?_
                        refine lv_if_eq hx hb d_MoPaper_plain_157 rfl (fun h153 => ?_) (fun h153 => ?_)
                        · refine lv_iload hx hb d_MoPaper_plain_168 (lv_at hl 1 rfl) ?_
                          obtain ⟨r154, hc154, hok⟩ := bd_some hok
                          obtain ⟨hPc, hDc, hFc⟩ := cut0 (wc := []) hP hD hS hA [] (by decide) rfl
                          refine va_calli (va_runS (As := [.int r107]) (rest := []) ⟨hx, hb, hml, hown, hg⟩ (c_MoReader_symbol l g cs ka H.size n r107 r154 hc154) (va_cwS 1 hg (gw_S wd_755 wd_756 wd_754 wd_753) rfl rfl rfl (by decide +kernel) ⟨Nat.le_of_ble_eq_true rfl, Nat.le_of_ble_eq_true rfl⟩) ⟨gP_blind, gP_pre hPc hDc hK hgl hkn hkr hS hFc⟩ rfl rfl hl.1 rfl (lv_room (Nat.le_of_ble_eq_true rfl)) d_MoPaper_plain_170 ⟨Nat.le_of_ble_eq_true rfl, Nat.le_of_ble_eq_true rfl⟩) hS (fun q _ h => hFc q h) hFc (fun r154' u t H locs ht hvm hr154 hB hz1 hk1 hS => ?_)
                          subst hr154
                          rw [ht] at hB
                          obtain ⟨hP1, hD1⟩ := hB
                          obtain ⟨hP, hD⟩ := jn_A hP hD [] [0, 1, 2] rfl rfl (by decide) (by decide) hk1 hFc hP1 hD1
                          obtain ⟨hP, hD⟩ : PD g A H [(nms, .inr (10, [.ref nms_text, .ref nms_from, .ref nms_next, .ref nms_first, .int nms_size, .int nms_texted])), (nms_text, .inl (cs 1, nms_text_n, .inl nms_text_f)), (nms_from, .inl (cs 0, nms_from_n, .inl nms_from_f))] := ⟨hP, hD⟩
                          refine lv_if_ne hx hb d_MoPaper_plain_173 rfl (fun h155 => ?_) (fun h155 => ?_)
                          · rw [if_neg h155] at hok
                            refine lv_iinc (k := 2) (v := x5_105 + 1) hx hb d_MoPaper_plain_178 hl rfl rfl (by decide) rfl (fun ls hl => ?_)
                            have hl : lv_has ls 8 [(5, .int (x5_105 + 1)), (7, .int 1), (6, .int r107), (4, .int 0), (3, .int r3), (2, .int r1), (0, .ref nms), (1, .int kk)] := hl
                            refine lv_goto hx hb d_MoPaper_plain_181 rfl ?_
                            exact ih105 _ _ _ (x5_105 + 1) (lv_sub hl [0, 3, 4, 5, 6, 7] rfl) (sub3 hP hD [0, 1, 2] (by decide)) hS hok
                          · rw [if_pos h155] at hok
                            refine lv_iconst (v := 0) hx hb d_MoPaper_plain_176 (by decide) ?_
                            have hq := Option.some.inj hok
                            have hq0 := hq
                            subst hq0
                            obtain ⟨hP9, hD9⟩ := sub2 (ws' := [(nms, .inr (10, [.ref nms_text, .ref nms_from, .ref nms_next, .ref nms_first, .int nms_size, .int nms_texted])), (nms_text, .inl (cs 1, nms_text_n, .inl nms_text_f)), (nms_from, .inl (cs 0, nms_from_n, .inl nms_from_f))]) hP hD [0, 1, 2] rfl (by decide) rfl
                            rw [hQ]
                            exact W.zret (v := 0) hx hb hr rfl (fun t ht hW => ⟨⟨_, (), rfl, rfl, by rw [ht]; exact hP9, hD9⟩, hS.F ht⟩) hS.2.2 d_MoPaper_plain_177
                        · exact absurd h153 (by decide)
                      · rw [if_neg h152] at hok
                        refine lv_iload hx hb d_MoPaper_plain_113 (lv_at hl 0 rfl) ?_
                        refine lv_bipush (v := 65) hx hb d_MoPaper_plain_115 (by decide) ?_
                        refine lv_icmp_lt hx hb d_MoPaper_plain_117 rfl (fun h156 => ?_) (fun h156 => ?_)
                        · rw [if_pos h156] at hok
                          refine lv_iload hx hb d_MoPaper_plain_127 (lv_at hl 0 rfl) ?_
                          refine lv_bipush (v := 48) hx hb d_MoPaper_plain_129 (by decide) ?_
                          refine lv_icmp_lt hx hb d_MoPaper_plain_131 rfl (fun h157 => ?_) (fun h157 => ?_)
                          · rw [if_pos h157] at hok
                            refine lv_iload hx hb d_MoPaper_plain_141 (lv_at hl 0 rfl) ?_
                            refine lv_bipush (v := 95) hx hb d_MoPaper_plain_143 (by decide) ?_
                            refine lv_icmp_ne hx hb d_MoPaper_plain_145 rfl (fun h158 => ?_) (fun h158 => ?_)
                            · rw [if_neg h158] at hok
                              refine lv_iconst (v := 0) hx hb d_MoPaper_plain_152 (by decide) ?_
                              refine lv_istore hx hb d_MoPaper_plain_153 hl (by decide) rfl (fun ls hl => ?_)
                              have hl : lv_has ls 8 [(7, .int 0), (6, .int r107), (5, .int x5_105), (4, .int 0), (3, .int r3), (2, .int r1), (0, .ref nms), (1, .int kk)] := hl
                              refine lv_iload hx hb d_MoPaper_plain_155 (lv_at hl 3 rfl) ?_
                              refine lv_if_eq hx hb d_MoPaper_plain_157 rfl (fun h159 => ?_) (fun h159 => ?_)
                              · refine lv_iload hx hb d_MoPaper_plain_168 (lv_at hl 1 rfl) ?_
                                obtain ⟨r160, hc160, hok⟩ := bd_some hok
                                obtain ⟨hPc, hDc, hFc⟩ := cut0 (wc := []) hP hD hS hA [] (by decide) rfl
                                refine va_calli (va_runS (As := [.int r107]) (rest := []) ⟨hx, hb, hml, hown, hg⟩ (c_MoReader_symbol l g cs ka H.size n r107 r160 hc160) (va_cwS 1 hg (gw_S wd_755 wd_756 wd_754 wd_753) rfl rfl rfl (by decide +kernel) ⟨Nat.le_of_ble_eq_true rfl, Nat.le_of_ble_eq_true rfl⟩) ⟨gP_blind, gP_pre hPc hDc hK hgl hkn hkr hS hFc⟩ rfl rfl hl.1 rfl (lv_room (Nat.le_of_ble_eq_true rfl)) d_MoPaper_plain_170 ⟨Nat.le_of_ble_eq_true rfl, Nat.le_of_ble_eq_true rfl⟩) hS (fun q _ h => hFc q h) hFc (fun r160' u t H locs ht hvm hr160 hB hz1 hk1 hS => ?_)
                                subst hr160
                                rw [ht] at hB
                                obtain ⟨hP1, hD1⟩ := hB
                                obtain ⟨hP, hD⟩ := jn_A hP hD [] [0, 1, 2] rfl rfl (by decide) (by decide) hk1 hFc hP1 hD1
                                obtain ⟨hP, hD⟩ : PD g A H [(nms, .inr (10, [.ref nms_text, .ref nms_from, .ref nms_next, .ref nms_first, .int nms_size, .int nms_texted])), (nms_text, .inl (cs 1, nms_text_n, .inl nms_text_f)), (nms_from, .inl (cs 0, nms_from_n, .inl nms_from_f))] := ⟨hP, hD⟩
                                refine lv_if_ne hx hb d_MoPaper_plain_173 rfl (fun h161 => ?_) (fun h161 => ?_)
                                · rw [if_neg h161] at hok
                                  refine lv_iinc (k := 2) (v := x5_105 + 1) hx hb d_MoPaper_plain_178 hl rfl rfl (by decide) rfl (fun ls hl => ?_)
                                  have hl : lv_has ls 8 [(5, .int (x5_105 + 1)), (7, .int 0), (6, .int r107), (4, .int 0), (3, .int r3), (2, .int r1), (0, .ref nms), (1, .int kk)] := hl
                                  refine lv_goto hx hb d_MoPaper_plain_181 rfl ?_
                                  exact ih105 _ _ _ (x5_105 + 1) (lv_sub hl [0, 3, 4, 5, 6, 7] rfl) (sub3 hP hD [0, 1, 2] (by decide)) hS hok
                                · rw [if_pos h161] at hok
                                  refine lv_iconst (v := 0) hx hb d_MoPaper_plain_176 (by decide) ?_
                                  have hq := Option.some.inj hok
                                  have hq0 := hq
                                  subst hq0
                                  obtain ⟨hP9, hD9⟩ := sub2 (ws' := [(nms, .inr (10, [.ref nms_text, .ref nms_from, .ref nms_next, .ref nms_first, .int nms_size, .int nms_texted])), (nms_text, .inl (cs 1, nms_text_n, .inl nms_text_f)), (nms_from, .inl (cs 0, nms_from_n, .inl nms_from_f))]) hP hD [0, 1, 2] rfl (by decide) rfl
                                  rw [hQ]
                                  exact W.zret (v := 0) hx hb hr rfl (fun t ht hW => ⟨⟨_, (), rfl, rfl, by rw [ht]; exact hP9, hD9⟩, hS.F ht⟩) hS.2.2 d_MoPaper_plain_177
                              · exact absurd h159 (by decide)
                            · rw [if_pos h158] at hok
                              refine lv_iconst (v := 1) hx hb d_MoPaper_plain_148 (by decide) ?_
                              refine lv_goto hx hb d_MoPaper_plain_149 rfl ?_
                              refine lv_istore hx hb d_MoPaper_plain_153 hl (by decide) rfl (fun ls hl => ?_)
                              have hl : lv_has ls 8 [(7, .int 1), (6, .int r107), (5, .int x5_105), (4, .int 0), (3, .int r3), (2, .int r1), (0, .ref nms), (1, .int kk)] := hl
                              refine lv_iload hx hb d_MoPaper_plain_155 (lv_at hl 3 rfl) ?_
                              refine lv_if_eq hx hb d_MoPaper_plain_157 rfl (fun h162 => ?_) (fun h162 => ?_)
                              · refine lv_iload hx hb d_MoPaper_plain_168 (lv_at hl 1 rfl) ?_
                                obtain ⟨r163, hc163, hok⟩ := bd_some hok
                                obtain ⟨hPc, hDc, hFc⟩ := cut0 (wc := []) hP hD hS hA [] (by decide) rfl
                                refine va_calli (va_runS (As := [.int r107]) (rest := []) ⟨hx, hb, hml, hown, hg⟩ (c_MoReader_symbol l g cs ka H.size n r107 r163 hc163) (va_cwS 1 hg (gw_S wd_755 wd_756 wd_754 wd_753) rfl rfl rfl (by decide +kernel) ⟨Nat.le_of_ble_eq_true rfl, Nat.le_of_ble_eq_true rfl⟩) ⟨gP_blind, gP_pre hPc hDc hK hgl hkn hkr hS hFc⟩ rfl rfl hl.1 rfl (lv_room (Nat.le_of_ble_eq_true rfl)) d_MoPaper_plain_170 ⟨Nat.le_of_ble_eq_true rfl, Nat.le_of_ble_eq_true rfl⟩) hS (fun q _ h => hFc q h) hFc (fun r163' u t H locs ht hvm hr163 hB hz1 hk1 hS => ?_)
                                subst hr163
                                rw [ht] at hB
                                obtain ⟨hP1, hD1⟩ := hB
                                obtain ⟨hP, hD⟩ := jn_A hP hD [] [0, 1, 2] rfl rfl (by decide) (by decide) hk1 hFc hP1 hD1
                                obtain ⟨hP, hD⟩ : PD g A H [(nms, .inr (10, [.ref nms_text, .ref nms_from, .ref nms_next, .ref nms_first, .int nms_size, .int nms_texted])), (nms_text, .inl (cs 1, nms_text_n, .inl nms_text_f)), (nms_from, .inl (cs 0, nms_from_n, .inl nms_from_f))] := ⟨hP, hD⟩
                                refine lv_if_ne hx hb d_MoPaper_plain_173 rfl (fun h164 => ?_) (fun h164 => ?_)
                                · rw [if_neg h164] at hok
                                  refine lv_iinc (k := 2) (v := x5_105 + 1) hx hb d_MoPaper_plain_178 hl rfl rfl (by decide) rfl (fun ls hl => ?_)
                                  have hl : lv_has ls 8 [(5, .int (x5_105 + 1)), (7, .int 1), (6, .int r107), (4, .int 0), (3, .int r3), (2, .int r1), (0, .ref nms), (1, .int kk)] := hl
                                  refine lv_goto hx hb d_MoPaper_plain_181 rfl ?_
                                  exact ih105 _ _ _ (x5_105 + 1) (lv_sub hl [0, 3, 4, 5, 6, 7] rfl) (sub3 hP hD [0, 1, 2] (by decide)) hS hok
                                · rw [if_pos h164] at hok
                                  refine lv_iconst (v := 0) hx hb d_MoPaper_plain_176 (by decide) ?_
                                  have hq := Option.some.inj hok
                                  have hq0 := hq
                                  subst hq0
                                  obtain ⟨hP9, hD9⟩ := sub2 (ws' := [(nms, .inr (10, [.ref nms_text, .ref nms_from, .ref nms_next, .ref nms_first, .int nms_size, .int nms_texted])), (nms_text, .inl (cs 1, nms_text_n, .inl nms_text_f)), (nms_from, .inl (cs 0, nms_from_n, .inl nms_from_f))]) hP hD [0, 1, 2] rfl (by decide) rfl
                                  rw [hQ]
                                  exact W.zret (v := 0) hx hb hr rfl (fun t ht hW => ⟨⟨_, (), rfl, rfl, by rw [ht]; exact hP9, hD9⟩, hS.F ht⟩) hS.2.2 d_MoPaper_plain_177
                              · exact absurd h162 (by decide)
                          · rw [if_neg h157] at hok
                            refine lv_iload hx hb d_MoPaper_plain_134 (lv_at hl 0 rfl) ?_
                            refine lv_bipush (v := 57) hx hb d_MoPaper_plain_136 (by decide) ?_
                            refine lv_icmp_le hx hb d_MoPaper_plain_138 rfl (fun h165 => ?_) (fun h165 => ?_)
                            · rw [if_pos h165] at hok
                              refine lv_iconst (v := 1) hx hb d_MoPaper_plain_148 (by decide) ?_
                              refine lv_goto hx hb d_MoPaper_plain_149 rfl ?_
                              refine lv_istore hx hb d_MoPaper_plain_153 hl (by decide) rfl (fun ls hl => ?_)
                              have hl : lv_has ls 8 [(7, .int 1), (6, .int r107), (5, .int x5_105), (4, .int 0), (3, .int r3), (2, .int r1), (0, .ref nms), (1, .int kk)] := hl
                              refine lv_iload hx hb d_MoPaper_plain_155 (lv_at hl 3 rfl) ?_
                              refine lv_if_eq hx hb d_MoPaper_plain_157 rfl (fun h166 => ?_) (fun h166 => ?_)
                              · refine lv_iload hx hb d_MoPaper_plain_168 (lv_at hl 1 rfl) ?_
                                obtain ⟨r167, hc167, hok⟩ := bd_some hok
                                obtain ⟨hPc, hDc, hFc⟩ := cut0 (wc := []) hP hD hS hA [] (by decide) rfl
                                refine va_calli (va_runS (As := [.int r107]) (rest := []) ⟨hx, hb, hml, hown, hg⟩ (c_MoReader_symbol l g cs ka H.size n r107 r167 hc167) (va_cwS 1 hg (gw_S wd_755 wd_756 wd_754 wd_753) rfl rfl rfl (by decide +kernel) ⟨Nat.le_of_ble_eq_true rfl, Nat.le_of_ble_eq_true rfl⟩) ⟨gP_blind, gP_pre hPc hDc hK hgl hkn hkr hS hFc⟩ rfl rfl hl.1 rfl (lv_room (Nat.le_of_ble_eq_true rfl)) d_MoPaper_plain_170 ⟨Nat.le_of_ble_eq_true rfl, Nat.le_of_ble_eq_true rfl⟩) hS (fun q _ h => hFc q h) hFc (fun r167' u t H locs ht hvm hr167 hB hz1 hk1 hS => ?_)
                                subst hr167
                                rw [ht] at hB
                                obtain ⟨hP1, hD1⟩ := hB
                                obtain ⟨hP, hD⟩ := jn_A hP hD [] [0, 1, 2] rfl rfl (by decide) (by decide) hk1 hFc hP1 hD1
                                obtain ⟨hP, hD⟩ : PD g A H [(nms, .inr (10, [.ref nms_text, .ref nms_from, .ref nms_next, .ref nms_first, .int nms_size, .int nms_texted])), (nms_text, .inl (cs 1, nms_text_n, .inl nms_text_f)), (nms_from, .inl (cs 0, nms_from_n, .inl nms_from_f))] := ⟨hP, hD⟩
                                refine lv_if_ne hx hb d_MoPaper_plain_173 rfl (fun h168 => ?_) (fun h168 => ?_)
                                · rw [if_neg h168] at hok
                                  refine lv_iinc (k := 2) (v := x5_105 + 1) hx hb d_MoPaper_plain_178 hl rfl rfl (by decide) rfl (fun ls hl => ?_)
                                  have hl : lv_has ls 8 [(5, .int (x5_105 + 1)), (7, .int 1), (6, .int r107), (4, .int 0), (3, .int r3), (2, .int r1), (0, .ref nms), (1, .int kk)] := hl
                                  refine lv_goto hx hb d_MoPaper_plain_181 rfl ?_
                                  exact ih105 _ _ _ (x5_105 + 1) (lv_sub hl [0, 3, 4, 5, 6, 7] rfl) (sub3 hP hD [0, 1, 2] (by decide)) hS hok
                                · rw [if_pos h168] at hok
                                  refine lv_iconst (v := 0) hx hb d_MoPaper_plain_176 (by decide) ?_
                                  have hq := Option.some.inj hok
                                  have hq0 := hq
                                  subst hq0
                                  obtain ⟨hP9, hD9⟩ := sub2 (ws' := [(nms, .inr (10, [.ref nms_text, .ref nms_from, .ref nms_next, .ref nms_first, .int nms_size, .int nms_texted])), (nms_text, .inl (cs 1, nms_text_n, .inl nms_text_f)), (nms_from, .inl (cs 0, nms_from_n, .inl nms_from_f))]) hP hD [0, 1, 2] rfl (by decide) rfl
                                  rw [hQ]
                                  exact W.zret (v := 0) hx hb hr rfl (fun t ht hW => ⟨⟨_, (), rfl, rfl, by rw [ht]; exact hP9, hD9⟩, hS.F ht⟩) hS.2.2 d_MoPaper_plain_177
                              · exact absurd h166 (by decide)
                            · rw [if_neg h165] at hok
                              refine lv_iload hx hb d_MoPaper_plain_141 (lv_at hl 0 rfl) ?_
                              refine lv_bipush (v := 95) hx hb d_MoPaper_plain_143 (by decide) ?_
                              refine lv_icmp_ne hx hb d_MoPaper_plain_145 rfl (fun h169 => ?_) (fun h169 => ?_)
                              · rw [if_neg h169] at hok
                                refine lv_iconst (v := 0) hx hb d_MoPaper_plain_152 (by decide) ?_
                                refine lv_istore hx hb d_MoPaper_plain_153 hl (by decide) rfl (fun ls hl => ?_)
                                have hl : lv_has ls 8 [(7, .int 0), (6, .int r107), (5, .int x5_105), (4, .int 0), (3, .int r3), (2, .int r1), (0, .ref nms), (1, .int kk)] := hl
                                refine lv_iload hx hb d_MoPaper_plain_155 (lv_at hl 3 rfl) ?_
                                refine lv_if_eq hx hb d_MoPaper_plain_157 rfl (fun h170 => ?_) (fun h170 => ?_)
                                · refine lv_iload hx hb d_MoPaper_plain_168 (lv_at hl 1 rfl) ?_
                                  obtain ⟨r171, hc171, hok⟩ := bd_some hok
                                  obtain ⟨hPc, hDc, hFc⟩ := cut0 (wc := []) hP hD hS hA [] (by decide) rfl
                                  refine va_calli (va_runS (As := [.int r107]) (rest := []) ⟨hx, hb, hml, hown, hg⟩ (c_MoReader_symbol l g cs ka H.size n r107 r171 hc171) (va_cwS 1 hg (gw_S wd_755 wd_756 wd_754 wd_753) rfl rfl rfl (by decide +kernel) ⟨Nat.le_of_ble_eq_true rfl, Nat.le_of_ble_eq_true rfl⟩) ⟨gP_blind, gP_pre hPc hDc hK hgl hkn hkr hS hFc⟩ rfl rfl hl.1 rfl (lv_room (Nat.le_of_ble_eq_true rfl)) d_MoPaper_plain_170 ⟨Nat.le_of_ble_eq_true rfl, Nat.le_of_ble_eq_true rfl⟩) hS (fun q _ h => hFc q h) hFc (fun r171' u t H locs ht hvm hr171 hB hz1 hk1 hS => ?_)
                                  subst hr171
                                  rw [ht] at hB
                                  obtain ⟨hP1, hD1⟩ := hB
                                  obtain ⟨hP, hD⟩ := jn_A hP hD [] [0, 1, 2] rfl rfl (by decide) (by decide) hk1 hFc hP1 hD1
                                  obtain ⟨hP, hD⟩ : PD g A H [(nms, .inr (10, [.ref nms_text, .ref nms_from, .ref nms_next, .ref nms_first, .int nms_size, .int nms_texted])), (nms_text, .inl (cs 1, nms_text_n, .inl nms_text_f)), (nms_from, .inl (cs 0, nms_from_n, .inl nms_from_f))] := ⟨hP, hD⟩
                                  refine lv_if_ne hx hb d_MoPaper_plain_173 rfl (fun h172 => ?_) (fun h172 => ?_)
                                  · rw [if_neg h172] at hok
                                    refine lv_iinc (k := 2) (v := x5_105 + 1) hx hb d_MoPaper_plain_178 hl rfl rfl (by decide) rfl (fun ls hl => ?_)
                                    have hl : lv_has ls 8 [(5, .int (x5_105 + 1)), (7, .int 0), (6, .int r107), (4, .int 0), (3, .int r3), (2, .int r1), (0, .ref nms), (1, .int kk)] := hl
                                    refine lv_goto hx hb d_MoPaper_plain_181 rfl ?_
                                    exact ih105 _ _ _ (x5_105 + 1) (lv_sub hl [0, 3, 4, 5, 6, 7] rfl) (sub3 hP hD [0, 1, 2] (by decide)) hS hok
                                  · rw [if_pos h172] at hok
                                    refine lv_iconst (v := 0) hx hb d_MoPaper_plain_176 (by decide) ?_
                                    have hq := Option.some.inj hok
                                    have hq0 := hq
                                    subst hq0
                                    obtain ⟨hP9, hD9⟩ := sub2 (ws' := [(nms, .inr (10, [.ref nms_text, .ref nms_from, .ref nms_next, .ref nms_first, .int nms_size, .int nms_texted])), (nms_text, .inl (cs 1, nms_text_n, .inl nms_text_f)), (nms_from, .inl (cs 0, nms_from_n, .inl nms_from_f))]) hP hD [0, 1, 2] rfl (by decide) rfl
                                    rw [hQ]
                                    exact W.zret (v := 0) hx hb hr rfl (fun t ht hW => ⟨⟨_, (), rfl, rfl, by rw [ht]; exact hP9, hD9⟩, hS.F ht⟩) hS.2.2 d_MoPaper_plain_177
                                · exact absurd h170 (by decide)
                              · rw [if_pos h169] at hok
                                refine lv_iconst (v := 1) hx hb d_MoPaper_plain_148 (by decide) ?_
                                refine lv_goto hx hb d_MoPaper_plain_149 rfl ?_
                                refine lv_istore hx hb d_MoPaper_plain_153 hl (by decide) rfl (fun ls hl => ?_)
                                have hl : lv_has ls 8 [(7, .int 1), (6, .int r107), (5, .int x5_105), (4, .int 0), (3, .int r3), (2, .int r1), (0, .ref nms), (1, .int kk)] := hl
                                refine lv_iload hx hb d_MoPaper_plain_155 (lv_at hl 3 rfl) ?_
                                refine lv_if_eq hx hb d_MoPaper_plain_157 rfl (fun h173 => ?_) (fun h173 => ?_)
                                · refine lv_iload hx hb d_MoPaper_plain_168 (lv_at hl 1 rfl) ?_
                                  obtain ⟨r174, hc174, hok⟩ := bd_some hok
                                  obtain ⟨hPc, hDc, hFc⟩ := cut0 (wc := []) hP hD hS hA [] (by decide) rfl
                                  refine va_calli (va_runS (As := [.int r107]) (rest := []) ⟨hx, hb, hml, hown, hg⟩ (c_MoReader_symbol l g cs ka H.size n r107 r174 hc174) (va_cwS 1 hg (gw_S wd_755 wd_756 wd_754 wd_753) rfl rfl rfl (by decide +kernel) ⟨Nat.le_of_ble_eq_true rfl, Nat.le_of_ble_eq_true rfl⟩) ⟨gP_blind, gP_pre hPc hDc hK hgl hkn hkr hS hFc⟩ rfl rfl hl.1 rfl (lv_room (Nat.le_of_ble_eq_true rfl)) d_MoPaper_plain_170 ⟨Nat.le_of_ble_eq_true rfl, Nat.le_of_ble_eq_true rfl⟩) hS (fun q _ h => hFc q h) hFc (fun r174' u t H locs ht hvm hr174 hB hz1 hk1 hS => ?_)
                                  subst hr174
                                  rw [ht] at hB
                                  obtain ⟨hP1, hD1⟩ := hB
                                  obtain ⟨hP, hD⟩ := jn_A hP hD [] [0, 1, 2] rfl rfl (by decide) (by decide) hk1 hFc hP1 hD1
                                  obtain ⟨hP, hD⟩ : PD g A H [(nms, .inr (10, [.ref nms_text, .ref nms_from, .ref nms_next, .ref nms_first, .int nms_size, .int nms_texted])), (nms_text, .inl (cs 1, nms_text_n, .inl nms_text_f)), (nms_from, .inl (cs 0, nms_from_n, .inl nms_from_f))] := ⟨hP, hD⟩
                                  refine lv_if_ne hx hb d_MoPaper_plain_173 rfl (fun h175 => ?_) (fun h175 => ?_)
                                  · rw [if_neg h175] at hok
                                    refine lv_iinc (k := 2) (v := x5_105 + 1) hx hb d_MoPaper_plain_178 hl rfl rfl (by decide) rfl (fun ls hl => ?_)
                                    have hl : lv_has ls 8 [(5, .int (x5_105 + 1)), (7, .int 1), (6, .int r107), (4, .int 0), (3, .int r3), (2, .int r1), (0, .ref nms), (1, .int kk)] := hl
                                    refine lv_goto hx hb d_MoPaper_plain_181 rfl ?_
                                    exact ih105 _ _ _ (x5_105 + 1) (lv_sub hl [0, 3, 4, 5, 6, 7] rfl) (sub3 hP hD [0, 1, 2] (by decide)) hS hok
                                  · rw [if_pos h175] at hok
                                    refine lv_iconst (v := 0) hx hb d_MoPaper_plain_176 (by decide) ?_
                                    have hq := Option.some.inj hok
                                    have hq0 := hq
                                    subst hq0
                                    obtain ⟨hP9, hD9⟩ := sub2 (ws' := [(nms, .inr (10, [.ref nms_text, .ref nms_from, .ref nms_next, .ref nms_first, .int nms_size, .int nms_texted])), (nms_text, .inl (cs 1, nms_text_n, .inl nms_text_f)), (nms_from, .inl (cs 0, nms_from_n, .inl nms_from_f))]) hP hD [0, 1, 2] rfl (by decide) rfl
                                    rw [hQ]
                                    exact W.zret (v := 0) hx hb hr rfl (fun t ht hW => ⟨⟨_, (), rfl, rfl, by rw [ht]; exact hP9, hD9⟩, hS.F ht⟩) hS.2.2 d_MoPaper_plain_177
                                · exact absurd h173 (by decide)
                        · rw [if_neg h156] at hok
                          refine lv_iload hx hb d_MoPaper_plain_120 (lv_at hl 0 rfl) ?_
                          refine lv_bipush (v := 90) hx hb d_MoPaper_plain_122 (by decide) ?_
                          refine lv_icmp_le hx hb d_MoPaper_plain_124 rfl (fun h176 => ?_) (fun h176 => ?_)
                          · rw [if_pos h176] at hok
                            refine lv_iconst (v := 1) hx hb d_MoPaper_plain_148 (by decide) ?_
                            refine lv_goto hx hb d_MoPaper_plain_149 rfl ?_
                            refine lv_istore hx hb d_MoPaper_plain_153 hl (by decide) rfl (fun ls hl => ?_)
                            have hl : lv_has ls 8 [(7, .int 1), (6, .int r107), (5, .int x5_105), (4, .int 0), (3, .int r3), (2, .int r1), (0, .ref nms), (1, .int kk)] := hl
                            refine lv_iload hx hb d_MoPaper_plain_155 (lv_at hl 3 rfl) ?_
                            refine lv_if_eq hx hb d_MoPaper_plain_157 rfl (fun h177 => ?_) (fun h177 => ?_)
                            · refine lv_iload hx hb d_MoPaper_plain_168 (lv_at hl 1 rfl) ?_
                              obtain ⟨r178, hc178, hok⟩ := bd_some hok
                              obtain ⟨hPc, hDc, hFc⟩ := cut0 (wc := []) hP hD hS hA [] (by decide) rfl
                              refine va_calli (va_runS (As := [.int r107]) (rest := []) ⟨hx, hb, hml, hown, hg⟩ (c_MoReader_symbol l g cs ka H.size n r107 r178 hc178) (va_cwS 1 hg (gw_S wd_755 wd_756 wd_754 wd_753) rfl rfl rfl (by decide +kernel) ⟨Nat.le_of_ble_eq_true rfl, Nat.le_of_ble_eq_true rfl⟩) ⟨gP_blind, gP_pre hPc hDc hK hgl hkn hkr hS hFc⟩ rfl rfl hl.1 rfl (lv_room (Nat.le_of_ble_eq_true rfl)) d_MoPaper_plain_170 ⟨Nat.le_of_ble_eq_true rfl, Nat.le_of_ble_eq_true rfl⟩) hS (fun q _ h => hFc q h) hFc (fun r178' u t H locs ht hvm hr178 hB hz1 hk1 hS => ?_)
                              subst hr178
                              rw [ht] at hB
                              obtain ⟨hP1, hD1⟩ := hB
                              obtain ⟨hP, hD⟩ := jn_A hP hD [] [0, 1, 2] rfl rfl (by decide) (by decide) hk1 hFc hP1 hD1
                              obtain ⟨hP, hD⟩ : PD g A H [(nms, .inr (10, [.ref nms_text, .ref nms_from, .ref nms_next, .ref nms_first, .int nms_size, .int nms_texted])), (nms_text, .inl (cs 1, nms_text_n, .inl nms_text_f)), (nms_from, .inl (cs 0, nms_from_n, .inl nms_from_f))] := ⟨hP, hD⟩
                              refine lv_if_ne hx hb d_MoPaper_plain_173 rfl (fun h179 => ?_) (fun h179 => ?_)
                              · rw [if_neg h179] at hok
                                refine lv_iinc (k := 2) (v := x5_105 + 1) hx hb d_MoPaper_plain_178 hl rfl rfl (by decide) rfl (fun ls hl => ?_)
                                have hl : lv_has ls 8 [(5, .int (x5_105 + 1)), (7, .int 1), (6, .int r107), (4, .int 0), (3, .int r3), (2, .int r1), (0, .ref nms), (1, .int kk)] := hl
                                refine lv_goto hx hb d_MoPaper_plain_181 rfl ?_
                                exact ih105 _ _ _ (x5_105 + 1) (lv_sub hl [0, 3, 4, 5, 6, 7] rfl) (sub3 hP hD [0, 1, 2] (by decide)) hS hok
                              · rw [if_pos h179] at hok
                                refine lv_iconst (v := 0) hx hb d_MoPaper_plain_176 (by decide) ?_
                                have hq := Option.some.inj hok
                                have hq0 := hq
                                subst hq0
                                obtain ⟨hP9, hD9⟩ := sub2 (ws' := [(nms, .inr (10, [.ref nms_text, .ref nms_from, .ref nms_next, .ref nms_first, .int nms_size, .int nms_texted])), (nms_text, .inl (cs 1, nms_text_n, .inl nms_text_f)), (nms_from, .inl (cs 0, nms_from_n, .inl nms_from_f))]) hP hD [0, 1, 2] rfl (by decide) rfl
                                rw [hQ]
                                exact W.zret (v := 0) hx hb hr rfl (fun t ht hW => ⟨⟨_, (), rfl, rfl, by rw [ht]; exact hP9, hD9⟩, hS.F ht⟩) hS.2.2 d_MoPaper_plain_177
                            · exact absurd h177 (by decide)
                          · rw [if_neg h176] at hok
                            refine lv_iload hx hb d_MoPaper_plain_127 (lv_at hl 0 rfl) ?_
                            refine lv_bipush (v := 48) hx hb d_MoPaper_plain_129 (by decide) ?_
                            refine lv_icmp_lt hx hb d_MoPaper_plain_131 rfl (fun h180 => ?_) (fun h180 => ?_)
                            · rw [if_pos h180] at hok
                              refine lv_iload hx hb d_MoPaper_plain_141 (lv_at hl 0 rfl) ?_
                              refine lv_bipush (v := 95) hx hb d_MoPaper_plain_143 (by decide) ?_
                              refine lv_icmp_ne hx hb d_MoPaper_plain_145 rfl (fun h181 => ?_) (fun h181 => ?_)
                              · rw [if_neg h181] at hok
                                refine lv_iconst (v := 0) hx hb d_MoPaper_plain_152 (by decide) ?_
                                refine lv_istore hx hb d_MoPaper_plain_153 hl (by decide) rfl (fun ls hl => ?_)
                                have hl : lv_has ls 8 [(7, .int 0), (6, .int r107), (5, .int x5_105), (4, .int 0), (3, .int r3), (2, .int r1), (0, .ref nms), (1, .int kk)] := hl
                                refine lv_iload hx hb d_MoPaper_plain_155 (lv_at hl 3 rfl) ?_
                                refine lv_if_eq hx hb d_MoPaper_plain_157 rfl (fun h182 => ?_) (fun h182 => ?_)
                                · refine lv_iload hx hb d_MoPaper_plain_168 (lv_at hl 1 rfl) ?_
                                  obtain ⟨r183, hc183, hok⟩ := bd_some hok
                                  obtain ⟨hPc, hDc, hFc⟩ := cut0 (wc := []) hP hD hS hA [] (by decide) rfl
                                  refine va_calli (va_runS (As := [.int r107]) (rest := []) ⟨hx, hb, hml, hown, hg⟩ (c_MoReader_symbol l g cs ka H.size n r107 r183 hc183) (va_cwS 1 hg (gw_S wd_755 wd_756 wd_754 wd_753) rfl rfl rfl (by decide +kernel) ⟨Nat.le_of_ble_eq_true rfl, Nat.le_of_ble_eq_true rfl⟩) ⟨gP_blind, gP_pre hPc hDc hK hgl hkn hkr hS hFc⟩ rfl rfl hl.1 rfl (lv_room (Nat.le_of_ble_eq_true rfl)) d_MoPaper_plain_170 ⟨Nat.le_of_ble_eq_true rfl, Nat.le_of_ble_eq_true rfl⟩) hS (fun q _ h => hFc q h) hFc (fun r183' u t H locs ht hvm hr183 hB hz1 hk1 hS => ?_)
                                  subst hr183
                                  rw [ht] at hB
                                  obtain ⟨hP1, hD1⟩ := hB
                                  obtain ⟨hP, hD⟩ := jn_A hP hD [] [0, 1, 2] rfl rfl (by decide) (by decide) hk1 hFc hP1 hD1
                                  obtain ⟨hP, hD⟩ : PD g A H [(nms, .inr (10, [.ref nms_text, .ref nms_from, .ref nms_next, .ref nms_first, .int nms_size, .int nms_texted])), (nms_text, .inl (cs 1, nms_text_n, .inl nms_text_f)), (nms_from, .inl (cs 0, nms_from_n, .inl nms_from_f))] := ⟨hP, hD⟩
                                  refine lv_if_ne hx hb d_MoPaper_plain_173 rfl (fun h184 => ?_) (fun h184 => ?_)
                                  · rw [if_neg h184] at hok
                                    refine lv_iinc (k := 2) (v := x5_105 + 1) hx hb d_MoPaper_plain_178 hl rfl rfl (by decide) rfl (fun ls hl => ?_)
                                    have hl : lv_has ls 8 [(5, .int (x5_105 + 1)), (7, .int 0), (6, .int r107), (4, .int 0), (3, .int r3), (2, .int r1), (0, .ref nms), (1, .int kk)] := hl
                                    refine lv_goto hx hb d_MoPaper_plain_181 rfl ?_
                                    exact ih105 _ _ _ (x5_105 + 1) (lv_sub hl [0, 3, 4, 5, 6, 7] rfl) (sub3 hP hD [0, 1, 2] (by decide)) hS hok
                                  · rw [if_pos h184] at hok
                                    refine lv_iconst (v := 0) hx hb d_MoPaper_plain_176 (by decide) ?_
                                    have hq := Option.some.inj hok
                                    have hq0 := hq
                                    subst hq0
                                    obtain ⟨hP9, hD9⟩ := sub2 (ws' := [(nms, .inr (10, [.ref nms_text, .ref nms_from, .ref nms_next, .ref nms_first, .int nms_size, .int nms_texted])), (nms_text, .inl (cs 1, nms_text_n, .inl nms_text_f)), (nms_from, .inl (cs 0, nms_from_n, .inl nms_from_f))]) hP hD [0, 1, 2] rfl (by decide) rfl
                                    rw [hQ]
                                    exact W.zret (v := 0) hx hb hr rfl (fun t ht hW => ⟨⟨_, (), rfl, rfl, by rw [ht]; exact hP9, hD9⟩, hS.F ht⟩) hS.2.2 d_MoPaper_plain_177
                                · exact absurd h182 (by decide)
                              · rw [if_pos h181] at hok
                                refine lv_iconst (v := 1) hx hb d_MoPaper_plain_148 (by decide) ?_
                                refine lv_goto hx hb d_MoPaper_plain_149 rfl ?_
                                refine lv_istore hx hb d_MoPaper_plain_153 hl (by decide) rfl (fun ls hl => ?_)
                                have hl : lv_has ls 8 [(7, .int 1), (6, .int r107), (5, .int x5_105), (4, .int 0), (3, .int r3), (2, .int r1), (0, .ref nms), (1, .int kk)] := hl
                                refine lv_iload hx hb d_MoPaper_plain_155 (lv_at hl 3 rfl) ?_
                                refine lv_if_eq hx hb d_MoPaper_plain_157 rfl (fun h185 => ?_) (fun h185 => ?_)
                                · refine lv_iload hx hb d_MoPaper_plain_168 (lv_at hl 1 rfl) ?_
                                  obtain ⟨r186, hc186, hok⟩ := bd_some hok
                                  obtain ⟨hPc, hDc, hFc⟩ := cut0 (wc := []) hP hD hS hA [] (by decide) rfl
                                  refine va_calli (va_runS (As := [.int r107]) (rest := []) ⟨hx, hb, hml, hown, hg⟩ (c_MoReader_symbol l g cs ka H.size n r107 r186 hc186) (va_cwS 1 hg (gw_S wd_755 wd_756 wd_754 wd_753) rfl rfl rfl (by decide +kernel) ⟨Nat.le_of_ble_eq_true rfl, Nat.le_of_ble_eq_true rfl⟩) ⟨gP_blind, gP_pre hPc hDc hK hgl hkn hkr hS hFc⟩ rfl rfl hl.1 rfl (lv_room (Nat.le_of_ble_eq_true rfl)) d_MoPaper_plain_170 ⟨Nat.le_of_ble_eq_true rfl, Nat.le_of_ble_eq_true rfl⟩) hS (fun q _ h => hFc q h) hFc (fun r186' u t H locs ht hvm hr186 hB hz1 hk1 hS => ?_)
                                  subst hr186
                                  rw [ht] at hB
                                  obtain ⟨hP1, hD1⟩ := hB
                                  obtain ⟨hP, hD⟩ := jn_A hP hD [] [0, 1, 2] rfl rfl (by decide) (by decide) hk1 hFc hP1 hD1
                                  obtain ⟨hP, hD⟩ : PD g A H [(nms, .inr (10, [.ref nms_text, .ref nms_from, .ref nms_next, .ref nms_first, .int nms_size, .int nms_texted])), (nms_text, .inl (cs 1, nms_text_n, .inl nms_text_f)), (nms_from, .inl (cs 0, nms_from_n, .inl nms_from_f))] := ⟨hP, hD⟩
                                  refine lv_if_ne hx hb d_MoPaper_plain_173 rfl (fun h187 => ?_) (fun h187 => ?_)
                                  · rw [if_neg h187] at hok
                                    refine lv_iinc (k := 2) (v := x5_105 + 1) hx hb d_MoPaper_plain_178 hl rfl rfl (by decide) rfl (fun ls hl => ?_)
                                    have hl : lv_has ls 8 [(5, .int (x5_105 + 1)), (7, .int 1), (6, .int r107), (4, .int 0), (3, .int r3), (2, .int r1), (0, .ref nms), (1, .int kk)] := hl
                                    refine lv_goto hx hb d_MoPaper_plain_181 rfl ?_
                                    exact ih105 _ _ _ (x5_105 + 1) (lv_sub hl [0, 3, 4, 5, 6, 7] rfl) (sub3 hP hD [0, 1, 2] (by decide)) hS hok
                                  · rw [if_pos h187] at hok
                                    refine lv_iconst (v := 0) hx hb d_MoPaper_plain_176 (by decide) ?_
                                    have hq := Option.some.inj hok
                                    have hq0 := hq
                                    subst hq0
                                    obtain ⟨hP9, hD9⟩ := sub2 (ws' := [(nms, .inr (10, [.ref nms_text, .ref nms_from, .ref nms_next, .ref nms_first, .int nms_size, .int nms_texted])), (nms_text, .inl (cs 1, nms_text_n, .inl nms_text_f)), (nms_from, .inl (cs 0, nms_from_n, .inl nms_from_f))]) hP hD [0, 1, 2] rfl (by decide) rfl
                                    rw [hQ]
                                    exact W.zret (v := 0) hx hb hr rfl (fun t ht hW => ⟨⟨_, (), rfl, rfl, by rw [ht]; exact hP9, hD9⟩, hS.F ht⟩) hS.2.2 d_MoPaper_plain_177
                                · exact absurd h185 (by decide)
                            · rw [if_neg h180] at hok
                              refine lv_iload hx hb d_MoPaper_plain_134 (lv_at hl 0 rfl) ?_
                              refine lv_bipush (v := 57) hx hb d_MoPaper_plain_136 (by decide) ?_
                              refine lv_icmp_le hx hb d_MoPaper_plain_138 rfl (fun h188 => ?_) (fun h188 => ?_)
                              · rw [if_pos h188] at hok
                                refine lv_iconst (v := 1) hx hb d_MoPaper_plain_148 (by decide) ?_
                                refine lv_goto hx hb d_MoPaper_plain_149 rfl ?_
                                refine lv_istore hx hb d_MoPaper_plain_153 hl (by decide) rfl (fun ls hl => ?_)
                                have hl : lv_has ls 8 [(7, .int 1), (6, .int r107), (5, .int x5_105), (4, .int 0), (3, .int r3), (2, .int r1), (0, .ref nms), (1, .int kk)] := hl
                                refine lv_iload hx hb d_MoPaper_plain_155 (lv_at hl 3 rfl) ?_
                                refine lv_if_eq hx hb d_MoPaper_plain_157 rfl (fun h189 => ?_) (fun h189 => ?_)
                                · refine lv_iload hx hb d_MoPaper_plain_168 (lv_at hl 1 rfl) ?_
                                  obtain ⟨r190, hc190, hok⟩ := bd_some hok
                                  obtain ⟨hPc, hDc, hFc⟩ := cut0 (wc := []) hP hD hS hA [] (by decide) rfl
                                  refine va_calli (va_runS (As := [.int r107]) (rest := []) ⟨hx, hb, hml, hown, hg⟩ (c_MoReader_symbol l g cs ka H.size n r107 r190 hc190) (va_cwS 1 hg (gw_S wd_755 wd_756 wd_754 wd_753) rfl rfl rfl (by decide +kernel) ⟨Nat.le_of_ble_eq_true rfl, Nat.le_of_ble_eq_true rfl⟩) ⟨gP_blind, gP_pre hPc hDc hK hgl hkn hkr hS hFc⟩ rfl rfl hl.1 rfl (lv_room (Nat.le_of_ble_eq_true rfl)) d_MoPaper_plain_170 ⟨Nat.le_of_ble_eq_true rfl, Nat.le_of_ble_eq_true rfl⟩) hS (fun q _ h => hFc q h) hFc (fun r190' u t H locs ht hvm hr190 hB hz1 hk1 hS => ?_)
                                  subst hr190
                                  rw [ht] at hB
                                  obtain ⟨hP1, hD1⟩ := hB
                                  obtain ⟨hP, hD⟩ := jn_A hP hD [] [0, 1, 2] rfl rfl (by decide) (by decide) hk1 hFc hP1 hD1
                                  obtain ⟨hP, hD⟩ : PD g A H [(nms, .inr (10, [.ref nms_text, .ref nms_from, .ref nms_next, .ref nms_first, .int nms_size, .int nms_texted])), (nms_text, .inl (cs 1, nms_text_n, .inl nms_text_f)), (nms_from, .inl (cs 0, nms_from_n, .inl nms_from_f))] := ⟨hP, hD⟩
                                  refine lv_if_ne hx hb d_MoPaper_plain_173 rfl (fun h191 => ?_) (fun h191 => ?_)
                                  · rw [if_neg h191] at hok
                                    refine lv_iinc (k := 2) (v := x5_105 + 1) hx hb d_MoPaper_plain_178 hl rfl rfl (by decide) rfl (fun ls hl => ?_)
                                    have hl : lv_has ls 8 [(5, .int (x5_105 + 1)), (7, .int 1), (6, .int r107), (4, .int 0), (3, .int r3), (2, .int r1), (0, .ref nms), (1, .int kk)] := hl
                                    refine lv_goto hx hb d_MoPaper_plain_181 rfl ?_
                                    exact ih105 _ _ _ (x5_105 + 1) (lv_sub hl [0, 3, 4, 5, 6, 7] rfl) (sub3 hP hD [0, 1, 2] (by decide)) hS hok
                                  · rw [if_pos h191] at hok
                                    refine lv_iconst (v := 0) hx hb d_MoPaper_plain_176 (by decide) ?_
                                    have hq := Option.some.inj hok
                                    have hq0 := hq
                                    subst hq0
                                    obtain ⟨hP9, hD9⟩ := sub2 (ws' := [(nms, .inr (10, [.ref nms_text, .ref nms_from, .ref nms_next, .ref nms_first, .int nms_size, .int nms_texted])), (nms_text, .inl (cs 1, nms_text_n, .inl nms_text_f)), (nms_from, .inl (cs 0, nms_from_n, .inl nms_from_f))]) hP hD [0, 1, 2] rfl (by decide) rfl
                                    rw [hQ]
                                    exact W.zret (v := 0) hx hb hr rfl (fun t ht hW => ⟨⟨_, (), rfl, rfl, by rw [ht]; exact hP9, hD9⟩, hS.F ht⟩) hS.2.2 d_MoPaper_plain_177
                                · exact absurd h189 (by decide)
                              · rw [if_neg h188] at hok
                                refine lv_iload hx hb d_MoPaper_plain_141 (lv_at hl 0 rfl) ?_
                                refine lv_bipush (v := 95) hx hb d_MoPaper_plain_143 (by decide) ?_
                                refine lv_icmp_ne hx hb d_MoPaper_plain_145 rfl (fun h192 => ?_) (fun h192 => ?_)
                                · rw [if_neg h192] at hok
                                  refine lv_iconst (v := 0) hx hb d_MoPaper_plain_152 (by decide) ?_
                                  refine lv_istore hx hb d_MoPaper_plain_153 hl (by decide) rfl (fun ls hl => ?_)
                                  have hl : lv_has ls 8 [(7, .int 0), (6, .int r107), (5, .int x5_105), (4, .int 0), (3, .int r3), (2, .int r1), (0, .ref nms), (1, .int kk)] := hl
                                  refine lv_iload hx hb d_MoPaper_plain_155 (lv_at hl 3 rfl) ?_
                                  refine lv_if_eq hx hb d_MoPaper_plain_157 rfl (fun h193 => ?_) (fun h193 => ?_)
                                  · refine lv_iload hx hb d_MoPaper_plain_168 (lv_at hl 1 rfl) ?_
                                    obtain ⟨r194, hc194, hok⟩ := bd_some hok
                                    obtain ⟨hPc, hDc, hFc⟩ := cut0 (wc := []) hP hD hS hA [] (by decide) rfl
                                    refine va_calli (va_runS (As := [.int r107]) (rest := []) ⟨hx, hb, hml, hown, hg⟩ (c_MoReader_symbol l g cs ka H.size n r107 r194 hc194) (va_cwS 1 hg (gw_S wd_755 wd_756 wd_754 wd_753) rfl rfl rfl (by decide +kernel) ⟨Nat.le_of_ble_eq_true rfl, Nat.le_of_ble_eq_true rfl⟩) ⟨gP_blind, gP_pre hPc hDc hK hgl hkn hkr hS hFc⟩ rfl rfl hl.1 rfl (lv_room (Nat.le_of_ble_eq_true rfl)) d_MoPaper_plain_170 ⟨Nat.le_of_ble_eq_true rfl, Nat.le_of_ble_eq_true rfl⟩) hS (fun q _ h => hFc q h) hFc (fun r194' u t H locs ht hvm hr194 hB hz1 hk1 hS => ?_)
                                    subst hr194
                                    rw [ht] at hB
                                    obtain ⟨hP1, hD1⟩ := hB
                                    obtain ⟨hP, hD⟩ := jn_A hP hD [] [0, 1, 2] rfl rfl (by decide) (by decide) hk1 hFc hP1 hD1
                                    obtain ⟨hP, hD⟩ : PD g A H [(nms, .inr (10, [.ref nms_text, .ref nms_from, .ref nms_next, .ref nms_first, .int nms_size, .int nms_texted])), (nms_text, .inl (cs 1, nms_text_n, .inl nms_text_f)), (nms_from, .inl (cs 0, nms_from_n, .inl nms_from_f))] := ⟨hP, hD⟩
                                    refine lv_if_ne hx hb d_MoPaper_plain_173 rfl (fun h195 => ?_) (fun h195 => ?_)
                                    · rw [if_neg h195] at hok
                                      refine lv_iinc (k := 2) (v := x5_105 + 1) hx hb d_MoPaper_plain_178 hl rfl rfl (by decide) rfl (fun ls hl => ?_)
                                      have hl : lv_has ls 8 [(5, .int (x5_105 + 1)), (7, .int 0), (6, .int r107), (4, .int 0), (3, .int r3), (2, .int r1), (0, .ref nms), (1, .int kk)] := hl
                                      refine lv_goto hx hb d_MoPaper_plain_181 rfl ?_
                                      exact ih105 _ _ _ (x5_105 + 1) (lv_sub hl [0, 3, 4, 5, 6, 7] rfl) (sub3 hP hD [0, 1, 2] (by decide)) hS hok
                                    · rw [if_pos h195] at hok
                                      refine lv_iconst (v := 0) hx hb d_MoPaper_plain_176 (by decide) ?_
                                      have hq := Option.some.inj hok
                                      have hq0 := hq
                                      subst hq0
                                      obtain ⟨hP9, hD9⟩ := sub2 (ws' := [(nms, .inr (10, [.ref nms_text, .ref nms_from, .ref nms_next, .ref nms_first, .int nms_size, .int nms_texted])), (nms_text, .inl (cs 1, nms_text_n, .inl nms_text_f)), (nms_from, .inl (cs 0, nms_from_n, .inl nms_from_f))]) hP hD [0, 1, 2] rfl (by decide) rfl
                                      rw [hQ]
                                      exact W.zret (v := 0) hx hb hr rfl (fun t ht hW => ⟨⟨_, (), rfl, rfl, by rw [ht]; exact hP9, hD9⟩, hS.F ht⟩) hS.2.2 d_MoPaper_plain_177
                                  · exact absurd h193 (by decide)
                                · rw [if_pos h192] at hok
                                  refine lv_iconst (v := 1) hx hb d_MoPaper_plain_148 (by decide) ?_
                                  refine lv_goto hx hb d_MoPaper_plain_149 rfl ?_
                                  refine lv_istore hx hb d_MoPaper_plain_153 hl (by decide) rfl (fun ls hl => ?_)
                                  have hl : lv_has ls 8 [(7, .int 1), (6, .int r107), (5, .int x5_105), (4, .int 0), (3, .int r3), (2, .int r1), (0, .ref nms), (1, .int kk)] := hl
                                  refine lv_iload hx hb d_MoPaper_plain_155 (lv_at hl 3 rfl) ?_
                                  refine lv_if_eq hx hb d_MoPaper_plain_157 rfl (fun h196 => ?_) (fun h196 => ?_)
                                  · refine lv_iload hx hb d_MoPaper_plain_168 (lv_at hl 1 rfl) ?_
                                    obtain ⟨r197, hc197, hok⟩ := bd_some hok
                                    obtain ⟨hPc, hDc, hFc⟩ := cut0 (wc := []) hP hD hS hA [] (by decide) rfl
                                    refine va_calli (va_runS (As := [.int r107]) (rest := []) ⟨hx, hb, hml, hown, hg⟩ (c_MoReader_symbol l g cs ka H.size n r107 r197 hc197) (va_cwS 1 hg (gw_S wd_755 wd_756 wd_754 wd_753) rfl rfl rfl (by decide +kernel) ⟨Nat.le_of_ble_eq_true rfl, Nat.le_of_ble_eq_true rfl⟩) ⟨gP_blind, gP_pre hPc hDc hK hgl hkn hkr hS hFc⟩ rfl rfl hl.1 rfl (lv_room (Nat.le_of_ble_eq_true rfl)) d_MoPaper_plain_170 ⟨Nat.le_of_ble_eq_true rfl, Nat.le_of_ble_eq_true rfl⟩) hS (fun q _ h => hFc q h) hFc (fun r197' u t H locs ht hvm hr197 hB hz1 hk1 hS => ?_)
                                    subst hr197
                                    rw [ht] at hB
                                    obtain ⟨hP1, hD1⟩ := hB
                                    obtain ⟨hP, hD⟩ := jn_A hP hD [] [0, 1, 2] rfl rfl (by decide) (by decide) hk1 hFc hP1 hD1
                                    obtain ⟨hP, hD⟩ : PD g A H [(nms, .inr (10, [.ref nms_text, .ref nms_from, .ref nms_next, .ref nms_first, .int nms_size, .int nms_texted])), (nms_text, .inl (cs 1, nms_text_n, .inl nms_text_f)), (nms_from, .inl (cs 0, nms_from_n, .inl nms_from_f))] := ⟨hP, hD⟩
                                    refine lv_if_ne hx hb d_MoPaper_plain_173 rfl (fun h198 => ?_) (fun h198 => ?_)
                                    · rw [if_neg h198] at hok
                                      refine lv_iinc (k := 2) (v := x5_105 + 1) hx hb d_MoPaper_plain_178 hl rfl rfl (by decide) rfl (fun ls hl => ?_)
                                      have hl : lv_has ls 8 [(5, .int (x5_105 + 1)), (7, .int 1), (6, .int r107), (4, .int 0), (3, .int r3), (2, .int r1), (0, .ref nms), (1, .int kk)] := hl
                                      refine lv_goto hx hb d_MoPaper_plain_181 rfl ?_
                                      exact ih105 _ _ _ (x5_105 + 1) (lv_sub hl [0, 3, 4, 5, 6, 7] rfl) (sub3 hP hD [0, 1, 2] (by decide)) hS hok
                                    · rw [if_pos h198] at hok
                                      refine lv_iconst (v := 0) hx hb d_MoPaper_plain_176 (by decide) ?_
                                      have hq := Option.some.inj hok
                                      have hq0 := hq
                                      subst hq0
                                      obtain ⟨hP9, hD9⟩ := sub2 (ws' := [(nms, .inr (10, [.ref nms_text, .ref nms_from, .ref nms_next, .ref nms_first, .int nms_size, .int nms_texted])), (nms_text, .inl (cs 1, nms_text_n, .inl nms_text_f)), (nms_from, .inl (cs 0, nms_from_n, .inl nms_from_f))]) hP hD [0, 1, 2] rfl (by decide) rfl
                                      rw [hQ]
                                      exact W.zret (v := 0) hx hb hr rfl (fun t ht hW => ⟨⟨_, (), rfl, rfl, by rw [ht]; exact hP9, hD9⟩, hS.F ht⟩) hS.2.2 d_MoPaper_plain_177
                                  · exact absurd h196 (by decide)
              exact J105 n H locs ls (0 : Int32) hl ⟨hP, hD⟩ hS hok
            · rw [if_neg h104] at hok
              refine lv_iconst (v := 1) hx hb d_MoPaper_plain_74 (by decide) ?_
              refine lv_goto hx hb d_MoPaper_plain_75 rfl ?_
              refine lv_istore hx hb d_MoPaper_plain_79 hl (by decide) rfl (fun ls hl => ?_)
              have hl : lv_has ls 8 [(4, .int 1), (3, .int r3), (2, .int r1), (0, .ref nms), (1, .int kk)] := hl
              refine lv_iconst (v := 0) hx hb d_MoPaper_plain_81 (by decide) ?_
              refine lv_istore hx hb d_MoPaper_plain_82 hl (by decide) rfl (fun ls hl => ?_)
              have hl : lv_has ls 8 [(5, .int 0), (4, .int 1), (3, .int r3), (2, .int r1), (0, .ref nms), (1, .int kk)] := hl
              have J199 : ∀ (kf199 : Nat) (H : Heap) (locs : List Loc) (ls : Array Slot) (x5_199 : Int32), lv_has ls 8 [(5, .int x5_199), (4, .int 1), (3, .int r3), (2, .int r1), (0, .ref nms), (1, .int kk)] → PD g A H [(nms, .inr (10, [.ref nms_text, .ref nms_from, .ref nms_next, .ref nms_first, .int nms_size, .int nms_texted])), (nms_text, .inl (cs 1, nms_text_n, .inl nms_text_f)), (nms_from, .inl (cs 0, nms_from_n, .inl nms_from_f))] → va_S A s.heap H locs → p_MoPaper_plain_84_199 n kk nms_size nms_texted nms_text_n nms_text_f nms_from_n nms_from_f r1 kf199 x5_199 = some r → W p l e (headSpec (.code y_MoPaper_plain b_MoPaper_plain 8 (some .boolean) :: GW) { frames := 5, cells := 0, slots := 0, locals := 111 }).room s m ([.ref nms, .int kk] : List Value).toArray below meth c H locs 0 0 Q (F0 m 84 ls []) := by
                intro kf199
                induction kf199 with
                | zero => intro H locs ls x5_199 hl ⟨hP, hD⟩ hS hok; rw [p_MoPaper_plain_84_199] at hok; cases hok
                | succ kf199 ih199 =>
                  intro H locs ls x5_199 hl ⟨hP, hD⟩ hS hok
                  rw [p_MoPaper_plain_84_199] at hok
                  refine lv_iload hx hb d_MoPaper_plain_84 (lv_at hl 0 rfl) ?_
                  refine lv_iload_n hx hb d_MoPaper_plain_86 rfl (lv_at hl 3 rfl) ?_
                  refine lv_icmp_ge hx hb d_MoPaper_plain_87 rfl (fun h200 => ?_) (fun h200 => ?_)
                  · rw [if_pos h200] at hok
                    refine lv_iconst (v := 1) hx hb d_MoPaper_plain_184 (by decide) ?_
                    have hq := Option.some.inj hok
                    have hq0 := hq
                    subst hq0
                    obtain ⟨hP9, hD9⟩ := sub2 (ws' := [(nms, .inr (10, [.ref nms_text, .ref nms_from, .ref nms_next, .ref nms_first, .int nms_size, .int nms_texted])), (nms_text, .inl (cs 1, nms_text_n, .inl nms_text_f)), (nms_from, .inl (cs 0, nms_from_n, .inl nms_from_f))]) hP hD [0, 1, 2] rfl (by decide) rfl
                    rw [hQ]
                    exact W.zret (v := 1) hx hb hr rfl (fun t ht hW => ⟨⟨_, (), rfl, rfl, by rw [ht]; exact hP9, hD9⟩, hS.F ht⟩) hS.2.2 d_MoPaper_plain_185
                  · rw [if_neg h200] at hok
                    refine lv_aload_n hx hb d_MoPaper_plain_90 rfl (lv_at hl 4 rfl) ?_
                    refine lv_iload_n hx hb d_MoPaper_plain_91 rfl (lv_at hl 5 rfl) ?_
                    refine lv_iload hx hb d_MoPaper_plain_92 (lv_at hl 0 rfl) ?_
                    obtain ⟨r201, hc201, hok⟩ := bd_some hok
                    obtain ⟨hPc, hDc, hFc⟩ := cut0 (wc := [(nms, .inr (10, [.ref nms_text, .ref nms_from, .ref nms_next, .ref nms_first, .int nms_size, .int nms_texted])), (nms_text, .inl (cs 1, nms_text_n, .inl nms_text_f)), (nms_from, .inl (cs 0, nms_from_n, .inl nms_from_f))]) hP hD hS hA [0, 1, 2] (by decide) rfl
                    refine va_calli (va_runV (As := [.int kk, .int x5_199]) (rest := []) ⟨hx, hb, hml, hown, hg⟩ (c_MoNames_at l g cs ka nms_next nms_first nms nms_text nms_from H.size kk x5_199 nms_size nms_texted nms_text_n nms_text_f nms_from_n nms_from_f r201 hc201) (cwV (C := R_MoNames) 2 hg (gw_V wd_748 wd_728 wd_729 wd_717 wd_726) rfl rfl rfl (by decide +kernel) ⟨Nat.le_of_ble_eq_true rfl, Nat.le_of_ble_eq_true rfl⟩) ⟨gP_blind, va_recv (q0 := 0) (ci := 10) (q := (R_MoNames, F_MoNames, 6)) hK hP rfl rfl, gP_pre hPc hDc hK hgl hkn hkr hS hFc⟩ rfl rfl hl.1 rfl (lv_room (Nat.le_of_ble_eq_true rfl)) d_MoPaper_plain_94 ⟨Nat.le_of_ble_eq_true rfl, Nat.le_of_ble_eq_true rfl⟩) hS (fun q _ h => hFc q h) hFc (fun r201' u t H locs ht hvm hr201 hB hz1 hk1 hS => ?_)
                    subst hr201
                    rw [ht] at hB
                    obtain ⟨hP1, hD1⟩ := hB
                    obtain ⟨hP, hD⟩ := jn_A hP hD [0, 1, 2] [] rfl rfl (by decide) (by decide) hk1 hFc hP1 hD1
                    obtain ⟨hP, hD⟩ : PD g A H [(nms, .inr (10, [.ref nms_text, .ref nms_from, .ref nms_next, .ref nms_first, .int nms_size, .int nms_texted])), (nms_text, .inl (cs 1, nms_text_n, .inl nms_text_f)), (nms_from, .inl (cs 0, nms_from_n, .inl nms_from_f))] := ⟨hP, hD⟩
                    refine lv_istore hx hb d_MoPaper_plain_97 hl (by decide) rfl (fun ls hl => ?_)
                    have hl : lv_has ls 8 [(6, .int r201), (5, .int x5_199), (4, .int 1), (3, .int r3), (2, .int r1), (0, .ref nms), (1, .int kk)] := hl
                    refine lv_iload hx hb d_MoPaper_plain_99 (lv_at hl 0 rfl) ?_
                    refine lv_bipush (v := 97) hx hb d_MoPaper_plain_101 (by decide) ?_
                    refine lv_icmp_lt hx hb d_MoPaper_plain_103 rfl (fun h202 => ?_) (fun h202 => ?_)
                    · rw [if_pos h202] at hok
                      refine lv_iload hx hb d_MoPaper_plain_113 (lv_at hl 0 rfl) ?_
                      refine lv_bipush (v := 65) hx hb d_MoPaper_plain_115 (by decide) ?_
                      refine lv_icmp_lt hx hb d_MoPaper_plain_117 rfl (fun h203 => ?_) (fun h203 => ?_)
                      · rw [if_pos h203] at hok
                        refine lv_iload hx hb d_MoPaper_plain_127 (lv_at hl 0 rfl) ?_
                        refine lv_bipush (v := 48) hx hb d_MoPaper_plain_129 (by decide) ?_
                        refine lv_icmp_lt hx hb d_MoPaper_plain_131 rfl (fun h204 => ?_) (fun h204 => ?_)
                        · rw [if_pos h204] at hok
                          refine lv_iload hx hb d_MoPaper_plain_141 (lv_at hl 0 rfl) ?_
                          refine lv_bipush (v := 95) hx hb d_MoPaper_plain_143 (by decide) ?_
                          refine lv_icmp_ne hx hb d_MoPaper_plain_145 rfl (fun h205 => ?_) (fun h205 => ?_)
                          · rw [if_neg h205] at hok
                            refine lv_iconst (v := 0) hx hb d_MoPaper_plain_152 (by decide) ?_
                            refine lv_istore hx hb d_MoPaper_plain_153 hl (by decide) rfl (fun ls hl => ?_)
                            have hl : lv_has ls 8 [(7, .int 0), (6, .int r201), (5, .int x5_199), (4, .int 1), (3, .int r3), (2, .int r1), (0, .ref nms), (1, .int kk)] := hl
                            refine lv_iload hx hb d_MoPaper_plain_155 (lv_at hl 3 rfl) ?_
                            refine lv_if_eq hx hb d_MoPaper_plain_157 rfl (fun h206 => ?_) (fun h206 => ?_)
                            · exact absurd h206 (by decide)
                            · refine lv_iload hx hb d_MoPaper_plain_160 (lv_at hl 0 rfl) ?_
                              refine lv_if_ne hx hb d_MoPaper_plain_162 rfl (fun h207 => ?_) (fun h207 => ?_)
                              · exact absurd h207 (by decide)
                              · refine lv_goto hx hb d_MoPaper_plain_165 rfl ?_
                                refine lv_iconst (v := 0) hx hb d_MoPaper_plain_176 (by decide) ?_
                                have hq := Option.some.inj hok
                                have hq0 := hq
                                subst hq0
                                obtain ⟨hP9, hD9⟩ := sub2 (ws' := [(nms, .inr (10, [.ref nms_text, .ref nms_from, .ref nms_next, .ref nms_first, .int nms_size, .int nms_texted])), (nms_text, .inl (cs 1, nms_text_n, .inl nms_text_f)), (nms_from, .inl (cs 0, nms_from_n, .inl nms_from_f))]) hP hD [0, 1, 2] rfl (by decide) rfl
                                rw [hQ]
                                exact W.zret (v := 0) hx hb hr rfl (fun t ht hW => ⟨⟨_, (), rfl, rfl, by rw [ht]; exact hP9, hD9⟩, hS.F ht⟩) hS.2.2 d_MoPaper_plain_177
                          · rw [if_pos h205] at hok
                            refine lv_iconst (v := 1) hx hb d_MoPaper_plain_148 (by decide) ?_
                            refine lv_goto hx hb d_MoPaper_plain_149 rfl ?_
                            refine lv_istore hx hb d_MoPaper_plain_153 hl (by decide) rfl (fun ls hl => ?_)
                            have hl : lv_has ls 8 [(7, .int 1), (6, .int r201), (5, .int x5_199), (4, .int 1), (3, .int r3), (2, .int r1), (0, .ref nms), (1, .int kk)] := hl
                            refine lv_iload hx hb d_MoPaper_plain_155 (lv_at hl 3 rfl) ?_
                            refine lv_if_eq hx hb d_MoPaper_plain_157 rfl (fun h208 => ?_) (fun h208 => ?_)
                            · exact absurd h208 (by decide)
                            · refine lv_iload hx hb d_MoPaper_plain_160 (lv_at hl 0 rfl) ?_
                              refine lv_if_ne hx hb d_MoPaper_plain_162 rfl (fun h209 => ?_) (fun h209 => ?_)
                              · refine lv_iinc (k := 2) (v := x5_199 + 1) hx hb d_MoPaper_plain_178 hl rfl rfl (by decide) rfl (fun ls hl => ?_)
                                have hl : lv_has ls 8 [(5, .int (x5_199 + 1)), (7, .int 1), (6, .int r201), (4, .int 1), (3, .int r3), (2, .int r1), (0, .ref nms), (1, .int kk)] := hl
                                refine lv_goto hx hb d_MoPaper_plain_181 rfl ?_
                                exact ih199 _ _ _ (x5_199 + 1) (lv_sub hl [0, 3, 4, 5, 6, 7] rfl) (sub3 hP hD [0, 1, 2] (by decide)) hS hok
                              · exact absurd h209 (by decide)
                        · rw [if_neg h204] at hok
                          refine lv_iload hx hb d_MoPaper_plain_134 (lv_at hl 0 rfl) ?_
                          refine lv_bipush (v := 57) hx hb d_MoPaper_plain_136 (by decide) ?_
                          refine lv_icmp_le hx hb d_MoPaper_plain_138 rfl (fun h210 => ?_) (fun h210 => ?_)
                          · rw [if_pos h210] at hok
                            refine lv_iconst (v := 1) hx hb d_MoPaper_plain_148 (by decide) ?_
                            refine lv_goto hx hb d_MoPaper_plain_149 rfl ?_
                            refine lv_istore hx hb d_MoPaper_plain_153 hl (by decide) rfl (fun ls hl => ?_)
                            have hl : lv_has ls 8 [(7, .int 1), (6, .int r201), (5, .int x5_199), (4, .int 1), (3, .int r3), (2, .int r1), (0, .ref nms), (1, .int kk)] := hl
                            refine lv_iload hx hb d_MoPaper_plain_155 (lv_at hl 3 rfl) ?_
                            refine lv_if_eq hx hb d_MoPaper_plain_157 rfl (fun h211 => ?_) (fun h211 => ?_)
                            · exact absurd h211 (by decide)
                            · refine lv_iload hx hb d_MoPaper_plain_160 (lv_at hl 0 rfl) ?_
                              refine lv_if_ne hx hb d_MoPaper_plain_162 rfl (fun h212 => ?_) (fun h212 => ?_)
                              · refine lv_iinc (k := 2) (v := x5_199 + 1) hx hb d_MoPaper_plain_178 hl rfl rfl (by decide) rfl (fun ls hl => ?_)
                                have hl : lv_has ls 8 [(5, .int (x5_199 + 1)), (7, .int 1), (6, .int r201), (4, .int 1), (3, .int r3), (2, .int r1), (0, .ref nms), (1, .int kk)] := hl
                                refine lv_goto hx hb d_MoPaper_plain_181 rfl ?_
                                exact ih199 _ _ _ (x5_199 + 1) (lv_sub hl [0, 3, 4, 5, 6, 7] rfl) (sub3 hP hD [0, 1, 2] (by decide)) hS hok
                              · exact absurd h212 (by decide)
                          · rw [if_neg h210] at hok
                            refine lv_iload hx hb d_MoPaper_plain_141 (lv_at hl 0 rfl) ?_
                            refine lv_bipush (v := 95) hx hb d_MoPaper_plain_143 (by decide) ?_
                            refine lv_icmp_ne hx hb d_MoPaper_plain_145 rfl (fun h213 => ?_) (fun h213 => ?_)
                            · rw [if_neg h213] at hok
                              refine lv_iconst (v := 0) hx hb d_MoPaper_plain_152 (by decide) ?_
                              refine lv_istore hx hb d_MoPaper_plain_153 hl (by decide) rfl (fun ls hl => ?_)
                              have hl : lv_has ls 8 [(7, .int 0), (6, .int r201), (5, .int x5_199), (4, .int 1), (3, .int r3), (2, .int r1), (0, .ref nms), (1, .int kk)] := hl
                              refine lv_iload hx hb d_MoPaper_plain_155 (lv_at hl 3 rfl) ?_
                              refine lv_if_eq hx hb d_MoPaper_plain_157 rfl (fun h214 => ?_) (fun h214 => ?_)
                              · exact absurd h214 (by decide)
                              · refine lv_iload hx hb d_MoPaper_plain_160 (lv_at hl 0 rfl) ?_
                                refine lv_if_ne hx hb d_MoPaper_plain_162 rfl (fun h215 => ?_) (fun h215 => ?_)
                                · exact absurd h215 (by decide)
                                · refine lv_goto hx hb d_MoPaper_plain_165 rfl ?_
                                  refine lv_iconst (v := 0) hx hb d_MoPaper_plain_176 (by decide) ?_
                                  have hq := Option.some.inj hok
                                  have hq0 := hq
                                  subst hq0
                                  obtain ⟨hP9, hD9⟩ := sub2 (ws' := [(nms, .inr (10, [.ref nms_text, .ref nms_from, .ref nms_next, .ref nms_first, .int nms_size, .int nms_texted])), (nms_text, .inl (cs 1, nms_text_n, .inl nms_text_f)), (nms_from, .inl (cs 0, nms_from_n, .inl nms_from_f))]) hP hD [0, 1, 2] rfl (by decide) rfl
                                  rw [hQ]
                                  exact W.zret (v := 0) hx hb hr rfl (fun t ht hW => ⟨⟨_, (), rfl, rfl, by rw [ht]; exact hP9, hD9⟩, hS.F ht⟩) hS.2.2 d_MoPaper_plain_177
                            · rw [if_pos h213] at hok
                              refine lv_iconst (v := 1) hx hb d_MoPaper_plain_148 (by decide) ?_
                              refine lv_goto hx hb d_MoPaper_plain_149 rfl ?_
                              refine lv_istore hx hb d_MoPaper_plain_153 hl (by decide) rfl (fun ls hl => ?_)
                              have hl : lv_has ls 8 [(7, .int 1), (6, .int r201), (5, .int x5_199), (4, .int 1), (3, .int r3), (2, .int r1), (0, .ref nms), (1, .int kk)] := hl
                              refine lv_iload hx hb d_MoPaper_plain_155 (lv_at hl 3 rfl) ?_
                              refine lv_if_eq hx hb d_MoPaper_plain_157 rfl (fun h216 => ?_) (fun h216 => ?_)
                              · exact absurd h216 (by decide)
                              · refine lv_iload hx hb d_MoPaper_plain_160 (lv_at hl 0 rfl) ?_
                                refine lv_if_ne hx hb d_MoPaper_plain_162 rfl (fun h217 => ?_) (fun h217 => ?_)
                                · refine lv_iinc (k := 2) (v := x5_199 + 1) hx hb d_MoPaper_plain_178 hl rfl rfl (by decide) rfl (fun ls hl => ?_)
                                  have hl : lv_has ls 8 [(5, .int (x5_199 + 1)), (7, .int 1), (6, .int r201), (4, .int 1), (3, .int r3), (2, .int r1), (0, .ref nms), (1, .int kk)] := hl
                                  refine lv_goto hx hb d_MoPaper_plain_181 rfl ?_
                                  exact ih199 _ _ _ (x5_199 + 1) (lv_sub hl [0, 3, 4, 5, 6, 7] rfl) (sub3 hP hD [0, 1, 2] (by decide)) hS hok
                                · exact absurd h217 (by decide)
                      · rw [if_neg h203] at hok
                        refine lv_iload hx hb d_MoPaper_plain_120 (lv_at hl 0 rfl) ?_
                        refine lv_bipush (v := 90) hx hb d_MoPaper_plain_122 (by decide) ?_
                        refine lv_icmp_le hx hb d_MoPaper_plain_124 rfl (fun h218 => ?_) (fun h218 => ?_)
                        · rw [if_pos h218] at hok
                          refine lv_iconst (v := 1) hx hb d_MoPaper_plain_148 (by decide) ?_
                          refine lv_goto hx hb d_MoPaper_plain_149 rfl ?_
                          refine lv_istore hx hb d_MoPaper_plain_153 hl (by decide) rfl (fun ls hl => ?_)
                          have hl : lv_has ls 8 [(7, .int 1), (6, .int r201), (5, .int x5_199), (4, .int 1), (3, .int r3), (2, .int r1), (0, .ref nms), (1, .int kk)] := hl
                          refine lv_iload hx hb d_MoPaper_plain_155 (lv_at hl 3 rfl) ?_
                          refine lv_if_eq hx hb d_MoPaper_plain_157 rfl (fun h219 => ?_) (fun h219 => ?_)
                          · exact absurd h219 (by decide)
                          · refine lv_iload hx hb d_MoPaper_plain_160 (lv_at hl 0 rfl) ?_
                            refine lv_if_ne hx hb d_MoPaper_plain_162 rfl (fun h220 => ?_) (fun h220 => ?_)
                            · refine lv_iinc (k := 2) (v := x5_199 + 1) hx hb d_MoPaper_plain_178 hl rfl rfl (by decide) rfl (fun ls hl => ?_)
                              have hl : lv_has ls 8 [(5, .int (x5_199 + 1)), (7, .int 1), (6, .int r201), (4, .int 1), (3, .int r3), (2, .int r1), (0, .ref nms), (1, .int kk)] := hl
                              refine lv_goto hx hb d_MoPaper_plain_181 rfl ?_
                              exact ih199 _ _ _ (x5_199 + 1) (lv_sub hl [0, 3, 4, 5, 6, 7] rfl) (sub3 hP hD [0, 1, 2] (by decide)) hS hok
                            · exact absurd h220 (by decide)
                        · rw [if_neg h218] at hok
                          refine lv_iload hx hb d_MoPaper_plain_127 (lv_at hl 0 rfl) ?_
                          refine lv_bipush (v := 48) hx hb d_MoPaper_plain_129 (by decide) ?_
                          refine lv_icmp_lt hx hb d_MoPaper_plain_131 rfl (fun h221 => ?_) (fun h221 => ?_)
                          · rw [if_pos h221] at hok
                            refine lv_iload hx hb d_MoPaper_plain_141 (lv_at hl 0 rfl) ?_
                            refine lv_bipush (v := 95) hx hb d_MoPaper_plain_143 (by decide) ?_
                            refine lv_icmp_ne hx hb d_MoPaper_plain_145 rfl (fun h222 => ?_) (fun h222 => ?_)
                            · rw [if_neg h222] at hok
                              refine lv_iconst (v := 0) hx hb d_MoPaper_plain_152 (by decide) ?_
                              refine lv_istore hx hb d_MoPaper_plain_153 hl (by decide) rfl (fun ls hl => ?_)
                              have hl : lv_has ls 8 [(7, .int 0), (6, .int r201), (5, .int x5_199), (4, .int 1), (3, .int r3), (2, .int r1), (0, .ref nms), (1, .int kk)] := hl
                              refine lv_iload hx hb d_MoPaper_plain_155 (lv_at hl 3 rfl) ?_
                              refine lv_if_eq hx hb d_MoPaper_plain_157 rfl (fun h223 => ?_) (fun h223 => ?_)
                              · exact absurd h223 (by decide)
                              · refine lv_iload hx hb d_MoPaper_plain_160 (lv_at hl 0 rfl) ?_
                                refine lv_if_ne hx hb d_MoPaper_plain_162 rfl (fun h224 => ?_) (fun h224 => ?_)
                                · exact absurd h224 (by decide)
                                · refine lv_goto hx hb d_MoPaper_plain_165 rfl ?_
                                  refine lv_iconst (v := 0) hx hb d_MoPaper_plain_176 (by decide) ?_
                                  have hq := Option.some.inj hok
                                  have hq0 := hq
                                  subst hq0
                                  obtain ⟨hP9, hD9⟩ := sub2 (ws' := [(nms, .inr (10, [.ref nms_text, .ref nms_from, .ref nms_next, .ref nms_first, .int nms_size, .int nms_texted])), (nms_text, .inl (cs 1, nms_text_n, .inl nms_text_f)), (nms_from, .inl (cs 0, nms_from_n, .inl nms_from_f))]) hP hD [0, 1, 2] rfl (by decide) rfl
                                  rw [hQ]
                                  exact W.zret (v := 0) hx hb hr rfl (fun t ht hW => ⟨⟨_, (), rfl, rfl, by rw [ht]; exact hP9, hD9⟩, hS.F ht⟩) hS.2.2 d_MoPaper_plain_177
                            · rw [if_pos h222] at hok
                              refine lv_iconst (v := 1) hx hb d_MoPaper_plain_148 (by decide) ?_
                              refine lv_goto hx hb d_MoPaper_plain_149 rfl ?_
                              refine lv_istore hx hb d_MoPaper_plain_153 hl (by decide) rfl (fun ls hl => ?_)
                              have hl : lv_has ls 8 [(7, .int 1), (6, .int r201), (5, .int x5_199), (4, .int 1), (3, .int r3), (2, .int r1), (0, .ref nms), (1, .int kk)] := hl
                              refine lv_iload hx hb d_MoPaper_plain_155 (lv_at hl 3 rfl) ?_
                              refine lv_if_eq hx hb d_MoPaper_plain_157 rfl (fun h225 => ?_) (fun h225 => ?_)
                              · exact absurd h225 (by decide)
                              · refine lv_iload hx hb d_MoPaper_plain_160 (lv_at hl 0 rfl) ?_
                                refine lv_if_ne hx hb d_MoPaper_plain_162 rfl (fun h226 => ?_) (fun h226 => ?_)
                                · refine lv_iinc (k := 2) (v := x5_199 + 1) hx hb d_MoPaper_plain_178 hl rfl rfl (by decide) rfl (fun ls hl => ?_)
                                  have hl : lv_has ls 8 [(5, .int (x5_199 + 1)), (7, .int 1), (6, .int r201), (4, .int 1), (3, .int r3), (2, .int r1), (0, .ref nms), (1, .int kk)] := hl
                                  refine lv_goto hx hb d_MoPaper_plain_181 rfl ?_
                                  exact ih199 _ _ _ (x5_199 + 1) (lv_sub hl [0, 3, 4, 5, 6, 7] rfl) (sub3 hP hD [0, 1, 2] (by decide)) hS hok
                                · exact absurd h226 (by decide)
                          · rw [if_neg h221] at hok
                            refine lv_iload hx hb d_MoPaper_plain_134 (lv_at hl 0 rfl) ?_
                            refine lv_bipush (v := 57) hx hb d_MoPaper_plain_136 (by decide) ?_
                            refine lv_icmp_le hx hb d_MoPaper_plain_138 rfl (fun h227 => ?_) (fun h227 => ?_)
                            · rw [if_pos h227] at hok
                              refine lv_iconst (v := 1) hx hb d_MoPaper_plain_148 (by decide) ?_
                              refine lv_goto hx hb d_MoPaper_plain_149 rfl ?_
                              refine lv_istore hx hb d_MoPaper_plain_153 hl (by decide) rfl (fun ls hl => ?_)
                              have hl : lv_has ls 8 [(7, .int 1), (6, .int r201), (5, .int x5_199), (4, .int 1), (3, .int r3), (2, .int r1), (0, .ref nms), (1, .int kk)] := hl
                              refine lv_iload hx hb d_MoPaper_plain_155 (lv_at hl 3 rfl) ?_
                              refine lv_if_eq hx hb d_MoPaper_plain_157 rfl (fun h228 => ?_) (fun h228 => ?_)
                              · exact absurd h228 (by decide)
                              · refine lv_iload hx hb d_MoPaper_plain_160 (lv_at hl 0 rfl) ?_
                                refine lv_if_ne hx hb d_MoPaper_plain_162 rfl (fun h229 => ?_) (fun h229 => ?_)
                                · refine lv_iinc (k := 2) (v := x5_199 + 1) hx hb d_MoPaper_plain_178 hl rfl rfl (by decide) rfl (fun ls hl => ?_)
                                  have hl : lv_has ls 8 [(5, .int (x5_199 + 1)), (7, .int 1), (6, .int r201), (4, .int 1), (3, .int r3), (2, .int r1), (0, .ref nms), (1, .int kk)] := hl
                                  refine lv_goto hx hb d_MoPaper_plain_181 rfl ?_
                                  exact ih199 _ _ _ (x5_199 + 1) (lv_sub hl [0, 3, 4, 5, 6, 7] rfl) (sub3 hP hD [0, 1, 2] (by decide)) hS hok
                                · exact absurd h229 (by decide)
                            · rw [if_neg h227] at hok
                              refine lv_iload hx hb d_MoPaper_plain_141 (lv_at hl 0 rfl) ?_
                              refine lv_bipush (v := 95) hx hb d_MoPaper_plain_143 (by decide) ?_
                              refine lv_icmp_ne hx hb d_MoPaper_plain_145 rfl (fun h230 => ?_) (fun h230 => ?_)
                              · rw [if_neg h230] at hok
                                refine lv_iconst (v := 0) hx hb d_MoPaper_plain_152 (by decide) ?_
                                refine lv_istore hx hb d_MoPaper_plain_153 hl (by decide) rfl (fun ls hl => ?_)
                                have hl : lv_has ls 8 [(7, .int 0), (6, .int r201), (5, .int x5_199), (4, .int 1), (3, .int r3), (2, .int r1), (0, .ref nms), (1, .int kk)] := hl
                                refine lv_iload hx hb d_MoPaper_plain_155 (lv_at hl 3 rfl) ?_
                                refine lv_if_eq hx hb d_MoPaper_plain_157 rfl (fun h231 => ?_) (fun h231 => ?_)
                                · exact absurd h231 (by decide)
                                · refine lv_iload hx hb d_MoPaper_plain_160 (lv_at hl 0 rfl) ?_
                                  refine lv_if_ne hx hb d_MoPaper_plain_162 rfl (fun h232 => ?_) (fun h232 => ?_)
                                  · exact absurd h232 (by decide)
                                  · refine lv_goto hx hb d_MoPaper_plain_165 rfl ?_
                                    refine lv_iconst (v := 0) hx hb d_MoPaper_plain_176 (by decide) ?_
                                    have hq := Option.some.inj hok
                                    have hq0 := hq
                                    subst hq0
                                    obtain ⟨hP9, hD9⟩ := sub2 (ws' := [(nms, .inr (10, [.ref nms_text, .ref nms_from, .ref nms_next, .ref nms_first, .int nms_size, .int nms_texted])), (nms_text, .inl (cs 1, nms_text_n, .inl nms_text_f)), (nms_from, .inl (cs 0, nms_from_n, .inl nms_from_f))]) hP hD [0, 1, 2] rfl (by decide) rfl
                                    rw [hQ]
                                    exact W.zret (v := 0) hx hb hr rfl (fun t ht hW => ⟨⟨_, (), rfl, rfl, by rw [ht]; exact hP9, hD9⟩, hS.F ht⟩) hS.2.2 d_MoPaper_plain_177
                              · rw [if_pos h230] at hok
                                refine lv_iconst (v := 1) hx hb d_MoPaper_plain_148 (by decide) ?_
                                refine lv_goto hx hb d_MoPaper_plain_149 rfl ?_
                                refine lv_istore hx hb d_MoPaper_plain_153 hl (by decide) rfl (fun ls hl => ?_)
                                have hl : lv_has ls 8 [(7, .int 1), (6, .int r201), (5, .int x5_199), (4, .int 1), (3, .int r3), (2, .int r1), (0, .ref nms), (1, .int kk)] := hl
                                refine lv_iload hx hb d_MoPaper_plain_155 (lv_at hl 3 rfl) ?_
                                refine lv_if_eq hx hb d_MoPaper_plain_157 rfl (fun h233 => ?_) (fun h233 => ?_)
                                · exact absurd h233 (by decide)
                                · refine lv_iload hx hb d_MoPaper_plain_160 (lv_at hl 0 rfl) ?_
                                  refine lv_if_ne hx hb d_MoPaper_plain_162 rfl (fun h234 => ?_) (fun h234 => ?_)
                                  · refine lv_iinc (k := 2) (v := x5_199 + 1) hx hb d_MoPaper_plain_178 hl rfl rfl (by decide) rfl (fun ls hl => ?_)
                                    have hl : lv_has ls 8 [(5, .int (x5_199 + 1)), (7, .int 1), (6, .int r201), (4, .int 1), (3, .int r3), (2, .int r1), (0, .ref nms), (1, .int kk)] := hl
                                    refine lv_goto hx hb d_MoPaper_plain_181 rfl ?_
                                    exact ih199 _ _ _ (x5_199 + 1) (lv_sub hl [0, 3, 4, 5, 6, 7] rfl) (sub3 hP hD [0, 1, 2] (by decide)) hS hok
                                  · exact absurd h234 (by decide)
                    · rw [if_neg h202] at hok
                      refine lv_iload hx hb d_MoPaper_plain_106 (lv_at hl 0 rfl) ?_
                      refine lv_bipush (v := 122) hx hb d_MoPaper_plain_108 (by decide) ?_
                      refine lv_icmp_le hx hb d_MoPaper_plain_110 rfl (fun h235 => ?_) (fun h235 => ?_)
                      · rw [if_pos h235] at hok
                        refine lv_iconst (v := 1) hx hb d_MoPaper_plain_148 (by decide) ?_
                        refine lv_goto hx hb d_MoPaper_plain_149 rfl ?_
                        refine lv_istore hx hb d_MoPaper_plain_153 hl (by decide) rfl (fun ls hl => ?_)
                        have hl : lv_has ls 8 [(7, .int 1), (6, .int r201), (5, .int x5_199), (4, .int 1), (3, .int r3), (2, .int r1), (0, .ref nms), (1, .int kk)] := hl
                        refine lv_iload hx hb d_MoPaper_plain_155 (lv_at hl 3 rfl) ?_
                        refine lv_if_eq hx hb d_MoPaper_plain_157 rfl (fun h236 => ?_) (fun h236 => ?_)
                        · exact absurd h236 (by decide)
                        · refine lv_iload hx hb d_MoPaper_plain_160 (lv_at hl 0 rfl) ?_
                          refine lv_if_ne hx hb d_MoPaper_plain_162 rfl (fun h237 => ?_) (fun h237 => ?_)
                          · refine lv_iinc (k := 2) (v := x5_199 + 1) hx hb d_MoPaper_plain_178 hl rfl rfl (by decide) rfl (fun ls hl => ?_)
                            have hl : lv_has ls 8 [(5, .int (x5_199 + 1)), (7, .int 1), (6, .int r201), (4, .int 1), (3, .int r3), (2, .int r1), (0, .ref nms), (1, .int kk)] := hl
                            refine lv_goto hx hb d_MoPaper_plain_181 rfl ?_
                            exact ih199 _ _ _ (x5_199 + 1) (lv_sub hl [0, 3, 4, 5, 6, 7] rfl) (sub3 hP hD [0, 1, 2] (by decide)) hS hok
                          · exact absurd h237 (by decide)
                      · rw [if_neg h235] at hok
                        refine lv_iload hx hb d_MoPaper_plain_113 (lv_at hl 0 rfl) ?_
                        refine lv_bipush (v := 65) hx hb d_MoPaper_plain_115 (by decide) ?_
                        refine lv_icmp_lt hx hb d_MoPaper_plain_117 rfl (fun h238 => ?_) (fun h238 => ?_)
                        · rw [if_pos h238] at hok
                          refine lv_iload hx hb d_MoPaper_plain_127 (lv_at hl 0 rfl) ?_
                          refine lv_bipush (v := 48) hx hb d_MoPaper_plain_129 (by decide) ?_
                          refine lv_icmp_lt hx hb d_MoPaper_plain_131 rfl (fun h239 => ?_) (fun h239 => ?_)
                          · rw [if_pos h239] at hok
                            refine lv_iload hx hb d_MoPaper_plain_141 (lv_at hl 0 rfl) ?_
                            refine lv_bipush (v := 95) hx hb d_MoPaper_plain_143 (by decide) ?_
                            refine lv_icmp_ne hx hb d_MoPaper_plain_145 rfl (fun h240 => ?_) (fun h240 => ?_)
                            · rw [if_neg h240] at hok
                              refine lv_iconst (v := 0) hx hb d_MoPaper_plain_152 (by decide) ?_
                              refine lv_istore hx hb d_MoPaper_plain_153 hl (by decide) rfl (fun ls hl => ?_)
                              have hl : lv_has ls 8 [(7, .int 0), (6, .int r201), (5, .int x5_199), (4, .int 1), (3, .int r3), (2, .int r1), (0, .ref nms), (1, .int kk)] := hl
                              refine lv_iload hx hb d_MoPaper_plain_155 (lv_at hl 3 rfl) ?_
                              refine lv_if_eq hx hb d_MoPaper_plain_157 rfl (fun h241 => ?_) (fun h241 => ?_)
                              · exact absurd h241 (by decide)
                              · refine lv_iload hx hb d_MoPaper_plain_160 (lv_at hl 0 rfl) ?_
                                refine lv_if_ne hx hb d_MoPaper_plain_162 rfl (fun h242 => ?_) (fun h242 => ?_)
                                · exact absurd h242 (by decide)
                                · refine lv_goto hx hb d_MoPaper_plain_165 rfl ?_
                                  refine lv_iconst (v := 0) hx hb d_MoPaper_plain_176 (by decide) ?_
                                  have hq := Option.some.inj hok
                                  have hq0 := hq
                                  subst hq0
                                  obtain ⟨hP9, hD9⟩ := sub2 (ws' := [(nms, .inr (10, [.ref nms_text, .ref nms_from, .ref nms_next, .ref nms_first, .int nms_size, .int nms_texted])), (nms_text, .inl (cs 1, nms_text_n, .inl nms_text_f)), (nms_from, .inl (cs 0, nms_from_n, .inl nms_from_f))]) hP hD [0, 1, 2] rfl (by decide) rfl
                                  rw [hQ]
                                  exact W.zret (v := 0) hx hb hr rfl (fun t ht hW => ⟨⟨_, (), rfl, rfl, by rw [ht]; exact hP9, hD9⟩, hS.F ht⟩) hS.2.2 d_MoPaper_plain_177
                            · rw [if_pos h240] at hok
                              refine lv_iconst (v := 1) hx hb d_MoPaper_plain_148 (by decide) ?_
                              refine lv_goto hx hb d_MoPaper_plain_149 rfl ?_
                              refine lv_istore hx hb d_MoPaper_plain_153 hl (by decide) rfl (fun ls hl => ?_)
                              have hl : lv_has ls 8 [(7, .int 1), (6, .int r201), (5, .int x5_199), (4, .int 1), (3, .int r3), (2, .int r1), (0, .ref nms), (1, .int kk)] := hl
                              refine lv_iload hx hb d_MoPaper_plain_155 (lv_at hl 3 rfl) ?_
                              refine lv_if_eq hx hb d_MoPaper_plain_157 rfl (fun h243 => ?_) (fun h243 => ?_)
                              · exact absurd h243 (by decide)
                              · refine lv_iload hx hb d_MoPaper_plain_160 (lv_at hl 0 rfl) ?_
                                refine lv_if_ne hx hb d_MoPaper_plain_162 rfl (fun h244 => ?_) (fun h244 => ?_)
                                · refine lv_iinc (k := 2) (v := x5_199 + 1) hx hb d_MoPaper_plain_178 hl rfl rfl (by decide) rfl (fun ls hl => ?_)
                                  have hl : lv_has ls 8 [(5, .int (x5_199 + 1)), (7, .int 1), (6, .int r201), (4, .int 1), (3, .int r3), (2, .int r1), (0, .ref nms), (1, .int kk)] := hl
                                  refine lv_goto hx hb d_MoPaper_plain_181 rfl ?_
                                  exact ih199 _ _ _ (x5_199 + 1) (lv_sub hl [0, 3, 4, 5, 6, 7] rfl) (sub3 hP hD [0, 1, 2] (by decide)) hS hok
                                · exact absurd h244 (by decide)
                          · rw [if_neg h239] at hok
                            refine lv_iload hx hb d_MoPaper_plain_134 (lv_at hl 0 rfl) ?_
                            refine lv_bipush (v := 57) hx hb d_MoPaper_plain_136 (by decide) ?_
                            refine lv_icmp_le hx hb d_MoPaper_plain_138 rfl (fun h245 => ?_) (fun h245 => ?_)
                            · rw [if_pos h245] at hok
                              refine lv_iconst (v := 1) hx hb d_MoPaper_plain_148 (by decide) ?_
                              refine lv_goto hx hb d_MoPaper_plain_149 rfl ?_
                              refine lv_istore hx hb d_MoPaper_plain_153 hl (by decide) rfl (fun ls hl => ?_)
                              have hl : lv_has ls 8 [(7, .int 1), (6, .int r201), (5, .int x5_199), (4, .int 1), (3, .int r3), (2, .int r1), (0, .ref nms), (1, .int kk)] := hl
                              refine lv_iload hx hb d_MoPaper_plain_155 (lv_at hl 3 rfl) ?_
                              refine lv_if_eq hx hb d_MoPaper_plain_157 rfl (fun h246 => ?_) (fun h246 => ?_)
                              · exact absurd h246 (by decide)
                              · refine lv_iload hx hb d_MoPaper_plain_160 (lv_at hl 0 rfl) ?_
                                refine lv_if_ne hx hb d_MoPaper_plain_162 rfl (fun h247 => ?_) (fun h247 => ?_)
                                · refine lv_iinc (k := 2) (v := x5_199 + 1) hx hb d_MoPaper_plain_178 hl rfl rfl (by decide) rfl (fun ls hl => ?_)
                                  have hl : lv_has ls 8 [(5, .int (x5_199 + 1)), (7, .int 1), (6, .int r201), (4, .int 1), (3, .int r3), (2, .int r1), (0, .ref nms), (1, .int kk)] := hl
                                  refine lv_goto hx hb d_MoPaper_plain_181 rfl ?_
                                  exact ih199 _ _ _ (x5_199 + 1) (lv_sub hl [0, 3, 4, 5, 6, 7] rfl) (sub3 hP hD [0, 1, 2] (by decide)) hS hok
                                · exact absurd h247 (by decide)
                            · rw [if_neg h245] at hok
                              refine lv_iload hx hb d_MoPaper_plain_141 (lv_at hl 0 rfl) ?_
                              refine lv_bipush (v := 95) hx hb d_MoPaper_plain_143 (by decide) ?_
                              refine lv_icmp_ne hx hb d_MoPaper_plain_145 rfl (fun h248 => ?_) (fun h248 => ?_)
                              · rw [if_neg h248] at hok
                                refine lv_iconst (v := 0) hx hb d_MoPaper_plain_152 (by decide) ?_
                                refine lv_istore hx hb d_MoPaper_plain_153 hl (by decide) rfl (fun ls hl => ?_)
                                have hl : lv_has ls 8 [(7, .int 0), (6, .int r201), (5, .int x5_199), (4, .int 1), (3, .int r3), (2, .int r1), (0, .ref nms), (1, .int kk)] := hl
                                refine lv_iload hx hb d_MoPaper_plain_155 (lv_at hl 3 rfl) ?_
                                refine lv_if_eq hx hb d_MoPaper_plain_157 rfl (fun h249 => ?_) (fun h249 => ?_)
                                · exact absurd h249 (by decide)
                                · refine lv_iload hx hb d_MoPaper_plain_160 (lv_at hl 0 rfl) ?_
                                  refine lv_if_ne hx hb d_MoPaper_plain_162 rfl (fun h250 => ?_) (fun h250 => ?_)
                                  · exact absurd h250 (by decide)
                                  · refine lv_goto hx hb d_MoPaper_plain_165 rfl ?_
                                    refine lv_iconst (v := 0) hx hb d_MoPaper_plain_176 (by decide) ?_
                                    have hq := Option.some.inj hok
                                    have hq0 := hq
                                    subst hq0
                                    obtain ⟨hP9, hD9⟩ := sub2 (ws' := [(nms, .inr (10, [.ref nms_text, .ref nms_from, .ref nms_next, .ref nms_first, .int nms_size, .int nms_texted])), (nms_text, .inl (cs 1, nms_text_n, .inl nms_text_f)), (nms_from, .inl (cs 0, nms_from_n, .inl nms_from_f))]) hP hD [0, 1, 2] rfl (by decide) rfl
                                    rw [hQ]
                                    exact W.zret (v := 0) hx hb hr rfl (fun t ht hW => ⟨⟨_, (), rfl, rfl, by rw [ht]; exact hP9, hD9⟩, hS.F ht⟩) hS.2.2 d_MoPaper_plain_177
                              · rw [if_pos h248] at hok
                                refine lv_iconst (v := 1) hx hb d_MoPaper_plain_148 (by decide) ?_
                                refine lv_goto hx hb d_MoPaper_plain_149 rfl ?_
                                refine lv_istore hx hb d_MoPaper_plain_153 hl (by decide) rfl (fun ls hl => ?_)
                                have hl : lv_has ls 8 [(7, .int 1), (6, .int r201), (5, .int x5_199), (4, .int 1), (3, .int r3), (2, .int r1), (0, .ref nms), (1, .int kk)] := hl
                                refine lv_iload hx hb d_MoPaper_plain_155 (lv_at hl 3 rfl) ?_
                                refine lv_if_eq hx hb d_MoPaper_plain_157 rfl (fun h251 => ?_) (fun h251 => ?_)
                                · exact absurd h251 (by decide)
                                · refine lv_iload hx hb d_MoPaper_plain_160 (lv_at hl 0 rfl) ?_
                                  refine lv_if_ne hx hb d_MoPaper_plain_162 rfl (fun h252 => ?_) (fun h252 => ?_)
                                  · refine lv_iinc (k := 2) (v := x5_199 + 1) hx hb d_MoPaper_plain_178 hl rfl rfl (by decide) rfl (fun ls hl => ?_)
                                    have hl : lv_has ls 8 [(5, .int (x5_199 + 1)), (7, .int 1), (6, .int r201), (4, .int 1), (3, .int r3), (2, .int r1), (0, .ref nms), (1, .int kk)] := hl
                                    refine lv_goto hx hb d_MoPaper_plain_181 rfl ?_
                                    exact ih199 _ _ _ (x5_199 + 1) (lv_sub hl [0, 3, 4, 5, 6, 7] rfl) (sub3 hP hD [0, 1, 2] (by decide)) hS hok
                                  · exact absurd h252 (by decide)
                        · rw [if_neg h238] at hok
                          refine lv_iload hx hb d_MoPaper_plain_120 (lv_at hl 0 rfl) ?_
                          refine lv_bipush (v := 90) hx hb d_MoPaper_plain_122 (by decide) ?_
                          refine lv_icmp_le hx hb d_MoPaper_plain_124 rfl (fun h253 => ?_) (fun h253 => ?_)
                          · rw [if_pos h253] at hok
                            refine lv_iconst (v := 1) hx hb d_MoPaper_plain_148 (by decide) ?_
                            refine lv_goto hx hb d_MoPaper_plain_149 rfl ?_
                            refine lv_istore hx hb d_MoPaper_plain_153 hl (by decide) rfl (fun ls hl => ?_)
                            have hl : lv_has ls 8 [(7, .int 1), (6, .int r201), (5, .int x5_199), (4, .int 1), (3, .int r3), (2, .int r1), (0, .ref nms), (1, .int kk)] := hl
                            refine lv_iload hx hb d_MoPaper_plain_155 (lv_at hl 3 rfl) ?_
                            refine lv_if_eq hx hb d_MoPaper_plain_157 rfl (fun h254 => ?_) (fun h254 => ?_)
                            · exact absurd h254 (by decide)
                            · refine lv_iload hx hb d_MoPaper_plain_160 (lv_at hl 0 rfl) ?_
                              refine lv_if_ne hx hb d_MoPaper_plain_162 rfl (fun h255 => ?_) (fun h255 => ?_)
                              · refine lv_iinc (k := 2) (v := x5_199 + 1) hx hb d_MoPaper_plain_178 hl rfl rfl (by decide) rfl (fun ls hl => ?_)
                                have hl : lv_has ls 8 [(5, .int (x5_199 + 1)), (7, .int 1), (6, .int r201), (4, .int 1), (3, .int r3), (2, .int r1), (0, .ref nms), (1, .int kk)] := hl
                                refine lv_goto hx hb d_MoPaper_plain_181 rfl ?_
                                exact ih199 _ _ _ (x5_199 + 1) (lv_sub hl [0, 3, 4, 5, 6, 7] rfl) (sub3 hP hD [0, 1, 2] (by decide)) hS hok
                              · exact absurd h255 (by decide)
                          · rw [if_neg h253] at hok
                            refine lv_iload hx hb d_MoPaper_plain_127 (lv_at hl 0 rfl) ?_
                            refine lv_bipush (v := 48) hx hb d_MoPaper_plain_129 (by decide) ?_
                            refine lv_icmp_lt hx hb d_MoPaper_plain_131 rfl (fun h256 => ?_) (fun h256 => ?_)
                            · rw [if_pos h256] at hok
                              refine lv_iload hx hb d_MoPaper_plain_141 (lv_at hl 0 rfl) ?_
                              refine lv_bipush (v := 95) hx hb d_MoPaper_plain_143 (by decide) ?_
                              refine lv_icmp_ne hx hb d_MoPaper_plain_145 rfl (fun h257 => ?_) (fun h257 => ?_)
                              · rw [if_neg h257] at hok
                                refine lv_iconst (v := 0) hx hb d_MoPaper_plain_152 (by decide) ?_
                                refine lv_istore hx hb d_MoPaper_plain_153 hl (by decide) rfl (fun ls hl => ?_)
                                have hl : lv_has ls 8 [(7, .int 0), (6, .int r201), (5, .int x5_199), (4, .int 1), (3, .int r3), (2, .int r1), (0, .ref nms), (1, .int kk)] := hl
                                refine lv_iload hx hb d_MoPaper_plain_155 (lv_at hl 3 rfl) ?_
                                refine lv_if_eq hx hb d_MoPaper_plain_157 rfl (fun h258 => ?_) (fun h258 => ?_)
                                · exact absurd h258 (by decide)
                                · refine lv_iload hx hb d_MoPaper_plain_160 (lv_at hl 0 rfl) ?_
                                  refine lv_if_ne hx hb d_MoPaper_plain_162 rfl (fun h259 => ?_) (fun h259 => ?_)
                                  · exact absurd h259 (by decide)
                                  · refine lv_goto hx hb d_MoPaper_plain_165 rfl ?_
                                    refine lv_iconst (v := 0) hx hb d_MoPaper_plain_176 (by decide) ?_
                                    have hq := Option.some.inj hok
                                    have hq0 := hq
                                    subst hq0
                                    obtain ⟨hP9, hD9⟩ := sub2 (ws' := [(nms, .inr (10, [.ref nms_text, .ref nms_from, .ref nms_next, .ref nms_first, .int nms_size, .int nms_texted])), (nms_text, .inl (cs 1, nms_text_n, .inl nms_text_f)), (nms_from, .inl (cs 0, nms_from_n, .inl nms_from_f))]) hP hD [0, 1, 2] rfl (by decide) rfl
                                    rw [hQ]
                                    exact W.zret (v := 0) hx hb hr rfl (fun t ht hW => ⟨⟨_, (), rfl, rfl, by rw [ht]; exact hP9, hD9⟩, hS.F ht⟩) hS.2.2 d_MoPaper_plain_177
                              · rw [if_pos h257] at hok
                                refine lv_iconst (v := 1) hx hb d_MoPaper_plain_148 (by decide) ?_
                                refine lv_goto hx hb d_MoPaper_plain_149 rfl ?_
                                refine lv_istore hx hb d_MoPaper_plain_153 hl (by decide) rfl (fun ls hl => ?_)
                                have hl : lv_has ls 8 [(7, .int 1), (6, .int r201), (5, .int x5_199), (4, .int 1), (3, .int r3), (2, .int r1), (0, .ref nms), (1, .int kk)] := hl
                                refine lv_iload hx hb d_MoPaper_plain_155 (lv_at hl 3 rfl) ?_
                                refine lv_if_eq hx hb d_MoPaper_plain_157 rfl (fun h260 => ?_) (fun h260 => ?_)
                                · exact absurd h260 (by decide)
                                · refine lv_iload hx hb d_MoPaper_plain_160 (lv_at hl 0 rfl) ?_
                                  refine lv_if_ne hx hb d_MoPaper_plain_162 rfl (fun h261 => ?_) (fun h261 => ?_)
                                  · refine lv_iinc (k := 2) (v := x5_199 + 1) hx hb d_MoPaper_plain_178 hl rfl rfl (by decide) rfl (fun ls hl => ?_)
                                    have hl : lv_has ls 8 [(5, .int (x5_199 + 1)), (7, .int 1), (6, .int r201), (4, .int 1), (3, .int r3), (2, .int r1), (0, .ref nms), (1, .int kk)] := hl
                                    refine lv_goto hx hb d_MoPaper_plain_181 rfl ?_
                                    exact ih199 _ _ _ (x5_199 + 1) (lv_sub hl [0, 3, 4, 5, 6, 7] rfl) (sub3 hP hD [0, 1, 2] (by decide)) hS hok
                                  · exact absurd h261 (by decide)
                            · rw [if_neg h256] at hok
                              refine lv_iload hx hb d_MoPaper_plain_134 (lv_at hl 0 rfl) ?_
                              refine lv_bipush (v := 57) hx hb d_MoPaper_plain_136 (by decide) ?_
                              refine lv_icmp_le hx hb d_MoPaper_plain_138 rfl (fun h262 => ?_) (fun h262 => ?_)
                              · rw [if_pos h262] at hok
                                refine lv_iconst (v := 1) hx hb d_MoPaper_plain_148 (by decide) ?_
                                refine lv_goto hx hb d_MoPaper_plain_149 rfl ?_
                                refine lv_istore hx hb d_MoPaper_plain_153 hl (by decide) rfl (fun ls hl => ?_)
                                have hl : lv_has ls 8 [(7, .int 1), (6, .int r201), (5, .int x5_199), (4, .int 1), (3, .int r3), (2, .int r1), (0, .ref nms), (1, .int kk)] := hl
                                refine lv_iload hx hb d_MoPaper_plain_155 (lv_at hl 3 rfl) ?_
                                refine lv_if_eq hx hb d_MoPaper_plain_157 rfl (fun h263 => ?_) (fun h263 => ?_)
                                · exact absurd h263 (by decide)
                                · refine lv_iload hx hb d_MoPaper_plain_160 (lv_at hl 0 rfl) ?_
                                  refine lv_if_ne hx hb d_MoPaper_plain_162 rfl (fun h264 => ?_) (fun h264 => ?_)
                                  · refine lv_iinc (k := 2) (v := x5_199 + 1) hx hb d_MoPaper_plain_178 hl rfl rfl (by decide) rfl (fun ls hl => ?_)
                                    have hl : lv_has ls 8 [(5, .int (x5_199 + 1)), (7, .int 1), (6, .int r201), (4, .int 1), (3, .int r3), (2, .int r1), (0, .ref nms), (1, .int kk)] := hl
                                    refine lv_goto hx hb d_MoPaper_plain_181 rfl ?_
                                    exact ih199 _ _ _ (x5_199 + 1) (lv_sub hl [0, 3, 4, 5, 6, 7] rfl) (sub3 hP hD [0, 1, 2] (by decide)) hS hok
                                  · exact absurd h264 (by decide)
                              · rw [if_neg h262] at hok
                                refine lv_iload hx hb d_MoPaper_plain_141 (lv_at hl 0 rfl) ?_
                                refine lv_bipush (v := 95) hx hb d_MoPaper_plain_143 (by decide) ?_
                                refine lv_icmp_ne hx hb d_MoPaper_plain_145 rfl (fun h265 => ?_) (fun h265 => ?_)
                                · rw [if_neg h265] at hok
                                  refine lv_iconst (v := 0) hx hb d_MoPaper_plain_152 (by decide) ?_
                                  refine lv_istore hx hb d_MoPaper_plain_153 hl (by decide) rfl (fun ls hl => ?_)
                                  have hl : lv_has ls 8 [(7, .int 0), (6, .int r201), (5, .int x5_199), (4, .int 1), (3, .int r3), (2, .int r1), (0, .ref nms), (1, .int kk)] := hl
                                  refine lv_iload hx hb d_MoPaper_plain_155 (lv_at hl 3 rfl) ?_
                                  refine lv_if_eq hx hb d_MoPaper_plain_157 rfl (fun h266 => ?_) (fun h266 => ?_)
                                  · exact absurd h266 (by decide)
                                  · refine lv_iload hx hb d_MoPaper_plain_160 (lv_at hl 0 rfl) ?_
                                    refine lv_if_ne hx hb d_MoPaper_plain_162 rfl (fun h267 => ?_) (fun h267 => ?_)
                                    · exact absurd h267 (by decide)
                                    · refine lv_goto hx hb d_MoPaper_plain_165 rfl ?_
                                      refine lv_iconst (v := 0) hx hb d_MoPaper_plain_176 (by decide) ?_
                                      have hq := Option.some.inj hok
                                      have hq0 := hq
                                      subst hq0
                                      obtain ⟨hP9, hD9⟩ := sub2 (ws' := [(nms, .inr (10, [.ref nms_text, .ref nms_from, .ref nms_next, .ref nms_first, .int nms_size, .int nms_texted])), (nms_text, .inl (cs 1, nms_text_n, .inl nms_text_f)), (nms_from, .inl (cs 0, nms_from_n, .inl nms_from_f))]) hP hD [0, 1, 2] rfl (by decide) rfl
                                      rw [hQ]
                                      exact W.zret (v := 0) hx hb hr rfl (fun t ht hW => ⟨⟨_, (), rfl, rfl, by rw [ht]; exact hP9, hD9⟩, hS.F ht⟩) hS.2.2 d_MoPaper_plain_177
                                · rw [if_pos h265] at hok
                                  refine lv_iconst (v := 1) hx hb d_MoPaper_plain_148 (by decide) ?_
                                  refine lv_goto hx hb d_MoPaper_plain_149 rfl ?_
                                  refine lv_istore hx hb d_MoPaper_plain_153 hl (by decide) rfl (fun ls hl => ?_)
                                  have hl : lv_has ls 8 [(7, .int 1), (6, .int r201), (5, .int x5_199), (4, .int 1), (3, .int r3), (2, .int r1), (0, .ref nms), (1, .int kk)] := hl
                                  refine lv_iload hx hb d_MoPaper_plain_155 (lv_at hl 3 rfl) ?_
                                  refine lv_if_eq hx hb d_MoPaper_plain_157 rfl (fun h268 => ?_) (fun h268 => ?_)
                                  · exact absurd h268 (by decide)
                                  · refine lv_iload hx hb d_MoPaper_plain_160 (lv_at hl 0 rfl) ?_
                                    refine lv_if_ne hx hb d_MoPaper_plain_162 rfl (fun h269 => ?_) (fun h269 => ?_)
                                    · refine lv_iinc (k := 2) (v := x5_199 + 1) hx hb d_MoPaper_plain_178 hl rfl rfl (by decide) rfl (fun ls hl => ?_)
                                      have hl : lv_has ls 8 [(5, .int (x5_199 + 1)), (7, .int 1), (6, .int r201), (4, .int 1), (3, .int r3), (2, .int r1), (0, .ref nms), (1, .int kk)] := hl
                                      refine lv_goto hx hb d_MoPaper_plain_181 rfl ?_
                                      exact ih199 _ _ _ (x5_199 + 1) (lv_sub hl [0, 3, 4, 5, 6, 7] rfl) (sub3 hP hD [0, 1, 2] (by decide)) hS hok
                                    · exact absurd h269 (by decide)
              exact J199 n H locs ls (0 : Int32) hl ⟨hP, hD⟩ hS hok
        · rw [if_neg h8] at hok
          refine lv_iconst (v := 0) hx hb d_MoPaper_plain_60 (by decide) ?_
          have hq := Option.some.inj hok
          have hq0 := hq
          subst hq0
          obtain ⟨hP9, hD9⟩ := sub2 (ws' := [(nms, .inr (10, [.ref nms_text, .ref nms_from, .ref nms_next, .ref nms_first, .int nms_size, .int nms_texted])), (nms_text, .inl (cs 1, nms_text_n, .inl nms_text_f)), (nms_from, .inl (cs 0, nms_from_n, .inl nms_from_f))]) hP hD [0, 1, 2] rfl (by decide) rfl
          rw [hQ]
          exact W.zret (v := 0) hx hb hr rfl (fun t ht hW => ⟨⟨_, (), rfl, rfl, by rw [ht]; exact hP9, hD9⟩, hS.F ht⟩) hS.2.2 d_MoPaper_plain_61
      · rw [if_neg h6] at hok
        refine lv_iconst (v := 1) hx hb d_MoPaper_plain_48 (by decide) ?_
        have hq := Option.some.inj hok
        have hq0 := hq
        subst hq0
        obtain ⟨hP9, hD9⟩ := sub2 (ws' := [(nms, .inr (10, [.ref nms_text, .ref nms_from, .ref nms_next, .ref nms_first, .int nms_size, .int nms_texted])), (nms_text, .inl (cs 1, nms_text_n, .inl nms_text_f)), (nms_from, .inl (cs 0, nms_from_n, .inl nms_from_f))]) hP hD [0, 1, 2] rfl (by decide) rfl
        rw [hQ]
        exact W.zret (v := 1) hx hb hr rfl (fun t ht hW => ⟨⟨_, (), rfl, rfl, by rw [ht]; exact hP9, hD9⟩, hS.F ht⟩) hS.2.2 d_MoPaper_plain_49
    · rw [if_pos h4] at hok
      refine lv_iload_n hx hb d_MoPaper_plain_24 rfl (lv_at hl 0 rfl) ?_
      refine lv_bipush (v := 33) hx hb d_MoPaper_plain_25 (by decide) ?_
      refine lv_icmp_eq hx hb d_MoPaper_plain_27 rfl (fun h270 => ?_) (fun h270 => ?_)
      · rw [if_pos h270] at hok
        refine lv_iconst (v := 1) hx hb d_MoPaper_plain_36 (by decide) ?_
        have hq := Option.some.inj hok
        have hq0 := hq
        subst hq0
        obtain ⟨hP9, hD9⟩ := sub2 (ws' := [(nms, .inr (10, [.ref nms_text, .ref nms_from, .ref nms_next, .ref nms_first, .int nms_size, .int nms_texted])), (nms_text, .inl (cs 1, nms_text_n, .inl nms_text_f)), (nms_from, .inl (cs 0, nms_from_n, .inl nms_from_f))]) hP hD [0, 1, 2] rfl (by decide) rfl
        rw [hQ]
        exact W.zret (v := 1) hx hb hr rfl (fun t ht hW => ⟨⟨_, (), rfl, rfl, by rw [ht]; exact hP9, hD9⟩, hS.F ht⟩) hS.2.2 d_MoPaper_plain_37
      · rw [if_neg h270] at hok
        refine lv_iload_n hx hb d_MoPaper_plain_30 rfl (lv_at hl 0 rfl) ?_
        refine lv_bipush (v := 59) hx hb d_MoPaper_plain_31 (by decide) ?_
        refine lv_icmp_ne hx hb d_MoPaper_plain_33 rfl (fun h271 => ?_) (fun h271 => ?_)
        · rw [if_neg h271] at hok
          refine lv_aload_n hx hb d_MoPaper_plain_38 rfl (lv_at hl 2 rfl) ?_
          refine lv_iload_n hx hb d_MoPaper_plain_39 rfl (lv_at hl 3 rfl) ?_
          refine va_ldcS hx hb hown (hkr.1 _ (List.mem_of_getElem? (i := 25) rfl)) d_MoPaper_plain_40 ?_
          obtain ⟨r272, hc272, hok⟩ := bd_some hok
          obtain ⟨hPc, hDc, hFc⟩ := cut0 (wc := [(nms, .inr (10, [.ref nms_text, .ref nms_from, .ref nms_next, .ref nms_first, .int nms_size, .int nms_texted])), (nms_text, .inl (cs 1, nms_text_n, .inl nms_text_f)), (nms_from, .inl (cs 0, nms_from_n, .inl nms_from_f))]) hP hD hS hA [0, 1, 2] (by decide) rfl
          refine va_calli (va_runV (As := [.int kk, .ref (ka (200 + 24))]) (rest := []) ⟨hx, hb, hml, hown, hg⟩ (c_MoNames_spells l g cs ka nms_next nms_first nms nms_text nms_from H.size n kk 24 nms_size nms_texted nms_text_n nms_text_f nms_from_n nms_from_f r272 hc272) (cwV (C := R_MoNames) 2 hg (gw_V wd_750 wd_751 wd_752 wd_717 wd_749) rfl rfl rfl (by decide +kernel) ⟨Nat.le_of_ble_eq_true rfl, Nat.le_of_ble_eq_true rfl⟩) ⟨gP_blind, va_recv (q0 := 0) (ci := 10) (q := (R_MoNames, F_MoNames, 6)) hK hP rfl rfl, gP_pre hPc hDc hK hgl hkn hkr hS hFc⟩ rfl rfl hl.1 rfl (lv_room (Nat.le_of_ble_eq_true rfl)) d_MoPaper_plain_42 ⟨Nat.le_of_ble_eq_true rfl, Nat.le_of_ble_eq_true rfl⟩) hS (fun q _ h => hFc q h) hFc (fun r272' u t H locs ht hvm hr272 hB hz1 hk1 hS => ?_)
          subst hr272
          rw [ht] at hB
          obtain ⟨hP1, hD1⟩ := hB
          obtain ⟨hP, hD⟩ := jn_A hP hD [0, 1, 2] [] rfl rfl (by decide) (by decide) hk1 hFc hP1 hD1
          obtain ⟨hP, hD⟩ : PD g A H [(nms, .inr (10, [.ref nms_text, .ref nms_from, .ref nms_next, .ref nms_first, .int nms_size, .int nms_texted])), (nms_text, .inl (cs 1, nms_text_n, .inl nms_text_f)), (nms_from, .inl (cs 0, nms_from_n, .inl nms_from_f))] := ⟨hP, hD⟩
          refine lv_if_eq hx hb d_MoPaper_plain_45 rfl (fun h273 => ?_) (fun h273 => ?_)
          · rw [if_pos h273] at hok
            refine lv_aload_n hx hb d_MoPaper_plain_50 rfl (lv_at hl 2 rfl) ?_
            refine lv_iload_n hx hb d_MoPaper_plain_51 rfl (lv_at hl 3 rfl) ?_
            refine va_ldcS hx hb hown (hkr.1 _ (List.mem_of_getElem? (i := 24) rfl)) d_MoPaper_plain_52 ?_
            obtain ⟨r274, hc274, hok⟩ := bd_some hok
            obtain ⟨hPc, hDc, hFc⟩ := cut0 (wc := [(nms, .inr (10, [.ref nms_text, .ref nms_from, .ref nms_next, .ref nms_first, .int nms_size, .int nms_texted])), (nms_text, .inl (cs 1, nms_text_n, .inl nms_text_f)), (nms_from, .inl (cs 0, nms_from_n, .inl nms_from_f))]) hP hD hS hA [0, 1, 2] (by decide) rfl
            refine va_calli (va_runV (As := [.int kk, .ref (ka (200 + 23))]) (rest := []) ⟨hx, hb, hml, hown, hg⟩ (c_MoNames_spells l g cs ka nms_next nms_first nms nms_text nms_from H.size n kk 23 nms_size nms_texted nms_text_n nms_text_f nms_from_n nms_from_f r274 hc274) (cwV (C := R_MoNames) 2 hg (gw_V wd_750 wd_751 wd_752 wd_717 wd_749) rfl rfl rfl (by decide +kernel) ⟨Nat.le_of_ble_eq_true rfl, Nat.le_of_ble_eq_true rfl⟩) ⟨gP_blind, va_recv (q0 := 0) (ci := 10) (q := (R_MoNames, F_MoNames, 6)) hK hP rfl rfl, gP_pre hPc hDc hK hgl hkn hkr hS hFc⟩ rfl rfl hl.1 rfl (lv_room (Nat.le_of_ble_eq_true rfl)) d_MoPaper_plain_54 ⟨Nat.le_of_ble_eq_true rfl, Nat.le_of_ble_eq_true rfl⟩) hS (fun q _ h => hFc q h) hFc (fun r274' u t H locs ht hvm hr274 hB hz1 hk1 hS => ?_)
            subst hr274
            rw [ht] at hB
            obtain ⟨hP1, hD1⟩ := hB
            obtain ⟨hP, hD⟩ := jn_A hP hD [0, 1, 2] [] rfl rfl (by decide) (by decide) hk1 hFc hP1 hD1
            obtain ⟨hP, hD⟩ : PD g A H [(nms, .inr (10, [.ref nms_text, .ref nms_from, .ref nms_next, .ref nms_first, .int nms_size, .int nms_texted])), (nms_text, .inl (cs 1, nms_text_n, .inl nms_text_f)), (nms_from, .inl (cs 0, nms_from_n, .inl nms_from_f))] := ⟨hP, hD⟩
            refine lv_if_eq hx hb d_MoPaper_plain_57 rfl (fun h275 => ?_) (fun h275 => ?_)
            · rw [if_pos h275] at hok
              refine lv_iload_n hx hb d_MoPaper_plain_62 rfl (lv_at hl 0 rfl) ?_
              refine lv_bipush (v := 97) hx hb d_MoPaper_plain_63 (by decide) ?_
              refine lv_icmp_lt hx hb d_MoPaper_plain_65 rfl (fun h276 => ?_) (fun h276 => ?_)
              · rw [if_pos h276] at hok
                refine lv_iconst (v := 0) hx hb d_MoPaper_plain_78 (by decide) ?_
                refine lv_istore hx hb d_MoPaper_plain_79 hl (by decide) rfl (fun ls hl => ?_)
                have hl : lv_has ls 8 [(4, .int 0), (3, .int r3), (2, .int r1), (0, .ref nms), (1, .int kk)] := hl
                refine lv_iconst (v := 0) hx hb d_MoPaper_plain_81 (by decide) ?_
                refine lv_istore hx hb d_MoPaper_plain_82 hl (by decide) rfl (fun ls hl => ?_)
                have hl : lv_has ls 8 [(5, .int 0), (4, .int 0), (3, .int r3), (2, .int r1), (0, .ref nms), (1, .int kk)] := hl
                have J277 : ∀ (kf277 : Nat) (H : Heap) (locs : List Loc) (ls : Array Slot) (x5_277 : Int32), lv_has ls 8 [(5, .int x5_277), (4, .int 0), (3, .int r3), (2, .int r1), (0, .ref nms), (1, .int kk)] → PD g A H [(nms, .inr (10, [.ref nms_text, .ref nms_from, .ref nms_next, .ref nms_first, .int nms_size, .int nms_texted])), (nms_text, .inl (cs 1, nms_text_n, .inl nms_text_f)), (nms_from, .inl (cs 0, nms_from_n, .inl nms_from_f))] → va_S A s.heap H locs → p_MoPaper_plain_84_277 n kk nms_size nms_texted nms_text_n nms_text_f nms_from_n nms_from_f r1 kf277 x5_277 = some r → W p l e (headSpec (.code y_MoPaper_plain b_MoPaper_plain 8 (some .boolean) :: GW) { frames := 5, cells := 0, slots := 0, locals := 111 }).room s m ([.ref nms, .int kk] : List Value).toArray below meth c H locs 0 0 Q (F0 m 84 ls []) := by
                  intro kf277
                  induction kf277 with
                  | zero => intro H locs ls x5_277 hl ⟨hP, hD⟩ hS hok; rw [p_MoPaper_plain_84_277] at hok; cases hok
                  | succ kf277 ih277 =>
                    intro H locs ls x5_277 hl ⟨hP, hD⟩ hS hok
                    rw [p_MoPaper_plain_84_277] at hok
                    refine lv_iload hx hb d_MoPaper_plain_84 (lv_at hl 0 rfl) ?_
                    refine lv_iload_n hx hb d_MoPaper_plain_86 rfl (lv_at hl 3 rfl) ?_
                    refine lv_icmp_ge hx hb d_MoPaper_plain_87 rfl (fun h278 => ?_) (fun h278 => ?_)
                    · rw [if_pos h278] at hok
                      refine lv_iconst (v := 1) hx hb d_MoPaper_plain_184 (by decide) ?_
                      have hq := Option.some.inj hok
                      have hq0 := hq
                      subst hq0
                      obtain ⟨hP9, hD9⟩ := sub2 (ws' := [(nms, .inr (10, [.ref nms_text, .ref nms_from, .ref nms_next, .ref nms_first, .int nms_size, .int nms_texted])), (nms_text, .inl (cs 1, nms_text_n, .inl nms_text_f)), (nms_from, .inl (cs 0, nms_from_n, .inl nms_from_f))]) hP hD [0, 1, 2] rfl (by decide) rfl
                      rw [hQ]
                      exact W.zret (v := 1) hx hb hr rfl (fun t ht hW => ⟨⟨_, (), rfl, rfl, by rw [ht]; exact hP9, hD9⟩, hS.F ht⟩) hS.2.2 d_MoPaper_plain_185
                    · rw [if_neg h278] at hok
                      refine lv_aload_n hx hb d_MoPaper_plain_90 rfl (lv_at hl 4 rfl) ?_
                      refine lv_iload_n hx hb d_MoPaper_plain_91 rfl (lv_at hl 5 rfl) ?_
                      refine lv_iload hx hb d_MoPaper_plain_92 (lv_at hl 0 rfl) ?_
                      obtain ⟨r279, hc279, hok⟩ := bd_some hok
                      obtain ⟨hPc, hDc, hFc⟩ := cut0 (wc := [(nms, .inr (10, [.ref nms_text, .ref nms_from, .ref nms_next, .ref nms_first, .int nms_size, .int nms_texted])), (nms_text, .inl (cs 1, nms_text_n, .inl nms_text_f)), (nms_from, .inl (cs 0, nms_from_n, .inl nms_from_f))]) hP hD hS hA [0, 1, 2] (by decide) rfl
                      refine va_calli (va_runV (As := [.int kk, .int x5_277]) (rest := []) ⟨hx, hb, hml, hown, hg⟩ (c_MoNames_at l g cs ka nms_next nms_first nms nms_text nms_from H.size kk x5_277 nms_size nms_texted nms_text_n nms_text_f nms_from_n nms_from_f r279 hc279) (cwV (C := R_MoNames) 2 hg (gw_V wd_748 wd_728 wd_729 wd_717 wd_726) rfl rfl rfl (by decide +kernel) ⟨Nat.le_of_ble_eq_true rfl, Nat.le_of_ble_eq_true rfl⟩) ⟨gP_blind, va_recv (q0 := 0) (ci := 10) (q := (R_MoNames, F_MoNames, 6)) hK hP rfl rfl, gP_pre hPc hDc hK hgl hkn hkr hS hFc⟩ rfl rfl hl.1 rfl (lv_room (Nat.le_of_ble_eq_true rfl)) d_MoPaper_plain_94 ⟨Nat.le_of_ble_eq_true rfl, Nat.le_of_ble_eq_true rfl⟩) hS (fun q _ h => hFc q h) hFc (fun r279' u t H locs ht hvm hr279 hB hz1 hk1 hS => ?_)
                      subst hr279
                      rw [ht] at hB
                      obtain ⟨hP1, hD1⟩ := hB
                      obtain ⟨hP, hD⟩ := jn_A hP hD [0, 1, 2] [] rfl rfl (by decide) (by decide) hk1 hFc hP1 hD1
                      obtain ⟨hP, hD⟩ : PD g A H [(nms, .inr (10, [.ref nms_text, .ref nms_from, .ref nms_next, .ref nms_first, .int nms_size, .int nms_texted])), (nms_text, .inl (cs 1, nms_text_n, .inl nms_text_f)), (nms_from, .inl (cs 0, nms_from_n, .inl nms_from_f))] := ⟨hP, hD⟩
                      refine lv_istore hx hb d_MoPaper_plain_97 hl (by decide) rfl (fun ls hl => ?_)
                      have hl : lv_has ls 8 [(6, .int r279), (5, .int x5_277), (4, .int 0), (3, .int r3), (2, .int r1), (0, .ref nms), (1, .int kk)] := hl
                      refine lv_iload hx hb d_MoPaper_plain_99 (lv_at hl 0 rfl) ?_
                      refine lv_bipush (v := 97) hx hb d_MoPaper_plain_101 (by decide) ?_
                      refine lv_icmp_lt hx hb d_MoPaper_plain_103 rfl (fun h280 => ?_) (fun h280 => ?_)
                      · rw [if_pos h280] at hok
                        refine lv_iload hx hb d_MoPaper_plain_113 (lv_at hl 0 rfl) ?_
                        refine lv_bipush (v := 65) hx hb d_MoPaper_plain_115 (by decide) ?_
                        refine lv_icmp_lt hx hb d_MoPaper_plain_117 rfl (fun h281 => ?_) (fun h281 => ?_)
                        · rw [if_pos h281] at hok
                          refine lv_iload hx hb d_MoPaper_plain_127 (lv_at hl 0 rfl) ?_
                          refine lv_bipush (v := 48) hx hb d_MoPaper_plain_129 (by decide) ?_
                          refine lv_icmp_lt hx hb d_MoPaper_plain_131 rfl (fun h282 => ?_) (fun h282 => ?_)
                          · rw [if_pos h282] at hok
                            refine lv_iload hx hb d_MoPaper_plain_141 (lv_at hl 0 rfl) ?_
                            refine lv_bipush (v := 95) hx hb d_MoPaper_plain_143 (by decide) ?_
                            refine lv_icmp_ne hx hb d_MoPaper_plain_145 rfl (fun h283 => ?_) (fun h283 => ?_)
                            · rw [if_neg h283] at hok
                              refine lv_iconst (v := 0) hx hb d_MoPaper_plain_152 (by decide) ?_
                              refine lv_istore hx hb d_MoPaper_plain_153 hl (by decide) rfl (fun ls hl => ?_)
                              have hl : lv_has ls 8 [(7, .int 0), (6, .int r279), (5, .int x5_277), (4, .int 0), (3, .int r3), (2, .int r1), (0, .ref nms), (1, .int kk)] := hl
                              refine lv_iload hx hb d_MoPaper_plain_155 (lv_at hl 3 rfl) ?_
                              refine lv_if_eq hx hb d_MoPaper_plain_157 rfl (fun h284 => ?_) (fun h284 => ?_)
                              · refine lv_iload hx hb d_MoPaper_plain_168 (lv_at hl 1 rfl) ?_
                                obtain ⟨r285, hc285, hok⟩ := bd_some hok
                                obtain ⟨hPc, hDc, hFc⟩ := cut0 (wc := []) hP hD hS hA [] (by decide) rfl
                                refine va_calli (va_runS (As := [.int r279]) (rest := []) ⟨hx, hb, hml, hown, hg⟩ (c_MoReader_symbol l g cs ka H.size n r279 r285 hc285) (va_cwS 1 hg (gw_S wd_755 wd_756 wd_754 wd_753) rfl rfl rfl (by decide +kernel) ⟨Nat.le_of_ble_eq_true rfl, Nat.le_of_ble_eq_true rfl⟩) ⟨gP_blind, gP_pre hPc hDc hK hgl hkn hkr hS hFc⟩ rfl rfl hl.1 rfl (lv_room (Nat.le_of_ble_eq_true rfl)) d_MoPaper_plain_170 ⟨Nat.le_of_ble_eq_true rfl, Nat.le_of_ble_eq_true rfl⟩) hS (fun q _ h => hFc q h) hFc (fun r285' u t H locs ht hvm hr285 hB hz1 hk1 hS => ?_)
                                subst hr285
                                rw [ht] at hB
                                obtain ⟨hP1, hD1⟩ := hB
                                obtain ⟨hP, hD⟩ := jn_A hP hD [] [0, 1, 2] rfl rfl (by decide) (by decide) hk1 hFc hP1 hD1
                                obtain ⟨hP, hD⟩ : PD g A H [(nms, .inr (10, [.ref nms_text, .ref nms_from, .ref nms_next, .ref nms_first, .int nms_size, .int nms_texted])), (nms_text, .inl (cs 1, nms_text_n, .inl nms_text_f)), (nms_from, .inl (cs 0, nms_from_n, .inl nms_from_f))] := ⟨hP, hD⟩
                                refine lv_if_ne hx hb d_MoPaper_plain_173 rfl (fun h286 => ?_) (fun h286 => ?_)
                                · rw [if_neg h286] at hok
                                  refine lv_iinc (k := 2) (v := x5_277 + 1) hx hb d_MoPaper_plain_178 hl rfl rfl (by decide) rfl (fun ls hl => ?_)
                                  have hl : lv_has ls 8 [(5, .int (x5_277 + 1)), (7, .int 0), (6, .int r279), (4, .int 0), (3, .int r3), (2, .int r1), (0, .ref nms), (1, .int kk)] := hl
                                  refine lv_goto hx hb d_MoPaper_plain_181 rfl ?_
                                  exact ih277 _ _ _ (x5_277 + 1) (lv_sub hl [0, 3, 4, 5, 6, 7] rfl) (sub3 hP hD [0, 1, 2] (by decide)) hS hok
                                · rw [if_pos h286] at hok
                                  refine lv_iconst (v := 0) hx hb d_MoPaper_plain_176 (by decide) ?_
                                  have hq := Option.some.inj hok
                                  have hq0 := hq
                                  subst hq0
                                  obtain ⟨hP9, hD9⟩ := sub2 (ws' := [(nms, .inr (10, [.ref nms_text, .ref nms_from, .ref nms_next, .ref nms_first, .int nms_size, .int nms_texted])), (nms_text, .inl (cs 1, nms_text_n, .inl nms_text_f)), (nms_from, .inl (cs 0, nms_from_n, .inl nms_from_f))]) hP hD [0, 1, 2] rfl (by decide) rfl
                                  rw [hQ]
                                  exact W.zret (v := 0) hx hb hr rfl (fun t ht hW => ⟨⟨_, (), rfl, rfl, by rw [ht]; exact hP9, hD9⟩, hS.F ht⟩) hS.2.2 d_MoPaper_plain_177
                              · exact absurd h284 (by decide)
                            · rw [if_pos h283] at hok
                              refine lv_iconst (v := 1) hx hb d_MoPaper_plain_148 (by decide) ?_
                              refine lv_goto hx hb d_MoPaper_plain_149 rfl ?_
                              refine lv_istore hx hb d_MoPaper_plain_153 hl (by decide) rfl (fun ls hl => ?_)
                              have hl : lv_has ls 8 [(7, .int 1), (6, .int r279), (5, .int x5_277), (4, .int 0), (3, .int r3), (2, .int r1), (0, .ref nms), (1, .int kk)] := hl
                              refine lv_iload hx hb d_MoPaper_plain_155 (lv_at hl 3 rfl) ?_
                              refine lv_if_eq hx hb d_MoPaper_plain_157 rfl (fun h287 => ?_) (fun h287 => ?_)
                              · refine lv_iload hx hb d_MoPaper_plain_168 (lv_at hl 1 rfl) ?_
                                obtain ⟨r288, hc288, hok⟩ := bd_some hok
                                obtain ⟨hPc, hDc, hFc⟩ := cut0 (wc := []) hP hD hS hA [] (by decide) rfl
                                refine va_calli (va_runS (As := [.int r279]) (rest := []) ⟨hx, hb, hml, hown, hg⟩ (c_MoReader_symbol l g cs ka H.size n r279 r288 hc288) (va_cwS 1 hg (gw_S wd_755 wd_756 wd_754 wd_753) rfl rfl rfl (by decide +kernel) ⟨Nat.le_of_ble_eq_true rfl, Nat.le_of_ble_eq_true rfl⟩) ⟨gP_blind, gP_pre hPc hDc hK hgl hkn hkr hS hFc⟩ rfl rfl hl.1 rfl (lv_room (Nat.le_of_ble_eq_true rfl)) d_MoPaper_plain_170 ⟨Nat.le_of_ble_eq_true rfl, Nat.le_of_ble_eq_true rfl⟩) hS (fun q _ h => hFc q h) hFc (fun r288' u t H locs ht hvm hr288 hB hz1 hk1 hS => ?_)
                                subst hr288
                                rw [ht] at hB
                                obtain ⟨hP1, hD1⟩ := hB
                                obtain ⟨hP, hD⟩ := jn_A hP hD [] [0, 1, 2] rfl rfl (by decide) (by decide) hk1 hFc hP1 hD1
                                obtain ⟨hP, hD⟩ : PD g A H [(nms, .inr (10, [.ref nms_text, .ref nms_from, .ref nms_next, .ref nms_first, .int nms_size, .int nms_texted])), (nms_text, .inl (cs 1, nms_text_n, .inl nms_text_f)), (nms_from, .inl (cs 0, nms_from_n, .inl nms_from_f))] := ⟨hP, hD⟩
                                refine lv_if_ne hx hb d_MoPaper_plain_173 rfl (fun h289 => ?_) (fun h289 => ?_)
                                · rw [if_neg h289] at hok
                                  refine lv_iinc (k := 2) (v := x5_277 + 1) hx hb d_MoPaper_plain_178 hl rfl rfl (by decide) rfl (fun ls hl => ?_)
                                  have hl : lv_has ls 8 [(5, .int (x5_277 + 1)), (7, .int 1), (6, .int r279), (4, .int 0), (3, .int r3), (2, .int r1), (0, .ref nms), (1, .int kk)] := hl
                                  refine lv_goto hx hb d_MoPaper_plain_181 rfl ?_
                                  exact ih277 _ _ _ (x5_277 + 1) (lv_sub hl [0, 3, 4, 5, 6, 7] rfl) (sub3 hP hD [0, 1, 2] (by decide)) hS hok
                                · rw [if_pos h289] at hok
                                  refine lv_iconst (v := 0) hx hb d_MoPaper_plain_176 (by decide) ?_
                                  have hq := Option.some.inj hok
                                  have hq0 := hq
                                  subst hq0
                                  obtain ⟨hP9, hD9⟩ := sub2 (ws' := [(nms, .inr (10, [.ref nms_text, .ref nms_from, .ref nms_next, .ref nms_first, .int nms_size, .int nms_texted])), (nms_text, .inl (cs 1, nms_text_n, .inl nms_text_f)), (nms_from, .inl (cs 0, nms_from_n, .inl nms_from_f))]) hP hD [0, 1, 2] rfl (by decide) rfl
                                  rw [hQ]
                                  exact W.zret (v := 0) hx hb hr rfl (fun t ht hW => ⟨⟨_, (), rfl, rfl, by rw [ht]; exact hP9, hD9⟩, hS.F ht⟩) hS.2.2 d_MoPaper_plain_177
                              · exact absurd h287 (by decide)
                          · rw [if_neg h282] at hok
                            refine lv_iload hx hb d_MoPaper_plain_134 (lv_at hl 0 rfl) ?_
                            refine lv_bipush (v := 57) hx hb d_MoPaper_plain_136 (by decide) ?_
                            refine lv_icmp_le hx hb d_MoPaper_plain_138 rfl (fun h290 => ?_) (fun h290 => ?_)
                            · rw [if_pos h290] at hok
                              refine lv_iconst (v := 1) hx hb d_MoPaper_plain_148 (by decide) ?_
                              refine lv_goto hx hb d_MoPaper_plain_149 rfl ?_
                              refine lv_istore hx hb d_MoPaper_plain_153 hl (by decide) rfl (fun ls hl => ?_)
                              have hl : lv_has ls 8 [(7, .int 1), (6, .int r279), (5, .int x5_277), (4, .int 0), (3, .int r3), (2, .int r1), (0, .ref nms), (1, .int kk)] := hl
                              refine lv_iload hx hb d_MoPaper_plain_155 (lv_at hl 3 rfl) ?_
                              refine lv_if_eq hx hb d_MoPaper_plain_157 rfl (fun h291 => ?_) (fun h291 => ?_)
                              · refine lv_iload hx hb d_MoPaper_plain_168 (lv_at hl 1 rfl) ?_
                                obtain ⟨r292, hc292, hok⟩ := bd_some hok
                                obtain ⟨hPc, hDc, hFc⟩ := cut0 (wc := []) hP hD hS hA [] (by decide) rfl
                                refine va_calli (va_runS (As := [.int r279]) (rest := []) ⟨hx, hb, hml, hown, hg⟩ (c_MoReader_symbol l g cs ka H.size n r279 r292 hc292) (va_cwS 1 hg (gw_S wd_755 wd_756 wd_754 wd_753) rfl rfl rfl (by decide +kernel) ⟨Nat.le_of_ble_eq_true rfl, Nat.le_of_ble_eq_true rfl⟩) ⟨gP_blind, gP_pre hPc hDc hK hgl hkn hkr hS hFc⟩ rfl rfl hl.1 rfl (lv_room (Nat.le_of_ble_eq_true rfl)) d_MoPaper_plain_170 ⟨Nat.le_of_ble_eq_true rfl, Nat.le_of_ble_eq_true rfl⟩) hS (fun q _ h => hFc q h) hFc (fun r292' u t H locs ht hvm hr292 hB hz1 hk1 hS => ?_)
                                subst hr292
                                rw [ht] at hB
                                obtain ⟨hP1, hD1⟩ := hB
                                obtain ⟨hP, hD⟩ := jn_A hP hD [] [0, 1, 2] rfl rfl (by decide) (by decide) hk1 hFc hP1 hD1
                                obtain ⟨hP, hD⟩ : PD g A H [(nms, .inr (10, [.ref nms_text, .ref nms_from, .ref nms_next, .ref nms_first, .int nms_size, .int nms_texted])), (nms_text, .inl (cs 1, nms_text_n, .inl nms_text_f)), (nms_from, .inl (cs 0, nms_from_n, .inl nms_from_f))] := ⟨hP, hD⟩
                                refine lv_if_ne hx hb d_MoPaper_plain_173 rfl (fun h293 => ?_) (fun h293 => ?_)
                                · rw [if_neg h293] at hok
                                  refine lv_iinc (k := 2) (v := x5_277 + 1) hx hb d_MoPaper_plain_178 hl rfl rfl (by decide) rfl (fun ls hl => ?_)
                                  have hl : lv_has ls 8 [(5, .int (x5_277 + 1)), (7, .int 1), (6, .int r279), (4, .int 0), (3, .int r3), (2, .int r1), (0, .ref nms), (1, .int kk)] := hl
                                  refine lv_goto hx hb d_MoPaper_plain_181 rfl ?_
                                  exact ih277 _ _ _ (x5_277 + 1) (lv_sub hl [0, 3, 4, 5, 6, 7] rfl) (sub3 hP hD [0, 1, 2] (by decide)) hS hok
                                · rw [if_pos h293] at hok
                                  refine lv_iconst (v := 0) hx hb d_MoPaper_plain_176 (by decide) ?_
                                  have hq := Option.some.inj hok
                                  have hq0 := hq
                                  subst hq0
                                  obtain ⟨hP9, hD9⟩ := sub2 (ws' := [(nms, .inr (10, [.ref nms_text, .ref nms_from, .ref nms_next, .ref nms_first, .int nms_size, .int nms_texted])), (nms_text, .inl (cs 1, nms_text_n, .inl nms_text_f)), (nms_from, .inl (cs 0, nms_from_n, .inl nms_from_f))]) hP hD [0, 1, 2] rfl (by decide) rfl
                                  rw [hQ]
                                  exact W.zret (v := 0) hx hb hr rfl (fun t ht hW => ⟨⟨_, (), rfl, rfl, by rw [ht]; exact hP9, hD9⟩, hS.F ht⟩) hS.2.2 d_MoPaper_plain_177
                              · exact absurd h291 (by decide)
                            · rw [if_neg h290] at hok
                              refine lv_iload hx hb d_MoPaper_plain_141 (lv_at hl 0 rfl) ?_
                              refine lv_bipush (v := 95) hx hb d_MoPaper_plain_143 (by decide) ?_
                              refine lv_icmp_ne hx hb d_MoPaper_plain_145 rfl (fun h294 => ?_) (fun h294 => ?_)
                              · rw [if_neg h294] at hok
                                refine lv_iconst (v := 0) hx hb d_MoPaper_plain_152 (by decide) ?_
                                refine lv_istore hx hb d_MoPaper_plain_153 hl (by decide) rfl (fun ls hl => ?_)
                                have hl : lv_has ls 8 [(7, .int 0), (6, .int r279), (5, .int x5_277), (4, .int 0), (3, .int r3), (2, .int r1), (0, .ref nms), (1, .int kk)] := hl
                                refine lv_iload hx hb d_MoPaper_plain_155 (lv_at hl 3 rfl) ?_
                                refine lv_if_eq hx hb d_MoPaper_plain_157 rfl (fun h295 => ?_) (fun h295 => ?_)
                                · refine lv_iload hx hb d_MoPaper_plain_168 (lv_at hl 1 rfl) ?_
                                  obtain ⟨r296, hc296, hok⟩ := bd_some hok
                                  obtain ⟨hPc, hDc, hFc⟩ := cut0 (wc := []) hP hD hS hA [] (by decide) rfl
                                  refine va_calli (va_runS (As := [.int r279]) (rest := []) ⟨hx, hb, hml, hown, hg⟩ (c_MoReader_symbol l g cs ka H.size n r279 r296 hc296) (va_cwS 1 hg (gw_S wd_755 wd_756 wd_754 wd_753) rfl rfl rfl (by decide +kernel) ⟨Nat.le_of_ble_eq_true rfl, Nat.le_of_ble_eq_true rfl⟩) ⟨gP_blind, gP_pre hPc hDc hK hgl hkn hkr hS hFc⟩ rfl rfl hl.1 rfl (lv_room (Nat.le_of_ble_eq_true rfl)) d_MoPaper_plain_170 ⟨Nat.le_of_ble_eq_true rfl, Nat.le_of_ble_eq_true rfl⟩) hS (fun q _ h => hFc q h) hFc (fun r296' u t H locs ht hvm hr296 hB hz1 hk1 hS => ?_)
                                  subst hr296
                                  rw [ht] at hB
                                  obtain ⟨hP1, hD1⟩ := hB
                                  obtain ⟨hP, hD⟩ := jn_A hP hD [] [0, 1, 2] rfl rfl (by decide) (by decide) hk1 hFc hP1 hD1
                                  obtain ⟨hP, hD⟩ : PD g A H [(nms, .inr (10, [.ref nms_text, .ref nms_from, .ref nms_next, .ref nms_first, .int nms_size, .int nms_texted])), (nms_text, .inl (cs 1, nms_text_n, .inl nms_text_f)), (nms_from, .inl (cs 0, nms_from_n, .inl nms_from_f))] := ⟨hP, hD⟩
                                  refine lv_if_ne hx hb d_MoPaper_plain_173 rfl (fun h297 => ?_) (fun h297 => ?_)
                                  · rw [if_neg h297] at hok
                                    refine lv_iinc (k := 2) (v := x5_277 + 1) hx hb d_MoPaper_plain_178 hl rfl rfl (by decide) rfl (fun ls hl => ?_)
                                    have hl : lv_has ls 8 [(5, .int (x5_277 + 1)), (7, .int 0), (6, .int r279), (4, .int 0), (3, .int r3), (2, .int r1), (0, .ref nms), (1, .int kk)] := hl
                                    refine lv_goto hx hb d_MoPaper_plain_181 rfl ?_
                                    exact ih277 _ _ _ (x5_277 + 1) (lv_sub hl [0, 3, 4, 5, 6, 7] rfl) (sub3 hP hD [0, 1, 2] (by decide)) hS hok
                                  · rw [if_pos h297] at hok
                                    refine lv_iconst (v := 0) hx hb d_MoPaper_plain_176 (by decide) ?_
                                    have hq := Option.some.inj hok
                                    have hq0 := hq
                                    subst hq0
                                    obtain ⟨hP9, hD9⟩ := sub2 (ws' := [(nms, .inr (10, [.ref nms_text, .ref nms_from, .ref nms_next, .ref nms_first, .int nms_size, .int nms_texted])), (nms_text, .inl (cs 1, nms_text_n, .inl nms_text_f)), (nms_from, .inl (cs 0, nms_from_n, .inl nms_from_f))]) hP hD [0, 1, 2] rfl (by decide) rfl
                                    rw [hQ]
                                    exact W.zret (v := 0) hx hb hr rfl (fun t ht hW => ⟨⟨_, (), rfl, rfl, by rw [ht]; exact hP9, hD9⟩, hS.F ht⟩) hS.2.2 d_MoPaper_plain_177
                                · exact absurd h295 (by decide)
                              · rw [if_pos h294] at hok
                                refine lv_iconst (v := 1) hx hb d_MoPaper_plain_148 (by decide) ?_
                                refine lv_goto hx hb d_MoPaper_plain_149 rfl ?_
                                refine lv_istore hx hb d_MoPaper_plain_153 hl (by decide) rfl (fun ls hl => ?_)
                                have hl : lv_has ls 8 [(7, .int 1), (6, .int r279), (5, .int x5_277), (4, .int 0), (3, .int r3), (2, .int r1), (0, .ref nms), (1, .int kk)] := hl
                                refine lv_iload hx hb d_MoPaper_plain_155 (lv_at hl 3 rfl) ?_
                                refine lv_if_eq hx hb d_MoPaper_plain_157 rfl (fun h298 => ?_) (fun h298 => ?_)
                                · refine lv_iload hx hb d_MoPaper_plain_168 (lv_at hl 1 rfl) ?_
                                  obtain ⟨r299, hc299, hok⟩ := bd_some hok
                                  obtain ⟨hPc, hDc, hFc⟩ := cut0 (wc := []) hP hD hS hA [] (by decide) rfl
                                  refine va_calli (va_runS (As := [.int r279]) (rest := []) ⟨hx, hb, hml, hown, hg⟩ (c_MoReader_symbol l g cs ka H.size n r279 r299 hc299) (va_cwS 1 hg (gw_S wd_755 wd_756 wd_754 wd_753) rfl rfl rfl (by decide +kernel) ⟨Nat.le_of_ble_eq_true rfl, Nat.le_of_ble_eq_true rfl⟩) ⟨gP_blind, gP_pre hPc hDc hK hgl hkn hkr hS hFc⟩ rfl rfl hl.1 rfl (lv_room (Nat.le_of_ble_eq_true rfl)) d_MoPaper_plain_170 ⟨Nat.le_of_ble_eq_true rfl, Nat.le_of_ble_eq_true rfl⟩) hS (fun q _ h => hFc q h) hFc (fun r299' u t H locs ht hvm hr299 hB hz1 hk1 hS => ?_)
                                  subst hr299
                                  rw [ht] at hB
                                  obtain ⟨hP1, hD1⟩ := hB
                                  obtain ⟨hP, hD⟩ := jn_A hP hD [] [0, 1, 2] rfl rfl (by decide) (by decide) hk1 hFc hP1 hD1
                                  obtain ⟨hP, hD⟩ : PD g A H [(nms, .inr (10, [.ref nms_text, .ref nms_from, .ref nms_next, .ref nms_first, .int nms_size, .int nms_texted])), (nms_text, .inl (cs 1, nms_text_n, .inl nms_text_f)), (nms_from, .inl (cs 0, nms_from_n, .inl nms_from_f))] := ⟨hP, hD⟩
                                  refine lv_if_ne hx hb d_MoPaper_plain_173 rfl (fun h300 => ?_) (fun h300 => ?_)
                                  · rw [if_neg h300] at hok
                                    refine lv_iinc (k := 2) (v := x5_277 + 1) hx hb d_MoPaper_plain_178 hl rfl rfl (by decide) rfl (fun ls hl => ?_)
                                    have hl : lv_has ls 8 [(5, .int (x5_277 + 1)), (7, .int 1), (6, .int r279), (4, .int 0), (3, .int r3), (2, .int r1), (0, .ref nms), (1, .int kk)] := hl
                                    refine lv_goto hx hb d_MoPaper_plain_181 rfl ?_
                                    exact ih277 _ _ _ (x5_277 + 1) (lv_sub hl [0, 3, 4, 5, 6, 7] rfl) (sub3 hP hD [0, 1, 2] (by decide)) hS hok
                                  · rw [if_pos h300] at hok
                                    refine lv_iconst (v := 0) hx hb d_MoPaper_plain_176 (by decide) ?_
                                    have hq := Option.some.inj hok
                                    have hq0 := hq
                                    subst hq0
                                    obtain ⟨hP9, hD9⟩ := sub2 (ws' := [(nms, .inr (10, [.ref nms_text, .ref nms_from, .ref nms_next, .ref nms_first, .int nms_size, .int nms_texted])), (nms_text, .inl (cs 1, nms_text_n, .inl nms_text_f)), (nms_from, .inl (cs 0, nms_from_n, .inl nms_from_f))]) hP hD [0, 1, 2] rfl (by decide) rfl
                                    rw [hQ]
                                    exact W.zret (v := 0) hx hb hr rfl (fun t ht hW => ⟨⟨_, (), rfl, rfl, by rw [ht]; exact hP9, hD9⟩, hS.F ht⟩) hS.2.2 d_MoPaper_plain_177
                                · exact absurd h298 (by decide)
                        · rw [if_neg h281] at hok
                          refine lv_iload hx hb d_MoPaper_plain_120 (lv_at hl 0 rfl) ?_
                          refine lv_bipush (v := 90) hx hb d_MoPaper_plain_122 (by decide) ?_
                          refine lv_icmp_le hx hb d_MoPaper_plain_124 rfl (fun h301 => ?_) (fun h301 => ?_)
                          · rw [if_pos h301] at hok
                            refine lv_iconst (v := 1) hx hb d_MoPaper_plain_148 (by decide) ?_
                            refine lv_goto hx hb d_MoPaper_plain_149 rfl ?_
                            refine lv_istore hx hb d_MoPaper_plain_153 hl (by decide) rfl (fun ls hl => ?_)
                            have hl : lv_has ls 8 [(7, .int 1), (6, .int r279), (5, .int x5_277), (4, .int 0), (3, .int r3), (2, .int r1), (0, .ref nms), (1, .int kk)] := hl
                            refine lv_iload hx hb d_MoPaper_plain_155 (lv_at hl 3 rfl) ?_
                            refine lv_if_eq hx hb d_MoPaper_plain_157 rfl (fun h302 => ?_) (fun h302 => ?_)
                            · refine lv_iload hx hb d_MoPaper_plain_168 (lv_at hl 1 rfl) ?_
                              obtain ⟨r303, hc303, hok⟩ := bd_some hok
                              obtain ⟨hPc, hDc, hFc⟩ := cut0 (wc := []) hP hD hS hA [] (by decide) rfl
                              refine va_calli (va_runS (As := [.int r279]) (rest := []) ⟨hx, hb, hml, hown, hg⟩ (c_MoReader_symbol l g cs ka H.size n r279 r303 hc303) (va_cwS 1 hg (gw_S wd_755 wd_756 wd_754 wd_753) rfl rfl rfl (by decide +kernel) ⟨Nat.le_of_ble_eq_true rfl, Nat.le_of_ble_eq_true rfl⟩) ⟨gP_blind, gP_pre hPc hDc hK hgl hkn hkr hS hFc⟩ rfl rfl hl.1 rfl (lv_room (Nat.le_of_ble_eq_true rfl)) d_MoPaper_plain_170 ⟨Nat.le_of_ble_eq_true rfl, Nat.le_of_ble_eq_true rfl⟩) hS (fun q _ h => hFc q h) hFc (fun r303' u t H locs ht hvm hr303 hB hz1 hk1 hS => ?_)
                              subst hr303
                              rw [ht] at hB
                              obtain ⟨hP1, hD1⟩ := hB
                              obtain ⟨hP, hD⟩ := jn_A hP hD [] [0, 1, 2] rfl rfl (by decide) (by decide) hk1 hFc hP1 hD1
                              obtain ⟨hP, hD⟩ : PD g A H [(nms, .inr (10, [.ref nms_text, .ref nms_from, .ref nms_next, .ref nms_first, .int nms_size, .int nms_texted])), (nms_text, .inl (cs 1, nms_text_n, .inl nms_text_f)), (nms_from, .inl (cs 0, nms_from_n, .inl nms_from_f))] := ⟨hP, hD⟩
                              refine lv_if_ne hx hb d_MoPaper_plain_173 rfl (fun h304 => ?_) (fun h304 => ?_)
                              · rw [if_neg h304] at hok
                                refine lv_iinc (k := 2) (v := x5_277 + 1) hx hb d_MoPaper_plain_178 hl rfl rfl (by decide) rfl (fun ls hl => ?_)
                                have hl : lv_has ls 8 [(5, .int (x5_277 + 1)), (7, .int 1), (6, .int r279), (4, .int 0), (3, .int r3), (2, .int r1), (0, .ref nms), (1, .int kk)] := hl
                                refine lv_goto hx hb d_MoPaper_plain_181 rfl ?_
                                exact ih277 _ _ _ (x5_277 + 1) (lv_sub hl [0, 3, 4, 5, 6, 7] rfl) (sub3 hP hD [0, 1, 2] (by decide)) hS hok
                              · rw [if_pos h304] at hok
                                refine lv_iconst (v := 0) hx hb d_MoPaper_plain_176 (by decide) ?_
                                have hq := Option.some.inj hok
                                have hq0 := hq
                                subst hq0
                                obtain ⟨hP9, hD9⟩ := sub2 (ws' := [(nms, .inr (10, [.ref nms_text, .ref nms_from, .ref nms_next, .ref nms_first, .int nms_size, .int nms_texted])), (nms_text, .inl (cs 1, nms_text_n, .inl nms_text_f)), (nms_from, .inl (cs 0, nms_from_n, .inl nms_from_f))]) hP hD [0, 1, 2] rfl (by decide) rfl
                                rw [hQ]
                                exact W.zret (v := 0) hx hb hr rfl (fun t ht hW => ⟨⟨_, (), rfl, rfl, by rw [ht]; exact hP9, hD9⟩, hS.F ht⟩) hS.2.2 d_MoPaper_plain_177
                            · exact absurd h302 (by decide)
                          · rw [if_neg h301] at hok
                            refine lv_iload hx hb d_MoPaper_plain_127 (lv_at hl 0 rfl) ?_
                            refine lv_bipush (v := 48) hx hb d_MoPaper_plain_129 (by decide) ?_
                            refine lv_icmp_lt hx hb d_MoPaper_plain_131 rfl (fun h305 => ?_) (fun h305 => ?_)
                            · rw [if_pos h305] at hok
                              refine lv_iload hx hb d_MoPaper_plain_141 (lv_at hl 0 rfl) ?_
                              refine lv_bipush (v := 95) hx hb d_MoPaper_plain_143 (by decide) ?_
                              refine lv_icmp_ne hx hb d_MoPaper_plain_145 rfl (fun h306 => ?_) (fun h306 => ?_)
                              · rw [if_neg h306] at hok
                                refine lv_iconst (v := 0) hx hb d_MoPaper_plain_152 (by decide) ?_
                                refine lv_istore hx hb d_MoPaper_plain_153 hl (by decide) rfl (fun ls hl => ?_)
                                have hl : lv_has ls 8 [(7, .int 0), (6, .int r279), (5, .int x5_277), (4, .int 0), (3, .int r3), (2, .int r1), (0, .ref nms), (1, .int kk)] := hl
                                refine lv_iload hx hb d_MoPaper_plain_155 (lv_at hl 3 rfl) ?_
                                refine lv_if_eq hx hb d_MoPaper_plain_157 rfl (fun h307 => ?_) (fun h307 => ?_)
                                · refine lv_iload hx hb d_MoPaper_plain_168 (lv_at hl 1 rfl) ?_
                                  obtain ⟨r308, hc308, hok⟩ := bd_some hok
                                  obtain ⟨hPc, hDc, hFc⟩ := cut0 (wc := []) hP hD hS hA [] (by decide) rfl
                                  refine va_calli (va_runS (As := [.int r279]) (rest := []) ⟨hx, hb, hml, hown, hg⟩ (c_MoReader_symbol l g cs ka H.size n r279 r308 hc308) (va_cwS 1 hg (gw_S wd_755 wd_756 wd_754 wd_753) rfl rfl rfl (by decide +kernel) ⟨Nat.le_of_ble_eq_true rfl, Nat.le_of_ble_eq_true rfl⟩) ⟨gP_blind, gP_pre hPc hDc hK hgl hkn hkr hS hFc⟩ rfl rfl hl.1 rfl (lv_room (Nat.le_of_ble_eq_true rfl)) d_MoPaper_plain_170 ⟨Nat.le_of_ble_eq_true rfl, Nat.le_of_ble_eq_true rfl⟩) hS (fun q _ h => hFc q h) hFc (fun r308' u t H locs ht hvm hr308 hB hz1 hk1 hS => ?_)
                                  subst hr308
                                  rw [ht] at hB
                                  obtain ⟨hP1, hD1⟩ := hB
                                  obtain ⟨hP, hD⟩ := jn_A hP hD [] [0, 1, 2] rfl rfl (by decide) (by decide) hk1 hFc hP1 hD1
                                  obtain ⟨hP, hD⟩ : PD g A H [(nms, .inr (10, [.ref nms_text, .ref nms_from, .ref nms_next, .ref nms_first, .int nms_size, .int nms_texted])), (nms_text, .inl (cs 1, nms_text_n, .inl nms_text_f)), (nms_from, .inl (cs 0, nms_from_n, .inl nms_from_f))] := ⟨hP, hD⟩
                                  refine lv_if_ne hx hb d_MoPaper_plain_173 rfl (fun h309 => ?_) (fun h309 => ?_)
                                  · rw [if_neg h309] at hok
                                    refine lv_iinc (k := 2) (v := x5_277 + 1) hx hb d_MoPaper_plain_178 hl rfl rfl (by decide) rfl (fun ls hl => ?_)
                                    have hl : lv_has ls 8 [(5, .int (x5_277 + 1)), (7, .int 0), (6, .int r279), (4, .int 0), (3, .int r3), (2, .int r1), (0, .ref nms), (1, .int kk)] := hl
                                    refine lv_goto hx hb d_MoPaper_plain_181 rfl ?_
                                    exact ih277 _ _ _ (x5_277 + 1) (lv_sub hl [0, 3, 4, 5, 6, 7] rfl) (sub3 hP hD [0, 1, 2] (by decide)) hS hok
                                  · rw [if_pos h309] at hok
                                    refine lv_iconst (v := 0) hx hb d_MoPaper_plain_176 (by decide) ?_
                                    have hq := Option.some.inj hok
                                    have hq0 := hq
                                    subst hq0
                                    obtain ⟨hP9, hD9⟩ := sub2 (ws' := [(nms, .inr (10, [.ref nms_text, .ref nms_from, .ref nms_next, .ref nms_first, .int nms_size, .int nms_texted])), (nms_text, .inl (cs 1, nms_text_n, .inl nms_text_f)), (nms_from, .inl (cs 0, nms_from_n, .inl nms_from_f))]) hP hD [0, 1, 2] rfl (by decide) rfl
                                    rw [hQ]
                                    exact W.zret (v := 0) hx hb hr rfl (fun t ht hW => ⟨⟨_, (), rfl, rfl, by rw [ht]; exact hP9, hD9⟩, hS.F ht⟩) hS.2.2 d_MoPaper_plain_177
                                · exact absurd h307 (by decide)
                              · rw [if_pos h306] at hok
                                refine lv_iconst (v := 1) hx hb d_MoPaper_plain_148 (by decide) ?_
                                refine lv_goto hx hb d_MoPaper_plain_149 rfl ?_
                                refine lv_istore hx hb d_MoPaper_plain_153 hl (by decide) rfl (fun ls hl => ?_)
                                have hl : lv_has ls 8 [(7, .int 1), (6, .int r279), (5, .int x5_277), (4, .int 0), (3, .int r3), (2, .int r1), (0, .ref nms), (1, .int kk)] := hl
                                refine lv_iload hx hb d_MoPaper_plain_155 (lv_at hl 3 rfl) ?_
                                refine lv_if_eq hx hb d_MoPaper_plain_157 rfl (fun h310 => ?_) (fun h310 => ?_)
                                · refine lv_iload hx hb d_MoPaper_plain_168 (lv_at hl 1 rfl) ?_
                                  obtain ⟨r311, hc311, hok⟩ := bd_some hok
                                  obtain ⟨hPc, hDc, hFc⟩ := cut0 (wc := []) hP hD hS hA [] (by decide) rfl
                                  refine va_calli (va_runS (As := [.int r279]) (rest := []) ⟨hx, hb, hml, hown, hg⟩ (c_MoReader_symbol l g cs ka H.size n r279 r311 hc311) (va_cwS 1 hg (gw_S wd_755 wd_756 wd_754 wd_753) rfl rfl rfl (by decide +kernel) ⟨Nat.le_of_ble_eq_true rfl, Nat.le_of_ble_eq_true rfl⟩) ⟨gP_blind, gP_pre hPc hDc hK hgl hkn hkr hS hFc⟩ rfl rfl hl.1 rfl (lv_room (Nat.le_of_ble_eq_true rfl)) d_MoPaper_plain_170 ⟨Nat.le_of_ble_eq_true rfl, Nat.le_of_ble_eq_true rfl⟩) hS (fun q _ h => hFc q h) hFc (fun r311' u t H locs ht hvm hr311 hB hz1 hk1 hS => ?_)
                                  subst hr311
                                  rw [ht] at hB
                                  obtain ⟨hP1, hD1⟩ := hB
                                  obtain ⟨hP, hD⟩ := jn_A hP hD [] [0, 1, 2] rfl rfl (by decide) (by decide) hk1 hFc hP1 hD1
                                  obtain ⟨hP, hD⟩ : PD g A H [(nms, .inr (10, [.ref nms_text, .ref nms_from, .ref nms_next, .ref nms_first, .int nms_size, .int nms_texted])), (nms_text, .inl (cs 1, nms_text_n, .inl nms_text_f)), (nms_from, .inl (cs 0, nms_from_n, .inl nms_from_f))] := ⟨hP, hD⟩
                                  refine lv_if_ne hx hb d_MoPaper_plain_173 rfl (fun h312 => ?_) (fun h312 => ?_)
                                  · rw [if_neg h312] at hok
                                    refine lv_iinc (k := 2) (v := x5_277 + 1) hx hb d_MoPaper_plain_178 hl rfl rfl (by decide) rfl (fun ls hl => ?_)
                                    have hl : lv_has ls 8 [(5, .int (x5_277 + 1)), (7, .int 1), (6, .int r279), (4, .int 0), (3, .int r3), (2, .int r1), (0, .ref nms), (1, .int kk)] := hl
                                    refine lv_goto hx hb d_MoPaper_plain_181 rfl ?_
                                    exact ih277 _ _ _ (x5_277 + 1) (lv_sub hl [0, 3, 4, 5, 6, 7] rfl) (sub3 hP hD [0, 1, 2] (by decide)) hS hok
                                  · rw [if_pos h312] at hok
                                    refine lv_iconst (v := 0) hx hb d_MoPaper_plain_176 (by decide) ?_
                                    have hq := Option.some.inj hok
                                    have hq0 := hq
                                    subst hq0
                                    obtain ⟨hP9, hD9⟩ := sub2 (ws' := [(nms, .inr (10, [.ref nms_text, .ref nms_from, .ref nms_next, .ref nms_first, .int nms_size, .int nms_texted])), (nms_text, .inl (cs 1, nms_text_n, .inl nms_text_f)), (nms_from, .inl (cs 0, nms_from_n, .inl nms_from_f))]) hP hD [0, 1, 2] rfl (by decide) rfl
                                    rw [hQ]
                                    exact W.zret (v := 0) hx hb hr rfl (fun t ht hW => ⟨⟨_, (), rfl, rfl, by rw [ht]; exact hP9, hD9⟩, hS.F ht⟩) hS.2.2 d_MoPaper_plain_177
                                · exact absurd h310 (by decide)
                            · rw [if_neg h305] at hok
                              refine lv_iload hx hb d_MoPaper_plain_134 (lv_at hl 0 rfl) ?_
                              refine lv_bipush (v := 57) hx hb d_MoPaper_plain_136 (by decide) ?_
                              refine lv_icmp_le hx hb d_MoPaper_plain_138 rfl (fun h313 => ?_) (fun h313 => ?_)
                              · rw [if_pos h313] at hok
                                refine lv_iconst (v := 1) hx hb d_MoPaper_plain_148 (by decide) ?_
                                refine lv_goto hx hb d_MoPaper_plain_149 rfl ?_
                                refine lv_istore hx hb d_MoPaper_plain_153 hl (by decide) rfl (fun ls hl => ?_)
                                have hl : lv_has ls 8 [(7, .int 1), (6, .int r279), (5, .int x5_277), (4, .int 0), (3, .int r3), (2, .int r1), (0, .ref nms), (1, .int kk)] := hl
                                refine lv_iload hx hb d_MoPaper_plain_155 (lv_at hl 3 rfl) ?_
                                refine lv_if_eq hx hb d_MoPaper_plain_157 rfl (fun h314 => ?_) (fun h314 => ?_)
                                · refine lv_iload hx hb d_MoPaper_plain_168 (lv_at hl 1 rfl) ?_
                                  obtain ⟨r315, hc315, hok⟩ := bd_some hok
                                  obtain ⟨hPc, hDc, hFc⟩ := cut0 (wc := []) hP hD hS hA [] (by decide) rfl
                                  refine va_calli (va_runS (As := [.int r279]) (rest := []) ⟨hx, hb, hml, hown, hg⟩ (c_MoReader_symbol l g cs ka H.size n r279 r315 hc315) (va_cwS 1 hg (gw_S wd_755 wd_756 wd_754 wd_753) rfl rfl rfl (by decide +kernel) ⟨Nat.le_of_ble_eq_true rfl, Nat.le_of_ble_eq_true rfl⟩) ⟨gP_blind, gP_pre hPc hDc hK hgl hkn hkr hS hFc⟩ rfl rfl hl.1 rfl (lv_room (Nat.le_of_ble_eq_true rfl)) d_MoPaper_plain_170 ⟨Nat.le_of_ble_eq_true rfl, Nat.le_of_ble_eq_true rfl⟩) hS (fun q _ h => hFc q h) hFc (fun r315' u t H locs ht hvm hr315 hB hz1 hk1 hS => ?_)
                                  subst hr315
                                  rw [ht] at hB
                                  obtain ⟨hP1, hD1⟩ := hB
                                  obtain ⟨hP, hD⟩ := jn_A hP hD [] [0, 1, 2] rfl rfl (by decide) (by decide) hk1 hFc hP1 hD1
                                  obtain ⟨hP, hD⟩ : PD g A H [(nms, .inr (10, [.ref nms_text, .ref nms_from, .ref nms_next, .ref nms_first, .int nms_size, .int nms_texted])), (nms_text, .inl (cs 1, nms_text_n, .inl nms_text_f)), (nms_from, .inl (cs 0, nms_from_n, .inl nms_from_f))] := ⟨hP, hD⟩
                                  refine lv_if_ne hx hb d_MoPaper_plain_173 rfl (fun h316 => ?_) (fun h316 => ?_)
                                  · rw [if_neg h316] at hok
                                    refine lv_iinc (k := 2) (v := x5_277 + 1) hx hb d_MoPaper_plain_178 hl rfl rfl (by decide) rfl (fun ls hl => ?_)
                                    have hl : lv_has ls 8 [(5, .int (x5_277 + 1)), (7, .int 1), (6, .int r279), (4, .int 0), (3, .int r3), (2, .int r1), (0, .ref nms), (1, .int kk)] := hl
                                    refine lv_goto hx hb d_MoPaper_plain_181 rfl ?_
                                    exact ih277 _ _ _ (x5_277 + 1) (lv_sub hl [0, 3, 4, 5, 6, 7] rfl) (sub3 hP hD [0, 1, 2] (by decide)) hS hok
                                  · rw [if_pos h316] at hok
                                    refine lv_iconst (v := 0) hx hb d_MoPaper_plain_176 (by decide) ?_
                                    have hq := Option.some.inj hok
                                    have hq0 := hq
                                    subst hq0
                                    obtain ⟨hP9, hD9⟩ := sub2 (ws' := [(nms, .inr (10, [.ref nms_text, .ref nms_from, .ref nms_next, .ref nms_first, .int nms_size, .int nms_texted])), (nms_text, .inl (cs 1, nms_text_n, .inl nms_text_f)), (nms_from, .inl (cs 0, nms_from_n, .inl nms_from_f))]) hP hD [0, 1, 2] rfl (by decide) rfl
                                    rw [hQ]
                                    exact W.zret (v := 0) hx hb hr rfl (fun t ht hW => ⟨⟨_, (), rfl, rfl, by rw [ht]; exact hP9, hD9⟩, hS.F ht⟩) hS.2.2 d_MoPaper_plain_177
                                · exact absurd h314 (by decide)
                              · rw [if_neg h313] at hok
                                refine lv_iload hx hb d_MoPaper_plain_141 (lv_at hl 0 rfl) ?_
                                refine lv_bipush (v := 95) hx hb d_MoPaper_plain_143 (by decide) ?_
                                refine lv_icmp_ne hx hb d_MoPaper_plain_145 rfl (fun h317 => ?_) (fun h317 => ?_)
                                · rw [if_neg h317] at hok
                                  refine lv_iconst (v := 0) hx hb d_MoPaper_plain_152 (by decide) ?_
                                  refine lv_istore hx hb d_MoPaper_plain_153 hl (by decide) rfl (fun ls hl => ?_)
                                  have hl : lv_has ls 8 [(7, .int 0), (6, .int r279), (5, .int x5_277), (4, .int 0), (3, .int r3), (2, .int r1), (0, .ref nms), (1, .int kk)] := hl
                                  refine lv_iload hx hb d_MoPaper_plain_155 (lv_at hl 3 rfl) ?_
                                  refine lv_if_eq hx hb d_MoPaper_plain_157 rfl (fun h318 => ?_) (fun h318 => ?_)
                                  · refine lv_iload hx hb d_MoPaper_plain_168 (lv_at hl 1 rfl) ?_
                                    obtain ⟨r319, hc319, hok⟩ := bd_some hok
                                    obtain ⟨hPc, hDc, hFc⟩ := cut0 (wc := []) hP hD hS hA [] (by decide) rfl
                                    refine va_calli (va_runS (As := [.int r279]) (rest := []) ⟨hx, hb, hml, hown, hg⟩ (c_MoReader_symbol l g cs ka H.size n r279 r319 hc319) (va_cwS 1 hg (gw_S wd_755 wd_756 wd_754 wd_753) rfl rfl rfl (by decide +kernel) ⟨Nat.le_of_ble_eq_true rfl, Nat.le_of_ble_eq_true rfl⟩) ⟨gP_blind, gP_pre hPc hDc hK hgl hkn hkr hS hFc⟩ rfl rfl hl.1 rfl (lv_room (Nat.le_of_ble_eq_true rfl)) d_MoPaper_plain_170 ⟨Nat.le_of_ble_eq_true rfl, Nat.le_of_ble_eq_true rfl⟩) hS (fun q _ h => hFc q h) hFc (fun r319' u t H locs ht hvm hr319 hB hz1 hk1 hS => ?_)
                                    subst hr319
                                    rw [ht] at hB
                                    obtain ⟨hP1, hD1⟩ := hB
                                    obtain ⟨hP, hD⟩ := jn_A hP hD [] [0, 1, 2] rfl rfl (by decide) (by decide) hk1 hFc hP1 hD1
                                    obtain ⟨hP, hD⟩ : PD g A H [(nms, .inr (10, [.ref nms_text, .ref nms_from, .ref nms_next, .ref nms_first, .int nms_size, .int nms_texted])), (nms_text, .inl (cs 1, nms_text_n, .inl nms_text_f)), (nms_from, .inl (cs 0, nms_from_n, .inl nms_from_f))] := ⟨hP, hD⟩
                                    refine lv_if_ne hx hb d_MoPaper_plain_173 rfl (fun h320 => ?_) (fun h320 => ?_)
                                    · rw [if_neg h320] at hok
                                      refine lv_iinc (k := 2) (v := x5_277 + 1) hx hb d_MoPaper_plain_178 hl rfl rfl (by decide) rfl (fun ls hl => ?_)
                                      have hl : lv_has ls 8 [(5, .int (x5_277 + 1)), (7, .int 0), (6, .int r279), (4, .int 0), (3, .int r3), (2, .int r1), (0, .ref nms), (1, .int kk)] := hl
                                      refine lv_goto hx hb d_MoPaper_plain_181 rfl ?_
                                      exact ih277 _ _ _ (x5_277 + 1) (lv_sub hl [0, 3, 4, 5, 6, 7] rfl) (sub3 hP hD [0, 1, 2] (by decide)) hS hok
                                    · rw [if_pos h320] at hok
                                      refine lv_iconst (v := 0) hx hb d_MoPaper_plain_176 (by decide) ?_
                                      have hq := Option.some.inj hok
                                      have hq0 := hq
                                      subst hq0
                                      obtain ⟨hP9, hD9⟩ := sub2 (ws' := [(nms, .inr (10, [.ref nms_text, .ref nms_from, .ref nms_next, .ref nms_first, .int nms_size, .int nms_texted])), (nms_text, .inl (cs 1, nms_text_n, .inl nms_text_f)), (nms_from, .inl (cs 0, nms_from_n, .inl nms_from_f))]) hP hD [0, 1, 2] rfl (by decide) rfl
                                      rw [hQ]
                                      exact W.zret (v := 0) hx hb hr rfl (fun t ht hW => ⟨⟨_, (), rfl, rfl, by rw [ht]; exact hP9, hD9⟩, hS.F ht⟩) hS.2.2 d_MoPaper_plain_177
                                  · exact absurd h318 (by decide)
                                · rw [if_pos h317] at hok
                                  refine lv_iconst (v := 1) hx hb d_MoPaper_plain_148 (by decide) ?_
                                  refine lv_goto hx hb d_MoPaper_plain_149 rfl ?_
                                  refine lv_istore hx hb d_MoPaper_plain_153 hl (by decide) rfl (fun ls hl => ?_)
                                  have hl : lv_has ls 8 [(7, .int 1), (6, .int r279), (5, .int x5_277), (4, .int 0), (3, .int r3), (2, .int r1), (0, .ref nms), (1, .int kk)] := hl
                                  refine lv_iload hx hb d_MoPaper_plain_155 (lv_at hl 3 rfl) ?_
                                  refine lv_if_eq hx hb d_MoPaper_plain_157 rfl (fun h321 => ?_) (fun h321 => ?_)
                                  · refine lv_iload hx hb d_MoPaper_plain_168 (lv_at hl 1 rfl) ?_
                                    obtain ⟨r322, hc322, hok⟩ := bd_some hok
                                    obtain ⟨hPc, hDc, hFc⟩ := cut0 (wc := []) hP hD hS hA [] (by decide) rfl
                                    refine va_calli (va_runS (As := [.int r279]) (rest := []) ⟨hx, hb, hml, hown, hg⟩ (c_MoReader_symbol l g cs ka H.size n r279 r322 hc322) (va_cwS 1 hg (gw_S wd_755 wd_756 wd_754 wd_753) rfl rfl rfl (by decide +kernel) ⟨Nat.le_of_ble_eq_true rfl, Nat.le_of_ble_eq_true rfl⟩) ⟨gP_blind, gP_pre hPc hDc hK hgl hkn hkr hS hFc⟩ rfl rfl hl.1 rfl (lv_room (Nat.le_of_ble_eq_true rfl)) d_MoPaper_plain_170 ⟨Nat.le_of_ble_eq_true rfl, Nat.le_of_ble_eq_true rfl⟩) hS (fun q _ h => hFc q h) hFc (fun r322' u t H locs ht hvm hr322 hB hz1 hk1 hS => ?_)
                                    subst hr322
                                    rw [ht] at hB
                                    obtain ⟨hP1, hD1⟩ := hB
                                    obtain ⟨hP, hD⟩ := jn_A hP hD [] [0, 1, 2] rfl rfl (by decide) (by decide) hk1 hFc hP1 hD1
                                    obtain ⟨hP, hD⟩ : PD g A H [(nms, .inr (10, [.ref nms_text, .ref nms_from, .ref nms_next, .ref nms_first, .int nms_size, .int nms_texted])), (nms_text, .inl (cs 1, nms_text_n, .inl nms_text_f)), (nms_from, .inl (cs 0, nms_from_n, .inl nms_from_f))] := ⟨hP, hD⟩
                                    refine lv_if_ne hx hb d_MoPaper_plain_173 rfl (fun h323 => ?_) (fun h323 => ?_)
                                    · rw [if_neg h323] at hok
                                      refine lv_iinc (k := 2) (v := x5_277 + 1) hx hb d_MoPaper_plain_178 hl rfl rfl (by decide) rfl (fun ls hl => ?_)
                                      have hl : lv_has ls 8 [(5, .int (x5_277 + 1)), (7, .int 1), (6, .int r279), (4, .int 0), (3, .int r3), (2, .int r1), (0, .ref nms), (1, .int kk)] := hl
                                      refine lv_goto hx hb d_MoPaper_plain_181 rfl ?_
                                      exact ih277 _ _ _ (x5_277 + 1) (lv_sub hl [0, 3, 4, 5, 6, 7] rfl) (sub3 hP hD [0, 1, 2] (by decide)) hS hok
                                    · rw [if_pos h323] at hok
                                      refine lv_iconst (v := 0) hx hb d_MoPaper_plain_176 (by decide) ?_
                                      have hq := Option.some.inj hok
                                      have hq0 := hq
                                      subst hq0
                                      obtain ⟨hP9, hD9⟩ := sub2 (ws' := [(nms, .inr (10, [.ref nms_text, .ref nms_from, .ref nms_next, .ref nms_first, .int nms_size, .int nms_texted])), (nms_text, .inl (cs 1, nms_text_n, .inl nms_text_f)), (nms_from, .inl (cs 0, nms_from_n, .inl nms_from_f))]) hP hD [0, 1, 2] rfl (by decide) rfl
                                      rw [hQ]
                                      exact W.zret (v := 0) hx hb hr rfl (fun t ht hW => ⟨⟨_, (), rfl, rfl, by rw [ht]; exact hP9, hD9⟩, hS.F ht⟩) hS.2.2 d_MoPaper_plain_177
                                  · exact absurd h321 (by decide)
                      · rw [if_neg h280] at hok
                        refine lv_iload hx hb d_MoPaper_plain_106 (lv_at hl 0 rfl) ?_
                        refine lv_bipush (v := 122) hx hb d_MoPaper_plain_108 (by decide) ?_
                        refine lv_icmp_le hx hb d_MoPaper_plain_110 rfl (fun h324 => ?_) (fun h324 => ?_)
                        · rw [if_pos h324] at hok
                          refine lv_iconst (v := 1) hx hb d_MoPaper_plain_148 (by decide) ?_
                          refine lv_goto hx hb d_MoPaper_plain_149 rfl ?_
                          refine lv_istore hx hb d_MoPaper_plain_153 hl (by decide) rfl (fun ls hl => ?_)
                          have hl : lv_has ls 8 [(7, .int 1), (6, .int r279), (5, .int x5_277), (4, .int 0), (3, .int r3), (2, .int r1), (0, .ref nms), (1, .int kk)] := hl
                          refine lv_iload hx hb d_MoPaper_plain_155 (lv_at hl 3 rfl) ?_
                          refine lv_if_eq hx hb d_MoPaper_plain_157 rfl (fun h325 => ?_) (fun h325 => ?_)
                          · refine lv_iload hx hb d_MoPaper_plain_168 (lv_at hl 1 rfl) ?_
                            obtain ⟨r326, hc326, hok⟩ := bd_some hok
                            obtain ⟨hPc, hDc, hFc⟩ := cut0 (wc := []) hP hD hS hA [] (by decide) rfl
                            refine va_calli (va_runS (As := [.int r279]) (rest := []) ⟨hx, hb, hml, hown, hg⟩ (c_MoReader_symbol l g cs ka H.size n r279 r326 hc326) (va_cwS 1 hg (gw_S wd_755 wd_756 wd_754 wd_753) rfl rfl rfl (by decide +kernel) ⟨Nat.le_of_ble_eq_true rfl, Nat.le_of_ble_eq_true rfl⟩) ⟨gP_blind, gP_pre hPc hDc hK hgl hkn hkr hS hFc⟩ rfl rfl hl.1 rfl (lv_room (Nat.le_of_ble_eq_true rfl)) d_MoPaper_plain_170 ⟨Nat.le_of_ble_eq_true rfl, Nat.le_of_ble_eq_true rfl⟩) hS (fun q _ h => hFc q h) hFc (fun r326' u t H locs ht hvm hr326 hB hz1 hk1 hS => ?_)
                            subst hr326
                            rw [ht] at hB
                            obtain ⟨hP1, hD1⟩ := hB
                            obtain ⟨hP, hD⟩ := jn_A hP hD [] [0, 1, 2] rfl rfl (by decide) (by decide) hk1 hFc hP1 hD1
                            obtain ⟨hP, hD⟩ : PD g A H [(nms, .inr (10, [.ref nms_text, .ref nms_from, .ref nms_next, .ref nms_first, .int nms_size, .int nms_texted])), (nms_text, .inl (cs 1, nms_text_n, .inl nms_text_f)), (nms_from, .inl (cs 0, nms_from_n, .inl nms_from_f))] := ⟨hP, hD⟩
                            refine lv_if_ne hx hb d_MoPaper_plain_173 rfl (fun h327 => ?_) (fun h327 => ?_)
                            · rw [if_neg h327] at hok
                              refine lv_iinc (k := 2) (v := x5_277 + 1) hx hb d_MoPaper_plain_178 hl rfl rfl (by decide) rfl (fun ls hl => ?_)
                              have hl : lv_has ls 8 [(5, .int (x5_277 + 1)), (7, .int 1), (6, .int r279), (4, .int 0), (3, .int r3), (2, .int r1), (0, .ref nms), (1, .int kk)] := hl
                              refine lv_goto hx hb d_MoPaper_plain_181 rfl ?_
                              exact ih277 _ _ _ (x5_277 + 1) (lv_sub hl [0, 3, 4, 5, 6, 7] rfl) (sub3 hP hD [0, 1, 2] (by decide)) hS hok
                            · rw [if_pos h327] at hok
                              refine lv_iconst (v := 0) hx hb d_MoPaper_plain_176 (by decide) ?_
                              have hq := Option.some.inj hok
                              have hq0 := hq
                              subst hq0
                              obtain ⟨hP9, hD9⟩ := sub2 (ws' := [(nms, .inr (10, [.ref nms_text, .ref nms_from, .ref nms_next, .ref nms_first, .int nms_size, .int nms_texted])), (nms_text, .inl (cs 1, nms_text_n, .inl nms_text_f)), (nms_from, .inl (cs 0, nms_from_n, .inl nms_from_f))]) hP hD [0, 1, 2] rfl (by decide) rfl
                              rw [hQ]
                              exact W.zret (v := 0) hx hb hr rfl (fun t ht hW => ⟨⟨_, (), rfl, rfl, by rw [ht]; exact hP9, hD9⟩, hS.F ht⟩) hS.2.2 d_MoPaper_plain_177
                          · exact absurd h325 (by decide)
                        · rw [if_neg h324] at hok
                          refine lv_iload hx hb d_MoPaper_plain_113 (lv_at hl 0 rfl) ?_
                          refine lv_bipush (v := 65) hx hb d_MoPaper_plain_115 (by decide) ?_
                          refine lv_icmp_lt hx hb d_MoPaper_plain_117 rfl (fun h328 => ?_) (fun h328 => ?_)
                          · rw [if_pos h328] at hok
                            refine lv_iload hx hb d_MoPaper_plain_127 (lv_at hl 0 rfl) ?_
                            refine lv_bipush (v := 48) hx hb d_MoPaper_plain_129 (by decide) ?_
                            refine lv_icmp_lt hx hb d_MoPaper_plain_131 rfl (fun h329 => ?_) (fun h329 => ?_)
                            · rw [if_pos h329] at hok
                              refine lv_iload hx hb d_MoPaper_plain_141 (lv_at hl 0 rfl) ?_
                              refine lv_bipush (v := 95) hx hb d_MoPaper_plain_143 (by decide) ?_
                              refine lv_icmp_ne hx hb d_MoPaper_plain_145 rfl (fun h330 => ?_) (fun h330 => ?_)
                              · rw [if_neg h330] at hok
                                refine lv_iconst (v := 0) hx hb d_MoPaper_plain_152 (by decide) ?_
                                refine lv_istore hx hb d_MoPaper_plain_153 hl (by decide) rfl (fun ls hl => ?_)
                                have hl : lv_has ls 8 [(7, .int 0), (6, .int r279), (5, .int x5_277), (4, .int 0), (3, .int r3), (2, .int r1), (0, .ref nms), (1, .int kk)] := hl
                                refine lv_iload hx hb d_MoPaper_plain_155 (lv_at hl 3 rfl) ?_
                                refine lv_if_eq hx hb d_MoPaper_plain_157 rfl (fun h331 => ?_) (fun h331 => ?_)
                                · refine lv_iload hx hb d_MoPaper_plain_168 (lv_at hl 1 rfl) ?_
                                  obtain ⟨r332, hc332, hok⟩ := bd_some hok
                                  obtain ⟨hPc, hDc, hFc⟩ := cut0 (wc := []) hP hD hS hA [] (by decide) rfl
                                  refine va_calli (va_runS (As := [.int r279]) (rest := []) ⟨hx, hb, hml, hown, hg⟩ (c_MoReader_symbol l g cs ka H.size n r279 r332 hc332) (va_cwS 1 hg (gw_S wd_755 wd_756 wd_754 wd_753) rfl rfl rfl (by decide +kernel) ⟨Nat.le_of_ble_eq_true rfl, Nat.le_of_ble_eq_true rfl⟩) ⟨gP_blind, gP_pre hPc hDc hK hgl hkn hkr hS hFc⟩ rfl rfl hl.1 rfl (lv_room (Nat.le_of_ble_eq_true rfl)) d_MoPaper_plain_170 ⟨Nat.le_of_ble_eq_true rfl, Nat.le_of_ble_eq_true rfl⟩) hS (fun q _ h => hFc q h) hFc (fun r332' u t H locs ht hvm hr332 hB hz1 hk1 hS => ?_)
                                  subst hr332
                                  rw [ht] at hB
                                  obtain ⟨hP1, hD1⟩ := hB
                                  obtain ⟨hP, hD⟩ := jn_A hP hD [] [0, 1, 2] rfl rfl (by decide) (by decide) hk1 hFc hP1 hD1
                                  obtain ⟨hP, hD⟩ : PD g A H [(nms, .inr (10, [.ref nms_text, .ref nms_from, .ref nms_next, .ref nms_first, .int nms_size, .int nms_texted])), (nms_text, .inl (cs 1, nms_text_n, .inl nms_text_f)), (nms_from, .inl (cs 0, nms_from_n, .inl nms_from_f))] := ⟨hP, hD⟩
                                  refine lv_if_ne hx hb d_MoPaper_plain_173 rfl (fun h333 => ?_) (fun h333 => ?_)
                                  · rw [if_neg h333] at hok
                                    refine lv_iinc (k := 2) (v := x5_277 + 1) hx hb d_MoPaper_plain_178 hl rfl rfl (by decide) rfl (fun ls hl => ?_)
                                    have hl : lv_has ls 8 [(5, .int (x5_277 + 1)), (7, .int 0), (6, .int r279), (4, .int 0), (3, .int r3), (2, .int r1), (0, .ref nms), (1, .int kk)] := hl
                                    refine lv_goto hx hb d_MoPaper_plain_181 rfl ?_
                                    exact ih277 _ _ _ (x5_277 + 1) (lv_sub hl [0, 3, 4, 5, 6, 7] rfl) (sub3 hP hD [0, 1, 2] (by decide)) hS hok
                                  · rw [if_pos h333] at hok
                                    refine lv_iconst (v := 0) hx hb d_MoPaper_plain_176 (by decide) ?_
                                    have hq := Option.some.inj hok
                                    have hq0 := hq
                                    subst hq0
                                    obtain ⟨hP9, hD9⟩ := sub2 (ws' := [(nms, .inr (10, [.ref nms_text, .ref nms_from, .ref nms_next, .ref nms_first, .int nms_size, .int nms_texted])), (nms_text, .inl (cs 1, nms_text_n, .inl nms_text_f)), (nms_from, .inl (cs 0, nms_from_n, .inl nms_from_f))]) hP hD [0, 1, 2] rfl (by decide) rfl
                                    rw [hQ]
                                    exact W.zret (v := 0) hx hb hr rfl (fun t ht hW => ⟨⟨_, (), rfl, rfl, by rw [ht]; exact hP9, hD9⟩, hS.F ht⟩) hS.2.2 d_MoPaper_plain_177
                                · exact absurd h331 (by decide)
                              · rw [if_pos h330] at hok
                                refine lv_iconst (v := 1) hx hb d_MoPaper_plain_148 (by decide) ?_
                                refine lv_goto hx hb d_MoPaper_plain_149 rfl ?_
                                refine lv_istore hx hb d_MoPaper_plain_153 hl (by decide) rfl (fun ls hl => ?_)
                                have hl : lv_has ls 8 [(7, .int 1), (6, .int r279), (5, .int x5_277), (4, .int 0), (3, .int r3), (2, .int r1), (0, .ref nms), (1, .int kk)] := hl
                                refine lv_iload hx hb d_MoPaper_plain_155 (lv_at hl 3 rfl) ?_
                                refine lv_if_eq hx hb d_MoPaper_plain_157 rfl (fun h334 => ?_) (fun h334 => ?_)
                                · refine lv_iload hx hb d_MoPaper_plain_168 (lv_at hl 1 rfl) ?_
                                  obtain ⟨r335, hc335, hok⟩ := bd_some hok
                                  obtain ⟨hPc, hDc, hFc⟩ := cut0 (wc := []) hP hD hS hA [] (by decide) rfl
                                  refine va_calli (va_runS (As := [.int r279]) (rest := []) ⟨hx, hb, hml, hown, hg⟩ (c_MoReader_symbol l g cs ka H.size n r279 r335 hc335) (va_cwS 1 hg (gw_S wd_755 wd_756 wd_754 wd_753) rfl rfl rfl (by decide +kernel) ⟨Nat.le_of_ble_eq_true rfl, Nat.le_of_ble_eq_true rfl⟩) ⟨gP_blind, gP_pre hPc hDc hK hgl hkn hkr hS hFc⟩ rfl rfl hl.1 rfl (lv_room (Nat.le_of_ble_eq_true rfl)) d_MoPaper_plain_170 ⟨Nat.le_of_ble_eq_true rfl, Nat.le_of_ble_eq_true rfl⟩) hS (fun q _ h => hFc q h) hFc (fun r335' u t H locs ht hvm hr335 hB hz1 hk1 hS => ?_)
                                  subst hr335
                                  rw [ht] at hB
                                  obtain ⟨hP1, hD1⟩ := hB
                                  obtain ⟨hP, hD⟩ := jn_A hP hD [] [0, 1, 2] rfl rfl (by decide) (by decide) hk1 hFc hP1 hD1
                                  obtain ⟨hP, hD⟩ : PD g A H [(nms, .inr (10, [.ref nms_text, .ref nms_from, .ref nms_next, .ref nms_first, .int nms_size, .int nms_texted])), (nms_text, .inl (cs 1, nms_text_n, .inl nms_text_f)), (nms_from, .inl (cs 0, nms_from_n, .inl nms_from_f))] := ⟨hP, hD⟩
                                  refine lv_if_ne hx hb d_MoPaper_plain_173 rfl (fun h336 => ?_) (fun h336 => ?_)
                                  · rw [if_neg h336] at hok
                                    refine lv_iinc (k := 2) (v := x5_277 + 1) hx hb d_MoPaper_plain_178 hl rfl rfl (by decide) rfl (fun ls hl => ?_)
                                    have hl : lv_has ls 8 [(5, .int (x5_277 + 1)), (7, .int 1), (6, .int r279), (4, .int 0), (3, .int r3), (2, .int r1), (0, .ref nms), (1, .int kk)] := hl
                                    refine lv_goto hx hb d_MoPaper_plain_181 rfl ?_
                                    exact ih277 _ _ _ (x5_277 + 1) (lv_sub hl [0, 3, 4, 5, 6, 7] rfl) (sub3 hP hD [0, 1, 2] (by decide)) hS hok
                                  · rw [if_pos h336] at hok
                                    refine lv_iconst (v := 0) hx hb d_MoPaper_plain_176 (by decide) ?_
                                    have hq := Option.some.inj hok
                                    have hq0 := hq
                                    subst hq0
                                    obtain ⟨hP9, hD9⟩ := sub2 (ws' := [(nms, .inr (10, [.ref nms_text, .ref nms_from, .ref nms_next, .ref nms_first, .int nms_size, .int nms_texted])), (nms_text, .inl (cs 1, nms_text_n, .inl nms_text_f)), (nms_from, .inl (cs 0, nms_from_n, .inl nms_from_f))]) hP hD [0, 1, 2] rfl (by decide) rfl
                                    rw [hQ]
                                    exact W.zret (v := 0) hx hb hr rfl (fun t ht hW => ⟨⟨_, (), rfl, rfl, by rw [ht]; exact hP9, hD9⟩, hS.F ht⟩) hS.2.2 d_MoPaper_plain_177
                                · exact absurd h334 (by decide)
                            · rw [if_neg h329] at hok
                              refine lv_iload hx hb d_MoPaper_plain_134 (lv_at hl 0 rfl) ?_
                              refine lv_bipush (v := 57) hx hb d_MoPaper_plain_136 (by decide) ?_
                              refine lv_icmp_le hx hb d_MoPaper_plain_138 rfl (fun h337 => ?_) (fun h337 => ?_)
                              · rw [if_pos h337] at hok
                                refine lv_iconst (v := 1) hx hb d_MoPaper_plain_148 (by decide) ?_
                                refine lv_goto hx hb d_MoPaper_plain_149 rfl ?_
                                refine lv_istore hx hb d_MoPaper_plain_153 hl (by decide) rfl (fun ls hl => ?_)
                                have hl : lv_has ls 8 [(7, .int 1), (6, .int r279), (5, .int x5_277), (4, .int 0), (3, .int r3), (2, .int r1), (0, .ref nms), (1, .int kk)] := hl
                                refine lv_iload hx hb d_MoPaper_plain_155 (lv_at hl 3 rfl) ?_
                                refine lv_if_eq hx hb d_MoPaper_plain_157 rfl (fun h338 => ?_) (fun h338 => ?_)
                                · refine lv_iload hx hb d_MoPaper_plain_168 (lv_at hl 1 rfl) ?_
                                  obtain ⟨r339, hc339, hok⟩ := bd_some hok
                                  obtain ⟨hPc, hDc, hFc⟩ := cut0 (wc := []) hP hD hS hA [] (by decide) rfl
                                  refine va_calli (va_runS (As := [.int r279]) (rest := []) ⟨hx, hb, hml, hown, hg⟩ (c_MoReader_symbol l g cs ka H.size n r279 r339 hc339) (va_cwS 1 hg (gw_S wd_755 wd_756 wd_754 wd_753) rfl rfl rfl (by decide +kernel) ⟨Nat.le_of_ble_eq_true rfl, Nat.le_of_ble_eq_true rfl⟩) ⟨gP_blind, gP_pre hPc hDc hK hgl hkn hkr hS hFc⟩ rfl rfl hl.1 rfl (lv_room (Nat.le_of_ble_eq_true rfl)) d_MoPaper_plain_170 ⟨Nat.le_of_ble_eq_true rfl, Nat.le_of_ble_eq_true rfl⟩) hS (fun q _ h => hFc q h) hFc (fun r339' u t H locs ht hvm hr339 hB hz1 hk1 hS => ?_)
                                  subst hr339
                                  rw [ht] at hB
                                  obtain ⟨hP1, hD1⟩ := hB
                                  obtain ⟨hP, hD⟩ := jn_A hP hD [] [0, 1, 2] rfl rfl (by decide) (by decide) hk1 hFc hP1 hD1
                                  obtain ⟨hP, hD⟩ : PD g A H [(nms, .inr (10, [.ref nms_text, .ref nms_from, .ref nms_next, .ref nms_first, .int nms_size, .int nms_texted])), (nms_text, .inl (cs 1, nms_text_n, .inl nms_text_f)), (nms_from, .inl (cs 0, nms_from_n, .inl nms_from_f))] := ⟨hP, hD⟩
                                  refine lv_if_ne hx hb d_MoPaper_plain_173 rfl (fun h340 => ?_) (fun h340 => ?_)
                                  · rw [if_neg h340] at hok
                                    refine lv_iinc (k := 2) (v := x5_277 + 1) hx hb d_MoPaper_plain_178 hl rfl rfl (by decide) rfl (fun ls hl => ?_)
                                    have hl : lv_has ls 8 [(5, .int (x5_277 + 1)), (7, .int 1), (6, .int r279), (4, .int 0), (3, .int r3), (2, .int r1), (0, .ref nms), (1, .int kk)] := hl
                                    refine lv_goto hx hb d_MoPaper_plain_181 rfl ?_
                                    exact ih277 _ _ _ (x5_277 + 1) (lv_sub hl [0, 3, 4, 5, 6, 7] rfl) (sub3 hP hD [0, 1, 2] (by decide)) hS hok
                                  · rw [if_pos h340] at hok
                                    refine lv_iconst (v := 0) hx hb d_MoPaper_plain_176 (by decide) ?_
                                    have hq := Option.some.inj hok
                                    have hq0 := hq
                                    subst hq0
                                    obtain ⟨hP9, hD9⟩ := sub2 (ws' := [(nms, .inr (10, [.ref nms_text, .ref nms_from, .ref nms_next, .ref nms_first, .int nms_size, .int nms_texted])), (nms_text, .inl (cs 1, nms_text_n, .inl nms_text_f)), (nms_from, .inl (cs 0, nms_from_n, .inl nms_from_f))]) hP hD [0, 1, 2] rfl (by decide) rfl
                                    rw [hQ]
                                    exact W.zret (v := 0) hx hb hr rfl (fun t ht hW => ⟨⟨_, (), rfl, rfl, by rw [ht]; exact hP9, hD9⟩, hS.F ht⟩) hS.2.2 d_MoPaper_plain_177
                                · exact absurd h338 (by decide)
                              · rw [if_neg h337] at hok
                                refine lv_iload hx hb d_MoPaper_plain_141 (lv_at hl 0 rfl) ?_
                                refine lv_bipush (v := 95) hx hb d_MoPaper_plain_143 (by decide) ?_
                                refine lv_icmp_ne hx hb d_MoPaper_plain_145 rfl (fun h341 => ?_) (fun h341 => ?_)
                                · rw [if_neg h341] at hok
                                  refine lv_iconst (v := 0) hx hb d_MoPaper_plain_152 (by decide) ?_
                                  refine lv_istore hx hb d_MoPaper_plain_153 hl (by decide) rfl (fun ls hl => ?_)
                                  have hl : lv_has ls 8 [(7, .int 0), (6, .int r279), (5, .int x5_277), (4, .int 0), (3, .int r3), (2, .int r1), (0, .ref nms), (1, .int kk)] := hl
                                  refine lv_iload hx hb d_MoPaper_plain_155 (lv_at hl 3 rfl) ?_
                                  refine lv_if_eq hx hb d_MoPaper_plain_157 rfl (fun h342 => ?_) (fun h342 => ?_)
                                  · refine lv_iload hx hb d_MoPaper_plain_168 (lv_at hl 1 rfl) ?_
                                    obtain ⟨r343, hc343, hok⟩ := bd_some hok
                                    obtain ⟨hPc, hDc, hFc⟩ := cut0 (wc := []) hP hD hS hA [] (by decide) rfl
                                    refine va_calli (va_runS (As := [.int r279]) (rest := []) ⟨hx, hb, hml, hown, hg⟩ (c_MoReader_symbol l g cs ka H.size n r279 r343 hc343) (va_cwS 1 hg (gw_S wd_755 wd_756 wd_754 wd_753) rfl rfl rfl (by decide +kernel) ⟨Nat.le_of_ble_eq_true rfl, Nat.le_of_ble_eq_true rfl⟩) ⟨gP_blind, gP_pre hPc hDc hK hgl hkn hkr hS hFc⟩ rfl rfl hl.1 rfl (lv_room (Nat.le_of_ble_eq_true rfl)) d_MoPaper_plain_170 ⟨Nat.le_of_ble_eq_true rfl, Nat.le_of_ble_eq_true rfl⟩) hS (fun q _ h => hFc q h) hFc (fun r343' u t H locs ht hvm hr343 hB hz1 hk1 hS => ?_)
                                    subst hr343
                                    rw [ht] at hB
                                    obtain ⟨hP1, hD1⟩ := hB
                                    obtain ⟨hP, hD⟩ := jn_A hP hD [] [0, 1, 2] rfl rfl (by decide) (by decide) hk1 hFc hP1 hD1
                                    obtain ⟨hP, hD⟩ : PD g A H [(nms, .inr (10, [.ref nms_text, .ref nms_from, .ref nms_next, .ref nms_first, .int nms_size, .int nms_texted])), (nms_text, .inl (cs 1, nms_text_n, .inl nms_text_f)), (nms_from, .inl (cs 0, nms_from_n, .inl nms_from_f))] := ⟨hP, hD⟩
                                    refine lv_if_ne hx hb d_MoPaper_plain_173 rfl (fun h344 => ?_) (fun h344 => ?_)
                                    · rw [if_neg h344] at hok
                                      refine lv_iinc (k := 2) (v := x5_277 + 1) hx hb d_MoPaper_plain_178 hl rfl rfl (by decide) rfl (fun ls hl => ?_)
                                      have hl : lv_has ls 8 [(5, .int (x5_277 + 1)), (7, .int 0), (6, .int r279), (4, .int 0), (3, .int r3), (2, .int r1), (0, .ref nms), (1, .int kk)] := hl
                                      refine lv_goto hx hb d_MoPaper_plain_181 rfl ?_
                                      exact ih277 _ _ _ (x5_277 + 1) (lv_sub hl [0, 3, 4, 5, 6, 7] rfl) (sub3 hP hD [0, 1, 2] (by decide)) hS hok
                                    · rw [if_pos h344] at hok
                                      refine lv_iconst (v := 0) hx hb d_MoPaper_plain_176 (by decide) ?_
                                      have hq := Option.some.inj hok
                                      have hq0 := hq
                                      subst hq0
                                      obtain ⟨hP9, hD9⟩ := sub2 (ws' := [(nms, .inr (10, [.ref nms_text, .ref nms_from, .ref nms_next, .ref nms_first, .int nms_size, .int nms_texted])), (nms_text, .inl (cs 1, nms_text_n, .inl nms_text_f)), (nms_from, .inl (cs 0, nms_from_n, .inl nms_from_f))]) hP hD [0, 1, 2] rfl (by decide) rfl
                                      rw [hQ]
                                      exact W.zret (v := 0) hx hb hr rfl (fun t ht hW => ⟨⟨_, (), rfl, rfl, by rw [ht]; exact hP9, hD9⟩, hS.F ht⟩) hS.2.2 d_MoPaper_plain_177
                                  · exact absurd h342 (by decide)
                                · rw [if_pos h341] at hok
                                  refine lv_iconst (v := 1) hx hb d_MoPaper_plain_148 (by decide) ?_
                                  refine lv_goto hx hb d_MoPaper_plain_149 rfl ?_
                                  refine lv_istore hx hb d_MoPaper_plain_153 hl (by decide) rfl (fun ls hl => ?_)
                                  have hl : lv_has ls 8 [(7, .int 1), (6, .int r279), (5, .int x5_277), (4, .int 0), (3, .int r3), (2, .int r1), (0, .ref nms), (1, .int kk)] := hl
                                  refine lv_iload hx hb d_MoPaper_plain_155 (lv_at hl 3 rfl) ?_
                                  refine lv_if_eq hx hb d_MoPaper_plain_157 rfl (fun h345 => ?_) (fun h345 => ?_)
                                  · refine lv_iload hx hb d_MoPaper_plain_168 (lv_at hl 1 rfl) ?_
                                    obtain ⟨r346, hc346, hok⟩ := bd_some hok
                                    obtain ⟨hPc, hDc, hFc⟩ := cut0 (wc := []) hP hD hS hA [] (by decide) rfl
                                    refine va_calli (va_runS (As := [.int r279]) (rest := []) ⟨hx, hb, hml, hown, hg⟩ (c_MoReader_symbol l g cs ka H.size n r279 r346 hc346) (va_cwS 1 hg (gw_S wd_755 wd_756 wd_754 wd_753) rfl rfl rfl (by decide +kernel) ⟨Nat.le_of_ble_eq_true rfl, Nat.le_of_ble_eq_true rfl⟩) ⟨gP_blind, gP_pre hPc hDc hK hgl hkn hkr hS hFc⟩ rfl rfl hl.1 rfl (lv_room (Nat.le_of_ble_eq_true rfl)) d_MoPaper_plain_170 ⟨Nat.le_of_ble_eq_true rfl, Nat.le_of_ble_eq_true rfl⟩) hS (fun q _ h => hFc q h) hFc (fun r346' u t H locs ht hvm hr346 hB hz1 hk1 hS => ?_)
                                    subst hr346
                                    rw [ht] at hB
                                    obtain ⟨hP1, hD1⟩ := hB
                                    obtain ⟨hP, hD⟩ := jn_A hP hD [] [0, 1, 2] rfl rfl (by decide) (by decide) hk1 hFc hP1 hD1
                                    obtain ⟨hP, hD⟩ : PD g A H [(nms, .inr (10, [.ref nms_text, .ref nms_from, .ref nms_next, .ref nms_first, .int nms_size, .int nms_texted])), (nms_text, .inl (cs 1, nms_text_n, .inl nms_text_f)), (nms_from, .inl (cs 0, nms_from_n, .inl nms_from_f))] := ⟨hP, hD⟩
                                    refine lv_if_ne hx hb d_MoPaper_plain_173 rfl (fun h347 => ?_) (fun h347 => ?_)
                                    · rw [if_neg h347] at hok
                                      refine lv_iinc (k := 2) (v := x5_277 + 1) hx hb d_MoPaper_plain_178 hl rfl rfl (by decide) rfl (fun ls hl => ?_)
                                      have hl : lv_has ls 8 [(5, .int (x5_277 + 1)), (7, .int 1), (6, .int r279), (4, .int 0), (3, .int r3), (2, .int r1), (0, .ref nms), (1, .int kk)] := hl
                                      refine lv_goto hx hb d_MoPaper_plain_181 rfl ?_
                                      exact ih277 _ _ _ (x5_277 + 1) (lv_sub hl [0, 3, 4, 5, 6, 7] rfl) (sub3 hP hD [0, 1, 2] (by decide)) hS hok
                                    · rw [if_pos h347] at hok
                                      refine lv_iconst (v := 0) hx hb d_MoPaper_plain_176 (by decide) ?_
                                      have hq := Option.some.inj hok
                                      have hq0 := hq
                                      subst hq0
                                      obtain ⟨hP9, hD9⟩ := sub2 (ws' := [(nms, .inr (10, [.ref nms_text, .ref nms_from, .ref nms_next, .ref nms_first, .int nms_size, .int nms_texted])), (nms_text, .inl (cs 1, nms_text_n, .inl nms_text_f)), (nms_from, .inl (cs 0, nms_from_n, .inl nms_from_f))]) hP hD [0, 1, 2] rfl (by decide) rfl
                                      rw [hQ]
                                      exact W.zret (v := 0) hx hb hr rfl (fun t ht hW => ⟨⟨_, (), rfl, rfl, by rw [ht]; exact hP9, hD9⟩, hS.F ht⟩) hS.2.2 d_MoPaper_plain_177
                                  · exact absurd h345 (by decide)
                          · rw [if_neg h328] at hok
                            refine lv_iload hx hb d_MoPaper_plain_120 (lv_at hl 0 rfl) ?_
                            refine lv_bipush (v := 90) hx hb d_MoPaper_plain_122 (by decide) ?_
                            refine lv_icmp_le hx hb d_MoPaper_plain_124 rfl (fun h348 => ?_) (fun h348 => ?_)
                            · rw [if_pos h348] at hok
                              refine lv_iconst (v := 1) hx hb d_MoPaper_plain_148 (by decide) ?_
                              refine lv_goto hx hb d_MoPaper_plain_149 rfl ?_
                              refine lv_istore hx hb d_MoPaper_plain_153 hl (by decide) rfl (fun ls hl => ?_)
                              have hl : lv_has ls 8 [(7, .int 1), (6, .int r279), (5, .int x5_277), (4, .int 0), (3, .int r3), (2, .int r1), (0, .ref nms), (1, .int kk)] := hl
                              refine lv_iload hx hb d_MoPaper_plain_155 (lv_at hl 3 rfl) ?_
                              refine lv_if_eq hx hb d_MoPaper_plain_157 rfl (fun h349 => ?_) (fun h349 => ?_)
                              · refine lv_iload hx hb d_MoPaper_plain_168 (lv_at hl 1 rfl) ?_
                                obtain ⟨r350, hc350, hok⟩ := bd_some hok
                                obtain ⟨hPc, hDc, hFc⟩ := cut0 (wc := []) hP hD hS hA [] (by decide) rfl
                                refine va_calli (va_runS (As := [.int r279]) (rest := []) ⟨hx, hb, hml, hown, hg⟩ (c_MoReader_symbol l g cs ka H.size n r279 r350 hc350) (va_cwS 1 hg (gw_S wd_755 wd_756 wd_754 wd_753) rfl rfl rfl (by decide +kernel) ⟨Nat.le_of_ble_eq_true rfl, Nat.le_of_ble_eq_true rfl⟩) ⟨gP_blind, gP_pre hPc hDc hK hgl hkn hkr hS hFc⟩ rfl rfl hl.1 rfl (lv_room (Nat.le_of_ble_eq_true rfl)) d_MoPaper_plain_170 ⟨Nat.le_of_ble_eq_true rfl, Nat.le_of_ble_eq_true rfl⟩) hS (fun q _ h => hFc q h) hFc (fun r350' u t H locs ht hvm hr350 hB hz1 hk1 hS => ?_)
                                subst hr350
                                rw [ht] at hB
                                obtain ⟨hP1, hD1⟩ := hB
                                obtain ⟨hP, hD⟩ := jn_A hP hD [] [0, 1, 2] rfl rfl (by decide) (by decide) hk1 hFc hP1 hD1
                                obtain ⟨hP, hD⟩ : PD g A H [(nms, .inr (10, [.ref nms_text, .ref nms_from, .ref nms_next, .ref nms_first, .int nms_size, .int nms_texted])), (nms_text, .inl (cs 1, nms_text_n, .inl nms_text_f)), (nms_from, .inl (cs 0, nms_from_n, .inl nms_from_f))] := ⟨hP, hD⟩
                                refine lv_if_ne hx hb d_MoPaper_plain_173 rfl (fun h351 => ?_) (fun h351 => ?_)
                                · rw [if_neg h351] at hok
                                  refine lv_iinc (k := 2) (v := x5_277 + 1) hx hb d_MoPaper_plain_178 hl rfl rfl (by decide) rfl (fun ls hl => ?_)
                                  have hl : lv_has ls 8 [(5, .int (x5_277 + 1)), (7, .int 1), (6, .int r279), (4, .int 0), (3, .int r3), (2, .int r1), (0, .ref nms), (1, .int kk)] := hl
                                  refine lv_goto hx hb d_MoPaper_plain_181 rfl ?_
                                  exact ih277 _ _ _ (x5_277 + 1) (lv_sub hl [0, 3, 4, 5, 6, 7] rfl) (sub3 hP hD [0, 1, 2] (by decide)) hS hok
                                · rw [if_pos h351] at hok
                                  refine lv_iconst (v := 0) hx hb d_MoPaper_plain_176 (by decide) ?_
                                  have hq := Option.some.inj hok
                                  have hq0 := hq
                                  subst hq0
                                  obtain ⟨hP9, hD9⟩ := sub2 (ws' := [(nms, .inr (10, [.ref nms_text, .ref nms_from, .ref nms_next, .ref nms_first, .int nms_size, .int nms_texted])), (nms_text, .inl (cs 1, nms_text_n, .inl nms_text_f)), (nms_from, .inl (cs 0, nms_from_n, .inl nms_from_f))]) hP hD [0, 1, 2] rfl (by decide) rfl
                                  rw [hQ]
                                  exact W.zret (v := 0) hx hb hr rfl (fun t ht hW => ⟨⟨_, (), rfl, rfl, by rw [ht]; exact hP9, hD9⟩, hS.F ht⟩) hS.2.2 d_MoPaper_plain_177
                              · exact absurd h349 (by decide)
                            · rw [if_neg h348] at hok
                              refine lv_iload hx hb d_MoPaper_plain_127 (lv_at hl 0 rfl) ?_
                              refine lv_bipush (v := 48) hx hb d_MoPaper_plain_129 (by decide) ?_
                              refine lv_icmp_lt hx hb d_MoPaper_plain_131 rfl (fun h352 => ?_) (fun h352 => ?_)
                              · rw [if_pos h352] at hok
                                refine lv_iload hx hb d_MoPaper_plain_141 (lv_at hl 0 rfl) ?_
                                refine lv_bipush (v := 95) hx hb d_MoPaper_plain_143 (by decide) ?_
                                refine lv_icmp_ne hx hb d_MoPaper_plain_145 rfl (fun h353 => ?_) (fun h353 => ?_)
                                · rw [if_neg h353] at hok
                                  refine lv_iconst (v := 0) hx hb d_MoPaper_plain_152 (by decide) ?_
                                  refine lv_istore hx hb d_MoPaper_plain_153 hl (by decide) rfl (fun ls hl => ?_)
                                  have hl : lv_has ls 8 [(7, .int 0), (6, .int r279), (5, .int x5_277), (4, .int 0), (3, .int r3), (2, .int r1), (0, .ref nms), (1, .int kk)] := hl
                                  refine lv_iload hx hb d_MoPaper_plain_155 (lv_at hl 3 rfl) ?_
                                  refine lv_if_eq hx hb d_MoPaper_plain_157 rfl (fun h354 => ?_) (fun h354 => ?_)
                                  · refine lv_iload hx hb d_MoPaper_plain_168 (lv_at hl 1 rfl) ?_
                                    obtain ⟨r355, hc355, hok⟩ := bd_some hok
                                    obtain ⟨hPc, hDc, hFc⟩ := cut0 (wc := []) hP hD hS hA [] (by decide) rfl
                                    refine va_calli (va_runS (As := [.int r279]) (rest := []) ⟨hx, hb, hml, hown, hg⟩ (c_MoReader_symbol l g cs ka H.size n r279 r355 hc355) (va_cwS 1 hg (gw_S wd_755 wd_756 wd_754 wd_753) rfl rfl rfl (by decide +kernel) ⟨Nat.le_of_ble_eq_true rfl, Nat.le_of_ble_eq_true rfl⟩) ⟨gP_blind, gP_pre hPc hDc hK hgl hkn hkr hS hFc⟩ rfl rfl hl.1 rfl (lv_room (Nat.le_of_ble_eq_true rfl)) d_MoPaper_plain_170 ⟨Nat.le_of_ble_eq_true rfl, Nat.le_of_ble_eq_true rfl⟩) hS (fun q _ h => hFc q h) hFc (fun r355' u t H locs ht hvm hr355 hB hz1 hk1 hS => ?_)
                                    subst hr355
                                    rw [ht] at hB
                                    obtain ⟨hP1, hD1⟩ := hB
                                    obtain ⟨hP, hD⟩ := jn_A hP hD [] [0, 1, 2] rfl rfl (by decide) (by decide) hk1 hFc hP1 hD1
                                    obtain ⟨hP, hD⟩ : PD g A H [(nms, .inr (10, [.ref nms_text, .ref nms_from, .ref nms_next, .ref nms_first, .int nms_size, .int nms_texted])), (nms_text, .inl (cs 1, nms_text_n, .inl nms_text_f)), (nms_from, .inl (cs 0, nms_from_n, .inl nms_from_f))] := ⟨hP, hD⟩
                                    refine lv_if_ne hx hb d_MoPaper_plain_173 rfl (fun h356 => ?_) (fun h356 => ?_)
                                    · rw [if_neg h356] at hok
                                      refine lv_iinc (k := 2) (v := x5_277 + 1) hx hb d_MoPaper_plain_178 hl rfl rfl (by decide) rfl (fun ls hl => ?_)
                                      have hl : lv_has ls 8 [(5, .int (x5_277 + 1)), (7, .int 0), (6, .int r279), (4, .int 0), (3, .int r3), (2, .int r1), (0, .ref nms), (1, .int kk)] := hl
                                      refine lv_goto hx hb d_MoPaper_plain_181 rfl ?_
                                      exact ih277 _ _ _ (x5_277 + 1) (lv_sub hl [0, 3, 4, 5, 6, 7] rfl) (sub3 hP hD [0, 1, 2] (by decide)) hS hok
                                    · rw [if_pos h356] at hok
                                      refine lv_iconst (v := 0) hx hb d_MoPaper_plain_176 (by decide) ?_
                                      have hq := Option.some.inj hok
                                      have hq0 := hq
                                      subst hq0
                                      obtain ⟨hP9, hD9⟩ := sub2 (ws' := [(nms, .inr (10, [.ref nms_text, .ref nms_from, .ref nms_next, .ref nms_first, .int nms_size, .int nms_texted])), (nms_text, .inl (cs 1, nms_text_n, .inl nms_text_f)), (nms_from, .inl (cs 0, nms_from_n, .inl nms_from_f))]) hP hD [0, 1, 2] rfl (by decide) rfl
                                      rw [hQ]
                                      exact W.zret (v := 0) hx hb hr rfl (fun t ht hW => ⟨⟨_, (), rfl, rfl, by rw [ht]; exact hP9, hD9⟩, hS.F ht⟩) hS.2.2 d_MoPaper_plain_177
                                  · exact absurd h354 (by decide)
                                · rw [if_pos h353] at hok
                                  refine lv_iconst (v := 1) hx hb d_MoPaper_plain_148 (by decide) ?_
                                  refine lv_goto hx hb d_MoPaper_plain_149 rfl ?_
                                  refine lv_istore hx hb d_MoPaper_plain_153 hl (by decide) rfl (fun ls hl => ?_)
                                  have hl : lv_has ls 8 [(7, .int 1), (6, .int r279), (5, .int x5_277), (4, .int 0), (3, .int r3), (2, .int r1), (0, .ref nms), (1, .int kk)] := hl
                                  refine lv_iload hx hb d_MoPaper_plain_155 (lv_at hl 3 rfl) ?_
                                  refine lv_if_eq hx hb d_MoPaper_plain_157 rfl (fun h357 => ?_) (fun h357 => ?_)
                                  · refine lv_iload hx hb d_MoPaper_plain_168 (lv_at hl 1 rfl) ?_
                                    obtain ⟨r358, hc358, hok⟩ := bd_some hok
                                    obtain ⟨hPc, hDc, hFc⟩ := cut0 (wc := []) hP hD hS hA [] (by decide) rfl
                                    refine va_calli (va_runS (As := [.int r279]) (rest := []) ⟨hx, hb, hml, hown, hg⟩ (c_MoReader_symbol l g cs ka H.size n r279 r358 hc358) (va_cwS 1 hg (gw_S wd_755 wd_756 wd_754 wd_753) rfl rfl rfl (by decide +kernel) ⟨Nat.le_of_ble_eq_true rfl, Nat.le_of_ble_eq_true rfl⟩) ⟨gP_blind, gP_pre hPc hDc hK hgl hkn hkr hS hFc⟩ rfl rfl hl.1 rfl (lv_room (Nat.le_of_ble_eq_true rfl)) d_MoPaper_plain_170 ⟨Nat.le_of_ble_eq_true rfl, Nat.le_of_ble_eq_true rfl⟩) hS (fun q _ h => hFc q h) hFc (fun r358' u t H locs ht hvm hr358 hB hz1 hk1 hS => ?_)
                                    subst hr358
                                    rw [ht] at hB
                                    obtain ⟨hP1, hD1⟩ := hB
                                    obtain ⟨hP, hD⟩ := jn_A hP hD [] [0, 1, 2] rfl rfl (by decide) (by decide) hk1 hFc hP1 hD1
                                    obtain ⟨hP, hD⟩ : PD g A H [(nms, .inr (10, [.ref nms_text, .ref nms_from, .ref nms_next, .ref nms_first, .int nms_size, .int nms_texted])), (nms_text, .inl (cs 1, nms_text_n, .inl nms_text_f)), (nms_from, .inl (cs 0, nms_from_n, .inl nms_from_f))] := ⟨hP, hD⟩
                                    refine lv_if_ne hx hb d_MoPaper_plain_173 rfl (fun h359 => ?_) (fun h359 => ?_)
                                    · rw [if_neg h359] at hok
                                      refine lv_iinc (k := 2) (v := x5_277 + 1) hx hb d_MoPaper_plain_178 hl rfl rfl (by decide) rfl (fun ls hl => ?_)
                                      have hl : lv_has ls 8 [(5, .int (x5_277 + 1)), (7, .int 1), (6, .int r279), (4, .int 0), (3, .int r3), (2, .int r1), (0, .ref nms), (1, .int kk)] := hl
                                      refine lv_goto hx hb d_MoPaper_plain_181 rfl ?_
                                      exact ih277 _ _ _ (x5_277 + 1) (lv_sub hl [0, 3, 4, 5, 6, 7] rfl) (sub3 hP hD [0, 1, 2] (by decide)) hS hok
                                    · rw [if_pos h359] at hok
                                      refine lv_iconst (v := 0) hx hb d_MoPaper_plain_176 (by decide) ?_
                                      have hq := Option.some.inj hok
                                      have hq0 := hq
                                      subst hq0
                                      obtain ⟨hP9, hD9⟩ := sub2 (ws' := [(nms, .inr (10, [.ref nms_text, .ref nms_from, .ref nms_next, .ref nms_first, .int nms_size, .int nms_texted])), (nms_text, .inl (cs 1, nms_text_n, .inl nms_text_f)), (nms_from, .inl (cs 0, nms_from_n, .inl nms_from_f))]) hP hD [0, 1, 2] rfl (by decide) rfl
                                      rw [hQ]
                                      exact W.zret (v := 0) hx hb hr rfl (fun t ht hW => ⟨⟨_, (), rfl, rfl, by rw [ht]; exact hP9, hD9⟩, hS.F ht⟩) hS.2.2 d_MoPaper_plain_177
                                  · exact absurd h357 (by decide)
                              · rw [if_neg h352] at hok
                                refine lv_iload hx hb d_MoPaper_plain_134 (lv_at hl 0 rfl) ?_
                                refine lv_bipush (v := 57) hx hb d_MoPaper_plain_136 (by decide) ?_
                                refine lv_icmp_le hx hb d_MoPaper_plain_138 rfl (fun h360 => ?_) (fun h360 => ?_)
                                · rw [if_pos h360] at hok
                                  refine lv_iconst (v := 1) hx hb d_MoPaper_plain_148 (by decide) ?_
                                  refine lv_goto hx hb d_MoPaper_plain_149 rfl ?_
                                  refine lv_istore hx hb d_MoPaper_plain_153 hl (by decide) rfl (fun ls hl => ?_)
                                  have hl : lv_has ls 8 [(7, .int 1), (6, .int r279), (5, .int x5_277), (4, .int 0), (3, .int r3), (2, .int r1), (0, .ref nms), (1, .int kk)] := hl
                                  refine lv_iload hx hb d_MoPaper_plain_155 (lv_at hl 3 rfl) ?_
                                  refine lv_if_eq hx hb d_MoPaper_plain_157 rfl (fun h361 => ?_) (fun h361 => ?_)
                                  · refine lv_iload hx hb d_MoPaper_plain_168 (lv_at hl 1 rfl) ?_
                                    obtain ⟨r362, hc362, hok⟩ := bd_some hok
                                    obtain ⟨hPc, hDc, hFc⟩ := cut0 (wc := []) hP hD hS hA [] (by decide) rfl
                                    refine va_calli (va_runS (As := [.int r279]) (rest := []) ⟨hx, hb, hml, hown, hg⟩ (c_MoReader_symbol l g cs ka H.size n r279 r362 hc362) (va_cwS 1 hg (gw_S wd_755 wd_756 wd_754 wd_753) rfl rfl rfl (by decide +kernel) ⟨Nat.le_of_ble_eq_true rfl, Nat.le_of_ble_eq_true rfl⟩) ⟨gP_blind, gP_pre hPc hDc hK hgl hkn hkr hS hFc⟩ rfl rfl hl.1 rfl (lv_room (Nat.le_of_ble_eq_true rfl)) d_MoPaper_plain_170 ⟨Nat.le_of_ble_eq_true rfl, Nat.le_of_ble_eq_true rfl⟩) hS (fun q _ h => hFc q h) hFc (fun r362' u t H locs ht hvm hr362 hB hz1 hk1 hS => ?_)
                                    subst hr362
                                    rw [ht] at hB
                                    obtain ⟨hP1, hD1⟩ := hB
                                    obtain ⟨hP, hD⟩ := jn_A hP hD [] [0, 1, 2] rfl rfl (by decide) (by decide) hk1 hFc hP1 hD1
                                    obtain ⟨hP, hD⟩ : PD g A H [(nms, .inr (10, [.ref nms_text, .ref nms_from, .ref nms_next, .ref nms_first, .int nms_size, .int nms_texted])), (nms_text, .inl (cs 1, nms_text_n, .inl nms_text_f)), (nms_from, .inl (cs 0, nms_from_n, .inl nms_from_f))] := ⟨hP, hD⟩
                                    refine lv_if_ne hx hb d_MoPaper_plain_173 rfl (fun h363 => ?_) (fun h363 => ?_)
                                    · rw [if_neg h363] at hok
                                      refine lv_iinc (k := 2) (v := x5_277 + 1) hx hb d_MoPaper_plain_178 hl rfl rfl (by decide) rfl (fun ls hl => ?_)
                                      have hl : lv_has ls 8 [(5, .int (x5_277 + 1)), (7, .int 1), (6, .int r279), (4, .int 0), (3, .int r3), (2, .int r1), (0, .ref nms), (1, .int kk)] := hl
                                      refine lv_goto hx hb d_MoPaper_plain_181 rfl ?_
                                      exact ih277 _ _ _ (x5_277 + 1) (lv_sub hl [0, 3, 4, 5, 6, 7] rfl) (sub3 hP hD [0, 1, 2] (by decide)) hS hok
                                    · rw [if_pos h363] at hok
                                      refine lv_iconst (v := 0) hx hb d_MoPaper_plain_176 (by decide) ?_
                                      have hq := Option.some.inj hok
                                      have hq0 := hq
                                      subst hq0
                                      obtain ⟨hP9, hD9⟩ := sub2 (ws' := [(nms, .inr (10, [.ref nms_text, .ref nms_from, .ref nms_next, .ref nms_first, .int nms_size, .int nms_texted])), (nms_text, .inl (cs 1, nms_text_n, .inl nms_text_f)), (nms_from, .inl (cs 0, nms_from_n, .inl nms_from_f))]) hP hD [0, 1, 2] rfl (by decide) rfl
                                      rw [hQ]
                                      exact W.zret (v := 0) hx hb hr rfl (fun t ht hW => ⟨⟨_, (), rfl, rfl, by rw [ht]; exact hP9, hD9⟩, hS.F ht⟩) hS.2.2 d_MoPaper_plain_177
                                  · exact absurd h361 (by decide)
                                · rw [if_neg h360] at hok
                                  refine lv_iload hx hb d_MoPaper_plain_141 (lv_at hl 0 rfl) ?_
                                  refine lv_bipush (v := 95) hx hb d_MoPaper_plain_143 (by decide) ?_
                                  refine lv_icmp_ne hx hb d_MoPaper_plain_145 rfl (fun h364 => ?_) (fun h364 => ?_)
                                  · rw [if_neg h364] at hok
                                    refine lv_iconst (v := 0) hx hb d_MoPaper_plain_152 (by decide) ?_
                                    refine lv_istore hx hb d_MoPaper_plain_153 hl (by decide) rfl (fun ls hl => ?_)
                                    have hl : lv_has ls 8 [(7, .int 0), (6, .int r279), (5, .int x5_277), (4, .int 0), (3, .int r3), (2, .int r1), (0, .ref nms), (1, .int kk)] := hl
                                    refine lv_iload hx hb d_MoPaper_plain_155 (lv_at hl 3 rfl) ?_
                                    refine lv_if_eq hx hb d_MoPaper_plain_157 rfl (fun h365 => ?_) (fun h365 => ?_)
                                    · refine lv_iload hx hb d_MoPaper_plain_168 (lv_at hl 1 rfl) ?_
                                      obtain ⟨r366, hc366, hok⟩ := bd_some hok
                                      obtain ⟨hPc, hDc, hFc⟩ := cut0 (wc := []) hP hD hS hA [] (by decide) rfl
                                      refine va_calli (va_runS (As := [.int r279]) (rest := []) ⟨hx, hb, hml, hown, hg⟩ (c_MoReader_symbol l g cs ka H.size n r279 r366 hc366) (va_cwS 1 hg (gw_S wd_755 wd_756 wd_754 wd_753) rfl rfl rfl (by decide +kernel) ⟨Nat.le_of_ble_eq_true rfl, Nat.le_of_ble_eq_true rfl⟩) ⟨gP_blind, gP_pre hPc hDc hK hgl hkn hkr hS hFc⟩ rfl rfl hl.1 rfl (lv_room (Nat.le_of_ble_eq_true rfl)) d_MoPaper_plain_170 ⟨Nat.le_of_ble_eq_true rfl, Nat.le_of_ble_eq_true rfl⟩) hS (fun q _ h => hFc q h) hFc (fun r366' u t H locs ht hvm hr366 hB hz1 hk1 hS => ?_)
                                      subst hr366
                                      rw [ht] at hB
                                      obtain ⟨hP1, hD1⟩ := hB
                                      obtain ⟨hP, hD⟩ := jn_A hP hD [] [0, 1, 2] rfl rfl (by decide) (by decide) hk1 hFc hP1 hD1
                                      obtain ⟨hP, hD⟩ : PD g A H [(nms, .inr (10, [.ref nms_text, .ref nms_from, .ref nms_next, .ref nms_first, .int nms_size, .int nms_texted])), (nms_text, .inl (cs 1, nms_text_n, .inl nms_text_f)), (nms_from, .inl (cs 0, nms_from_n, .inl nms_from_f))] := ⟨hP, hD⟩
                                      refine lv_if_ne hx hb d_MoPaper_plain_173 rfl (fun h367 => ?_) (fun h367 => ?_)
                                      · rw [if_neg h367] at hok
                                        refine lv_iinc (k := 2) (v := x5_277 + 1) hx hb d_MoPaper_plain_178 hl rfl rfl (by decide) rfl (fun ls hl => ?_)
                                        have hl : lv_has ls 8 [(5, .int (x5_277 + 1)), (7, .int 0), (6, .int r279), (4, .int 0), (3, .int r3), (2, .int r1), (0, .ref nms), (1, .int kk)] := hl
                                        refine lv_goto hx hb d_MoPaper_plain_181 rfl ?_
                                        exact ih277 _ _ _ (x5_277 + 1) (lv_sub hl [0, 3, 4, 5, 6, 7] rfl) (sub3 hP hD [0, 1, 2] (by decide)) hS hok
                                      · rw [if_pos h367] at hok
                                        refine lv_iconst (v := 0) hx hb d_MoPaper_plain_176 (by decide) ?_
                                        have hq := Option.some.inj hok
                                        have hq0 := hq
                                        subst hq0
                                        obtain ⟨hP9, hD9⟩ := sub2 (ws' := [(nms, .inr (10, [.ref nms_text, .ref nms_from, .ref nms_next, .ref nms_first, .int nms_size, .int nms_texted])), (nms_text, .inl (cs 1, nms_text_n, .inl nms_text_f)), (nms_from, .inl (cs 0, nms_from_n, .inl nms_from_f))]) hP hD [0, 1, 2] rfl (by decide) rfl
                                        rw [hQ]
                                        exact W.zret (v := 0) hx hb hr rfl (fun t ht hW => ⟨⟨_, (), rfl, rfl, by rw [ht]; exact hP9, hD9⟩, hS.F ht⟩) hS.2.2 d_MoPaper_plain_177
                                    · exact absurd h365 (by decide)
                                  · rw [if_pos h364] at hok
                                    refine lv_iconst (v := 1) hx hb d_MoPaper_plain_148 (by decide) ?_
                                    refine lv_goto hx hb d_MoPaper_plain_149 rfl ?_
                                    refine lv_istore hx hb d_MoPaper_plain_153 hl (by decide) rfl (fun ls hl => ?_)
                                    have hl : lv_has ls 8 [(7, .int 1), (6, .int r279), (5, .int x5_277), (4, .int 0), (3, .int r3), (2, .int r1), (0, .ref nms), (1, .int kk)] := hl
                                    refine lv_iload hx hb d_MoPaper_plain_155 (lv_at hl 3 rfl) ?_
                                    refine lv_if_eq hx hb d_MoPaper_plain_157 rfl (fun h368 => ?_) (fun h368 => ?_)
                                    · refine lv_iload hx hb d_MoPaper_plain_168 (lv_at hl 1 rfl) ?_
                                      obtain ⟨r369, hc369, hok⟩ := bd_some hok
                                      obtain ⟨hPc, hDc, hFc⟩ := cut0 (wc := []) hP hD hS hA [] (by decide) rfl
                                      refine va_calli (va_runS (As := [.int r279]) (rest := []) ⟨hx, hb, hml, hown, hg⟩ (c_MoReader_symbol l g cs ka H.size n r279 r369 hc369) (va_cwS 1 hg (gw_S wd_755 wd_756 wd_754 wd_753) rfl rfl rfl (by decide +kernel) ⟨Nat.le_of_ble_eq_true rfl, Nat.le_of_ble_eq_true rfl⟩) ⟨gP_blind, gP_pre hPc hDc hK hgl hkn hkr hS hFc⟩ rfl rfl hl.1 rfl (lv_room (Nat.le_of_ble_eq_true rfl)) d_MoPaper_plain_170 ⟨Nat.le_of_ble_eq_true rfl, Nat.le_of_ble_eq_true rfl⟩) hS (fun q _ h => hFc q h) hFc (fun r369' u t H locs ht hvm hr369 hB hz1 hk1 hS => ?_)
                                      subst hr369
                                      rw [ht] at hB
                                      obtain ⟨hP1, hD1⟩ := hB
                                      obtain ⟨hP, hD⟩ := jn_A hP hD [] [0, 1, 2] rfl rfl (by decide) (by decide) hk1 hFc hP1 hD1
                                      obtain ⟨hP, hD⟩ : PD g A H [(nms, .inr (10, [.ref nms_text, .ref nms_from, .ref nms_next, .ref nms_first, .int nms_size, .int nms_texted])), (nms_text, .inl (cs 1, nms_text_n, .inl nms_text_f)), (nms_from, .inl (cs 0, nms_from_n, .inl nms_from_f))] := ⟨hP, hD⟩
                                      refine lv_if_ne hx hb d_MoPaper_plain_173 rfl (fun h370 => ?_) (fun h370 => ?_)
                                      · rw [if_neg h370] at hok
                                        refine lv_iinc (k := 2) (v := x5_277 + 1) hx hb d_MoPaper_plain_178 hl rfl rfl (by decide) rfl (fun ls hl => ?_)
                                        have hl : lv_has ls 8 [(5, .int (x5_277 + 1)), (7, .int 1), (6, .int r279), (4, .int 0), (3, .int r3), (2, .int r1), (0, .ref nms), (1, .int kk)] := hl
                                        refine lv_goto hx hb d_MoPaper_plain_181 rfl ?_
                                        exact ih277 _ _ _ (x5_277 + 1) (lv_sub hl [0, 3, 4, 5, 6, 7] rfl) (sub3 hP hD [0, 1, 2] (by decide)) hS hok
                                      · rw [if_pos h370] at hok
                                        refine lv_iconst (v := 0) hx hb d_MoPaper_plain_176 (by decide) ?_
                                        have hq := Option.some.inj hok
                                        have hq0 := hq
                                        subst hq0
                                        obtain ⟨hP9, hD9⟩ := sub2 (ws' := [(nms, .inr (10, [.ref nms_text, .ref nms_from, .ref nms_next, .ref nms_first, .int nms_size, .int nms_texted])), (nms_text, .inl (cs 1, nms_text_n, .inl nms_text_f)), (nms_from, .inl (cs 0, nms_from_n, .inl nms_from_f))]) hP hD [0, 1, 2] rfl (by decide) rfl
                                        rw [hQ]
                                        exact W.zret (v := 0) hx hb hr rfl (fun t ht hW => ⟨⟨_, (), rfl, rfl, by rw [ht]; exact hP9, hD9⟩, hS.F ht⟩) hS.2.2 d_MoPaper_plain_177
                                    · exact absurd h368 (by decide)
                exact J277 n H locs ls (0 : Int32) hl ⟨hP, hD⟩ hS hok
              · rw [if_neg h276] at hok
                refine lv_iload_n hx hb d_MoPaper_plain_68 rfl (lv_at hl 0 rfl) ?_
                refine lv_bipush (v := 122) hx hb d_MoPaper_plain_69 (by decide) ?_
                refine lv_icmp_gt hx hb d_MoPaper_plain_71 rfl (fun h371 => ?_) (fun h371 => ?_)
                · rw [if_pos h371] at hok
                  refine lv_iconst (v := 0) hx hb d_MoPaper_plain_78 (by decide) ?_
                  refine lv_istore hx hb d_MoPaper_plain_79 hl (by decide) rfl (fun ls hl => ?_)
                  have hl : lv_has ls 8 [(4, .int 0), (3, .int r3), (2, .int r1), (0, .ref nms), (1, .int kk)] := hl
                  refine lv_iconst (v := 0) hx hb d_MoPaper_plain_81 (by decide) ?_
                  refine lv_istore hx hb d_MoPaper_plain_82 hl (by decide) rfl (fun ls hl => ?_)
                  have hl : lv_has ls 8 [(5, .int 0), (4, .int 0), (3, .int r3), (2, .int r1), (0, .ref nms), (1, .int kk)] := hl
                  have J372 : ∀ (kf372 : Nat) (H : Heap) (locs : List Loc) (ls : Array Slot) (x5_372 : Int32), lv_has ls 8 [(5, .int x5_372), (4, .int 0), (3, .int r3), (2, .int r1), (0, .ref nms), (1, .int kk)] → PD g A H [(nms, .inr (10, [.ref nms_text, .ref nms_from, .ref nms_next, .ref nms_first, .int nms_size, .int nms_texted])), (nms_text, .inl (cs 1, nms_text_n, .inl nms_text_f)), (nms_from, .inl (cs 0, nms_from_n, .inl nms_from_f))] → va_S A s.heap H locs → p_MoPaper_plain_84_372 n kk nms_size nms_texted nms_text_n nms_text_f nms_from_n nms_from_f r1 kf372 x5_372 = some r → W p l e (headSpec (.code y_MoPaper_plain b_MoPaper_plain 8 (some .boolean) :: GW) { frames := 5, cells := 0, slots := 0, locals := 111 }).room s m ([.ref nms, .int kk] : List Value).toArray below meth c H locs 0 0 Q (F0 m 84 ls []) := by
                    intro kf372
                    induction kf372 with
                    | zero => intro H locs ls x5_372 hl ⟨hP, hD⟩ hS hok; rw [p_MoPaper_plain_84_372] at hok; cases hok
                    | succ kf372 ih372 =>
                      intro H locs ls x5_372 hl ⟨hP, hD⟩ hS hok
                      rw [p_MoPaper_plain_84_372] at hok
                      refine lv_iload hx hb d_MoPaper_plain_84 (lv_at hl 0 rfl) ?_
                      refine lv_iload_n hx hb d_MoPaper_plain_86 rfl (lv_at hl 3 rfl) ?_
                      refine lv_icmp_ge hx hb d_MoPaper_plain_87 rfl (fun h373 => ?_) (fun h373 => ?_)
                      · rw [if_pos h373] at hok
                        refine lv_iconst (v := 1) hx hb d_MoPaper_plain_184 (by decide) ?_
                        have hq := Option.some.inj hok
                        have hq0 := hq
                        subst hq0
                        obtain ⟨hP9, hD9⟩ := sub2 (ws' := [(nms, .inr (10, [.ref nms_text, .ref nms_from, .ref nms_next, .ref nms_first, .int nms_size, .int nms_texted])), (nms_text, .inl (cs 1, nms_text_n, .inl nms_text_f)), (nms_from, .inl (cs 0, nms_from_n, .inl nms_from_f))]) hP hD [0, 1, 2] rfl (by decide) rfl
                        rw [hQ]
                        exact W.zret (v := 1) hx hb hr rfl (fun t ht hW => ⟨⟨_, (), rfl, rfl, by rw [ht]; exact hP9, hD9⟩, hS.F ht⟩) hS.2.2 d_MoPaper_plain_185
                      · rw [if_neg h373] at hok
                        refine lv_aload_n hx hb d_MoPaper_plain_90 rfl (lv_at hl 4 rfl) ?_
                        refine lv_iload_n hx hb d_MoPaper_plain_91 rfl (lv_at hl 5 rfl) ?_
                        refine lv_iload hx hb d_MoPaper_plain_92 (lv_at hl 0 rfl) ?_
                        obtain ⟨r374, hc374, hok⟩ := bd_some hok
                        obtain ⟨hPc, hDc, hFc⟩ := cut0 (wc := [(nms, .inr (10, [.ref nms_text, .ref nms_from, .ref nms_next, .ref nms_first, .int nms_size, .int nms_texted])), (nms_text, .inl (cs 1, nms_text_n, .inl nms_text_f)), (nms_from, .inl (cs 0, nms_from_n, .inl nms_from_f))]) hP hD hS hA [0, 1, 2] (by decide) rfl
                        refine va_calli (va_runV (As := [.int kk, .int x5_372]) (rest := []) ⟨hx, hb, hml, hown, hg⟩ (c_MoNames_at l g cs ka nms_next nms_first nms nms_text nms_from H.size kk x5_372 nms_size nms_texted nms_text_n nms_text_f nms_from_n nms_from_f r374 hc374) (cwV (C := R_MoNames) 2 hg (gw_V wd_748 wd_728 wd_729 wd_717 wd_726) rfl rfl rfl (by decide +kernel) ⟨Nat.le_of_ble_eq_true rfl, Nat.le_of_ble_eq_true rfl⟩) ⟨gP_blind, va_recv (q0 := 0) (ci := 10) (q := (R_MoNames, F_MoNames, 6)) hK hP rfl rfl, gP_pre hPc hDc hK hgl hkn hkr hS hFc⟩ rfl rfl hl.1 rfl (lv_room (Nat.le_of_ble_eq_true rfl)) d_MoPaper_plain_94 ⟨Nat.le_of_ble_eq_true rfl, Nat.le_of_ble_eq_true rfl⟩) hS (fun q _ h => hFc q h) hFc (fun r374' u t H locs ht hvm hr374 hB hz1 hk1 hS => ?_)
                        subst hr374
                        rw [ht] at hB
                        obtain ⟨hP1, hD1⟩ := hB
                        obtain ⟨hP, hD⟩ := jn_A hP hD [0, 1, 2] [] rfl rfl (by decide) (by decide) hk1 hFc hP1 hD1
                        obtain ⟨hP, hD⟩ : PD g A H [(nms, .inr (10, [.ref nms_text, .ref nms_from, .ref nms_next, .ref nms_first, .int nms_size, .int nms_texted])), (nms_text, .inl (cs 1, nms_text_n, .inl nms_text_f)), (nms_from, .inl (cs 0, nms_from_n, .inl nms_from_f))] := ⟨hP, hD⟩
                        refine lv_istore hx hb d_MoPaper_plain_97 hl (by decide) rfl (fun ls hl => ?_)
                        have hl : lv_has ls 8 [(6, .int r374), (5, .int x5_372), (4, .int 0), (3, .int r3), (2, .int r1), (0, .ref nms), (1, .int kk)] := hl
                        refine lv_iload hx hb d_MoPaper_plain_99 (lv_at hl 0 rfl) ?_
                        refine lv_bipush (v := 97) hx hb d_MoPaper_plain_101 (by decide) ?_
                        refine lv_icmp_lt hx hb d_MoPaper_plain_103 rfl (fun h375 => ?_) (fun h375 => ?_)
                        · rw [if_pos h375] at hok
                          refine lv_iload hx hb d_MoPaper_plain_113 (lv_at hl 0 rfl) ?_
                          refine lv_bipush (v := 65) hx hb d_MoPaper_plain_115 (by decide) ?_
                          refine lv_icmp_lt hx hb d_MoPaper_plain_117 rfl (fun h376 => ?_) (fun h376 => ?_)
                          · rw [if_pos h376] at hok
                            refine lv_iload hx hb d_MoPaper_plain_127 (lv_at hl 0 rfl) ?_
                            refine lv_bipush (v := 48) hx hb d_MoPaper_plain_129 (by decide) ?_
                            refine lv_icmp_lt hx hb d_MoPaper_plain_131 rfl (fun h377 => ?_) (fun h377 => ?_)
                            · rw [if_pos h377] at hok
                              refine lv_iload hx hb d_MoPaper_plain_141 (lv_at hl 0 rfl) ?_
                              refine lv_bipush (v := 95) hx hb d_MoPaper_plain_143 (by decide) ?_
                              refine lv_icmp_ne hx hb d_MoPaper_plain_145 rfl (fun h378 => ?_) (fun h378 => ?_)
                              · rw [if_neg h378] at hok
                                refine lv_iconst (v := 0) hx hb d_MoPaper_plain_152 (by decide) ?_
                                refine lv_istore hx hb d_MoPaper_plain_153 hl (by decide) rfl (fun ls hl => ?_)
                                have hl : lv_has ls 8 [(7, .int 0), (6, .int r374), (5, .int x5_372), (4, .int 0), (3, .int r3), (2, .int r1), (0, .ref nms), (1, .int kk)] := hl
                                refine lv_iload hx hb d_MoPaper_plain_155 (lv_at hl 3 rfl) ?_
                                refine lv_if_eq hx hb d_MoPaper_plain_157 rfl (fun h379 => ?_) (fun h379 => ?_)
                                · refine lv_iload hx hb d_MoPaper_plain_168 (lv_at hl 1 rfl) ?_
                                  obtain ⟨r380, hc380, hok⟩ := bd_some hok
                                  obtain ⟨hPc, hDc, hFc⟩ := cut0 (wc := []) hP hD hS hA [] (by decide) rfl
                                  refine va_calli (va_runS (As := [.int r374]) (rest := []) ⟨hx, hb, hml, hown, hg⟩ (c_MoReader_symbol l g cs ka H.size n r374 r380 hc380) (va_cwS 1 hg (gw_S wd_755 wd_756 wd_754 wd_753) rfl rfl rfl (by decide +kernel) ⟨Nat.le_of_ble_eq_true rfl, Nat.le_of_ble_eq_true rfl⟩) ⟨gP_blind, gP_pre hPc hDc hK hgl hkn hkr hS hFc⟩ rfl rfl hl.1 rfl (lv_room (Nat.le_of_ble_eq_true rfl)) d_MoPaper_plain_170 ⟨Nat.le_of_ble_eq_true rfl, Nat.le_of_ble_eq_true rfl⟩) hS (fun q _ h => hFc q h) hFc (fun r380' u t H locs ht hvm hr380 hB hz1 hk1 hS => ?_)
                                  subst hr380
                                  rw [ht] at hB
                                  obtain ⟨hP1, hD1⟩ := hB
                                  obtain ⟨hP, hD⟩ := jn_A hP hD [] [0, 1, 2] rfl rfl (by decide) (by decide) hk1 hFc hP1 hD1
                                  obtain ⟨hP, hD⟩ : PD g A H [(nms, .inr (10, [.ref nms_text, .ref nms_from, .ref nms_next, .ref nms_first, .int nms_size, .int nms_texted])), (nms_text, .inl (cs 1, nms_text_n, .inl nms_text_f)), (nms_from, .inl (cs 0, nms_from_n, .inl nms_from_f))] := ⟨hP, hD⟩
                                  refine lv_if_ne hx hb d_MoPaper_plain_173 rfl (fun h381 => ?_) (fun h381 => ?_)
                                  · rw [if_neg h381] at hok
                                    refine lv_iinc (k := 2) (v := x5_372 + 1) hx hb d_MoPaper_plain_178 hl rfl rfl (by decide) rfl (fun ls hl => ?_)
                                    have hl : lv_has ls 8 [(5, .int (x5_372 + 1)), (7, .int 0), (6, .int r374), (4, .int 0), (3, .int r3), (2, .int r1), (0, .ref nms), (1, .int kk)] := hl
                                    refine lv_goto hx hb d_MoPaper_plain_181 rfl ?_
                                    exact ih372 _ _ _ (x5_372 + 1) (lv_sub hl [0, 3, 4, 5, 6, 7] rfl) (sub3 hP hD [0, 1, 2] (by decide)) hS hok
                                  · rw [if_pos h381] at hok
                                    refine lv_iconst (v := 0) hx hb d_MoPaper_plain_176 (by decide) ?_
                                    have hq := Option.some.inj hok
                                    have hq0 := hq
                                    subst hq0
                                    obtain ⟨hP9, hD9⟩ := sub2 (ws' := [(nms, .inr (10, [.ref nms_text, .ref nms_from, .ref nms_next, .ref nms_first, .int nms_size, .int nms_texted])), (nms_text, .inl (cs 1, nms_text_n, .inl nms_text_f)), (nms_from, .inl (cs 0, nms_from_n, .inl nms_from_f))]) hP hD [0, 1, 2] rfl (by decide) rfl
                                    rw [hQ]
                                    exact W.zret (v := 0) hx hb hr rfl (fun t ht hW => ⟨⟨_, (), rfl, rfl, by rw [ht]; exact hP9, hD9⟩, hS.F ht⟩) hS.2.2 d_MoPaper_plain_177
                                · exact absurd h379 (by decide)
                              · rw [if_pos h378] at hok
                                refine lv_iconst (v := 1) hx hb d_MoPaper_plain_148 (by decide) ?_
                                refine lv_goto hx hb d_MoPaper_plain_149 rfl ?_
                                refine lv_istore hx hb d_MoPaper_plain_153 hl (by decide) rfl (fun ls hl => ?_)
                                have hl : lv_has ls 8 [(7, .int 1), (6, .int r374), (5, .int x5_372), (4, .int 0), (3, .int r3), (2, .int r1), (0, .ref nms), (1, .int kk)] := hl
                                refine lv_iload hx hb d_MoPaper_plain_155 (lv_at hl 3 rfl) ?_
                                refine lv_if_eq hx hb d_MoPaper_plain_157 rfl (fun h382 => ?_) (fun h382 => ?_)
                                · refine lv_iload hx hb d_MoPaper_plain_168 (lv_at hl 1 rfl) ?_
                                  obtain ⟨r383, hc383, hok⟩ := bd_some hok
                                  obtain ⟨hPc, hDc, hFc⟩ := cut0 (wc := []) hP hD hS hA [] (by decide) rfl
                                  refine va_calli (va_runS (As := [.int r374]) (rest := []) ⟨hx, hb, hml, hown, hg⟩ (c_MoReader_symbol l g cs ka H.size n r374 r383 hc383) (va_cwS 1 hg (gw_S wd_755 wd_756 wd_754 wd_753) rfl rfl rfl (by decide +kernel) ⟨Nat.le_of_ble_eq_true rfl, Nat.le_of_ble_eq_true rfl⟩) ⟨gP_blind, gP_pre hPc hDc hK hgl hkn hkr hS hFc⟩ rfl rfl hl.1 rfl (lv_room (Nat.le_of_ble_eq_true rfl)) d_MoPaper_plain_170 ⟨Nat.le_of_ble_eq_true rfl, Nat.le_of_ble_eq_true rfl⟩) hS (fun q _ h => hFc q h) hFc (fun r383' u t H locs ht hvm hr383 hB hz1 hk1 hS => ?_)
                                  subst hr383
                                  rw [ht] at hB
                                  obtain ⟨hP1, hD1⟩ := hB
                                  obtain ⟨hP, hD⟩ := jn_A hP hD [] [0, 1, 2] rfl rfl (by decide) (by decide) hk1 hFc hP1 hD1
                                  obtain ⟨hP, hD⟩ : PD g A H [(nms, .inr (10, [.ref nms_text, .ref nms_from, .ref nms_next, .ref nms_first, .int nms_size, .int nms_texted])), (nms_text, .inl (cs 1, nms_text_n, .inl nms_text_f)), (nms_from, .inl (cs 0, nms_from_n, .inl nms_from_f))] := ⟨hP, hD⟩
                                  refine lv_if_ne hx hb d_MoPaper_plain_173 rfl (fun h384 => ?_) (fun h384 => ?_)
                                  · rw [if_neg h384] at hok
                                    refine lv_iinc (k := 2) (v := x5_372 + 1) hx hb d_MoPaper_plain_178 hl rfl rfl (by decide) rfl (fun ls hl => ?_)
                                    have hl : lv_has ls 8 [(5, .int (x5_372 + 1)), (7, .int 1), (6, .int r374), (4, .int 0), (3, .int r3), (2, .int r1), (0, .ref nms), (1, .int kk)] := hl
                                    refine lv_goto hx hb d_MoPaper_plain_181 rfl ?_
                                    exact ih372 _ _ _ (x5_372 + 1) (lv_sub hl [0, 3, 4, 5, 6, 7] rfl) (sub3 hP hD [0, 1, 2] (by decide)) hS hok
                                  · rw [if_pos h384] at hok
                                    refine lv_iconst (v := 0) hx hb d_MoPaper_plain_176 (by decide) ?_
                                    have hq := Option.some.inj hok
                                    have hq0 := hq
                                    subst hq0
                                    obtain ⟨hP9, hD9⟩ := sub2 (ws' := [(nms, .inr (10, [.ref nms_text, .ref nms_from, .ref nms_next, .ref nms_first, .int nms_size, .int nms_texted])), (nms_text, .inl (cs 1, nms_text_n, .inl nms_text_f)), (nms_from, .inl (cs 0, nms_from_n, .inl nms_from_f))]) hP hD [0, 1, 2] rfl (by decide) rfl
                                    rw [hQ]
                                    exact W.zret (v := 0) hx hb hr rfl (fun t ht hW => ⟨⟨_, (), rfl, rfl, by rw [ht]; exact hP9, hD9⟩, hS.F ht⟩) hS.2.2 d_MoPaper_plain_177
                                · exact absurd h382 (by decide)
                            · rw [if_neg h377] at hok
                              refine lv_iload hx hb d_MoPaper_plain_134 (lv_at hl 0 rfl) ?_
                              refine lv_bipush (v := 57) hx hb d_MoPaper_plain_136 (by decide) ?_
                              refine lv_icmp_le hx hb d_MoPaper_plain_138 rfl (fun h385 => ?_) (fun h385 => ?_)
                              · rw [if_pos h385] at hok
                                refine lv_iconst (v := 1) hx hb d_MoPaper_plain_148 (by decide) ?_
                                refine lv_goto hx hb d_MoPaper_plain_149 rfl ?_
                                refine lv_istore hx hb d_MoPaper_plain_153 hl (by decide) rfl (fun ls hl => ?_)
                                have hl : lv_has ls 8 [(7, .int 1), (6, .int r374), (5, .int x5_372), (4, .int 0), (3, .int r3), (2, .int r1), (0, .ref nms), (1, .int kk)] := hl
                                refine lv_iload hx hb d_MoPaper_plain_155 (lv_at hl 3 rfl) ?_
                                refine lv_if_eq hx hb d_MoPaper_plain_157 rfl (fun h386 => ?_) (fun h386 => ?_)
                                · refine lv_iload hx hb d_MoPaper_plain_168 (lv_at hl 1 rfl) ?_
                                  obtain ⟨r387, hc387, hok⟩ := bd_some hok
                                  obtain ⟨hPc, hDc, hFc⟩ := cut0 (wc := []) hP hD hS hA [] (by decide) rfl
                                  refine va_calli (va_runS (As := [.int r374]) (rest := []) ⟨hx, hb, hml, hown, hg⟩ (c_MoReader_symbol l g cs ka H.size n r374 r387 hc387) (va_cwS 1 hg (gw_S wd_755 wd_756 wd_754 wd_753) rfl rfl rfl (by decide +kernel) ⟨Nat.le_of_ble_eq_true rfl, Nat.le_of_ble_eq_true rfl⟩) ⟨gP_blind, gP_pre hPc hDc hK hgl hkn hkr hS hFc⟩ rfl rfl hl.1 rfl (lv_room (Nat.le_of_ble_eq_true rfl)) d_MoPaper_plain_170 ⟨Nat.le_of_ble_eq_true rfl, Nat.le_of_ble_eq_true rfl⟩) hS (fun q _ h => hFc q h) hFc (fun r387' u t H locs ht hvm hr387 hB hz1 hk1 hS => ?_)
                                  subst hr387
                                  rw [ht] at hB
                                  obtain ⟨hP1, hD1⟩ := hB
                                  obtain ⟨hP, hD⟩ := jn_A hP hD [] [0, 1, 2] rfl rfl (by decide) (by decide) hk1 hFc hP1 hD1
                                  obtain ⟨hP, hD⟩ : PD g A H [(nms, .inr (10, [.ref nms_text, .ref nms_from, .ref nms_next, .ref nms_first, .int nms_size, .int nms_texted])), (nms_text, .inl (cs 1, nms_text_n, .inl nms_text_f)), (nms_from, .inl (cs 0, nms_from_n, .inl nms_from_f))] := ⟨hP, hD⟩
                                  refine lv_if_ne hx hb d_MoPaper_plain_173 rfl (fun h388 => ?_) (fun h388 => ?_)
                                  · rw [if_neg h388] at hok
                                    refine lv_iinc (k := 2) (v := x5_372 + 1) hx hb d_MoPaper_plain_178 hl rfl rfl (by decide) rfl (fun ls hl => ?_)
                                    have hl : lv_has ls 8 [(5, .int (x5_372 + 1)), (7, .int 1), (6, .int r374), (4, .int 0), (3, .int r3), (2, .int r1), (0, .ref nms), (1, .int kk)] := hl
                                    refine lv_goto hx hb d_MoPaper_plain_181 rfl ?_
                                    exact ih372 _ _ _ (x5_372 + 1) (lv_sub hl [0, 3, 4, 5, 6, 7] rfl) (sub3 hP hD [0, 1, 2] (by decide)) hS hok
                                  · rw [if_pos h388] at hok
                                    refine lv_iconst (v := 0) hx hb d_MoPaper_plain_176 (by decide) ?_
                                    have hq := Option.some.inj hok
                                    have hq0 := hq
                                    subst hq0
                                    obtain ⟨hP9, hD9⟩ := sub2 (ws' := [(nms, .inr (10, [.ref nms_text, .ref nms_from, .ref nms_next, .ref nms_first, .int nms_size, .int nms_texted])), (nms_text, .inl (cs 1, nms_text_n, .inl nms_text_f)), (nms_from, .inl (cs 0, nms_from_n, .inl nms_from_f))]) hP hD [0, 1, 2] rfl (by decide) rfl
                                    rw [hQ]
                                    exact W.zret (v := 0) hx hb hr rfl (fun t ht hW => ⟨⟨_, (), rfl, rfl, by rw [ht]; exact hP9, hD9⟩, hS.F ht⟩) hS.2.2 d_MoPaper_plain_177
                                · exact absurd h386 (by decide)
                              · rw [if_neg h385] at hok
                                refine lv_iload hx hb d_MoPaper_plain_141 (lv_at hl 0 rfl) ?_
                                refine lv_bipush (v := 95) hx hb d_MoPaper_plain_143 (by decide) ?_
                                refine lv_icmp_ne hx hb d_MoPaper_plain_145 rfl (fun h389 => ?_) (fun h389 => ?_)
                                · rw [if_neg h389] at hok
                                  refine lv_iconst (v := 0) hx hb d_MoPaper_plain_152 (by decide) ?_
                                  refine lv_istore hx hb d_MoPaper_plain_153 hl (by decide) rfl (fun ls hl => ?_)
                                  have hl : lv_has ls 8 [(7, .int 0), (6, .int r374), (5, .int x5_372), (4, .int 0), (3, .int r3), (2, .int r1), (0, .ref nms), (1, .int kk)] := hl
                                  refine lv_iload hx hb d_MoPaper_plain_155 (lv_at hl 3 rfl) ?_
                                  refine lv_if_eq hx hb d_MoPaper_plain_157 rfl (fun h390 => ?_) (fun h390 => ?_)
                                  · refine lv_iload hx hb d_MoPaper_plain_168 (lv_at hl 1 rfl) ?_
                                    obtain ⟨r391, hc391, hok⟩ := bd_some hok
                                    obtain ⟨hPc, hDc, hFc⟩ := cut0 (wc := []) hP hD hS hA [] (by decide) rfl
                                    refine va_calli (va_runS (As := [.int r374]) (rest := []) ⟨hx, hb, hml, hown, hg⟩ (c_MoReader_symbol l g cs ka H.size n r374 r391 hc391) (va_cwS 1 hg (gw_S wd_755 wd_756 wd_754 wd_753) rfl rfl rfl (by decide +kernel) ⟨Nat.le_of_ble_eq_true rfl, Nat.le_of_ble_eq_true rfl⟩) ⟨gP_blind, gP_pre hPc hDc hK hgl hkn hkr hS hFc⟩ rfl rfl hl.1 rfl (lv_room (Nat.le_of_ble_eq_true rfl)) d_MoPaper_plain_170 ⟨Nat.le_of_ble_eq_true rfl, Nat.le_of_ble_eq_true rfl⟩) hS (fun q _ h => hFc q h) hFc (fun r391' u t H locs ht hvm hr391 hB hz1 hk1 hS => ?_)
                                    subst hr391
                                    rw [ht] at hB
                                    obtain ⟨hP1, hD1⟩ := hB
                                    obtain ⟨hP, hD⟩ := jn_A hP hD [] [0, 1, 2] rfl rfl (by decide) (by decide) hk1 hFc hP1 hD1
                                    obtain ⟨hP, hD⟩ : PD g A H [(nms, .inr (10, [.ref nms_text, .ref nms_from, .ref nms_next, .ref nms_first, .int nms_size, .int nms_texted])), (nms_text, .inl (cs 1, nms_text_n, .inl nms_text_f)), (nms_from, .inl (cs 0, nms_from_n, .inl nms_from_f))] := ⟨hP, hD⟩
                                    refine lv_if_ne hx hb d_MoPaper_plain_173 rfl (fun h392 => ?_) (fun h392 => ?_)
                                    · rw [if_neg h392] at hok
                                      refine lv_iinc (k := 2) (v := x5_372 + 1) hx hb d_MoPaper_plain_178 hl rfl rfl (by decide) rfl (fun ls hl => ?_)
                                      have hl : lv_has ls 8 [(5, .int (x5_372 + 1)), (7, .int 0), (6, .int r374), (4, .int 0), (3, .int r3), (2, .int r1), (0, .ref nms), (1, .int kk)] := hl
                                      refine lv_goto hx hb d_MoPaper_plain_181 rfl ?_
                                      exact ih372 _ _ _ (x5_372 + 1) (lv_sub hl [0, 3, 4, 5, 6, 7] rfl) (sub3 hP hD [0, 1, 2] (by decide)) hS hok
                                    · rw [if_pos h392] at hok
                                      refine lv_iconst (v := 0) hx hb d_MoPaper_plain_176 (by decide) ?_
                                      have hq := Option.some.inj hok
                                      have hq0 := hq
                                      subst hq0
                                      obtain ⟨hP9, hD9⟩ := sub2 (ws' := [(nms, .inr (10, [.ref nms_text, .ref nms_from, .ref nms_next, .ref nms_first, .int nms_size, .int nms_texted])), (nms_text, .inl (cs 1, nms_text_n, .inl nms_text_f)), (nms_from, .inl (cs 0, nms_from_n, .inl nms_from_f))]) hP hD [0, 1, 2] rfl (by decide) rfl
                                      rw [hQ]
                                      exact W.zret (v := 0) hx hb hr rfl (fun t ht hW => ⟨⟨_, (), rfl, rfl, by rw [ht]; exact hP9, hD9⟩, hS.F ht⟩) hS.2.2 d_MoPaper_plain_177
                                  · exact absurd h390 (by decide)
                                · rw [if_pos h389] at hok
                                  refine lv_iconst (v := 1) hx hb d_MoPaper_plain_148 (by decide) ?_
                                  refine lv_goto hx hb d_MoPaper_plain_149 rfl ?_
                                  refine lv_istore hx hb d_MoPaper_plain_153 hl (by decide) rfl (fun ls hl => ?_)
                                  have hl : lv_has ls 8 [(7, .int 1), (6, .int r374), (5, .int x5_372), (4, .int 0), (3, .int r3), (2, .int r1), (0, .ref nms), (1, .int kk)] := hl
                                  refine lv_iload hx hb d_MoPaper_plain_155 (lv_at hl 3 rfl) ?_
                                  refine lv_if_eq hx hb d_MoPaper_plain_157 rfl (fun h393 => ?_) (fun h393 => ?_)
                                  · refine lv_iload hx hb d_MoPaper_plain_168 (lv_at hl 1 rfl) ?_
                                    obtain ⟨r394, hc394, hok⟩ := bd_some hok
                                    obtain ⟨hPc, hDc, hFc⟩ := cut0 (wc := []) hP hD hS hA [] (by decide) rfl
                                    refine va_calli (va_runS (As := [.int r374]) (rest := []) ⟨hx, hb, hml, hown, hg⟩ (c_MoReader_symbol l g cs ka H.size n r374 r394 hc394) (va_cwS 1 hg (gw_S wd_755 wd_756 wd_754 wd_753) rfl rfl rfl (by decide +kernel) ⟨Nat.le_of_ble_eq_true rfl, Nat.le_of_ble_eq_true rfl⟩) ⟨gP_blind, gP_pre hPc hDc hK hgl hkn hkr hS hFc⟩ rfl rfl hl.1 rfl (lv_room (Nat.le_of_ble_eq_true rfl)) d_MoPaper_plain_170 ⟨Nat.le_of_ble_eq_true rfl, Nat.le_of_ble_eq_true rfl⟩) hS (fun q _ h => hFc q h) hFc (fun r394' u t H locs ht hvm hr394 hB hz1 hk1 hS => ?_)
                                    subst hr394
                                    rw [ht] at hB
                                    obtain ⟨hP1, hD1⟩ := hB
                                    obtain ⟨hP, hD⟩ := jn_A hP hD [] [0, 1, 2] rfl rfl (by decide) (by decide) hk1 hFc hP1 hD1
                                    obtain ⟨hP, hD⟩ : PD g A H [(nms, .inr (10, [.ref nms_text, .ref nms_from, .ref nms_next, .ref nms_first, .int nms_size, .int nms_texted])), (nms_text, .inl (cs 1, nms_text_n, .inl nms_text_f)), (nms_from, .inl (cs 0, nms_from_n, .inl nms_from_f))] := ⟨hP, hD⟩
                                    refine lv_if_ne hx hb d_MoPaper_plain_173 rfl (fun h395 => ?_) (fun h395 => ?_)
                                    · rw [if_neg h395] at hok
                                      refine lv_iinc (k := 2) (v := x5_372 + 1) hx hb d_MoPaper_plain_178 hl rfl rfl (by decide) rfl (fun ls hl => ?_)
                                      have hl : lv_has ls 8 [(5, .int (x5_372 + 1)), (7, .int 1), (6, .int r374), (4, .int 0), (3, .int r3), (2, .int r1), (0, .ref nms), (1, .int kk)] := hl
                                      refine lv_goto hx hb d_MoPaper_plain_181 rfl ?_
                                      exact ih372 _ _ _ (x5_372 + 1) (lv_sub hl [0, 3, 4, 5, 6, 7] rfl) (sub3 hP hD [0, 1, 2] (by decide)) hS hok
                                    · rw [if_pos h395] at hok
                                      refine lv_iconst (v := 0) hx hb d_MoPaper_plain_176 (by decide) ?_
                                      have hq := Option.some.inj hok
                                      have hq0 := hq
                                      subst hq0
                                      obtain ⟨hP9, hD9⟩ := sub2 (ws' := [(nms, .inr (10, [.ref nms_text, .ref nms_from, .ref nms_next, .ref nms_first, .int nms_size, .int nms_texted])), (nms_text, .inl (cs 1, nms_text_n, .inl nms_text_f)), (nms_from, .inl (cs 0, nms_from_n, .inl nms_from_f))]) hP hD [0, 1, 2] rfl (by decide) rfl
                                      rw [hQ]
                                      exact W.zret (v := 0) hx hb hr rfl (fun t ht hW => ⟨⟨_, (), rfl, rfl, by rw [ht]; exact hP9, hD9⟩, hS.F ht⟩) hS.2.2 d_MoPaper_plain_177
                                  · exact absurd h393 (by decide)
                          · rw [if_neg h376] at hok
                            refine lv_iload hx hb d_MoPaper_plain_120 (lv_at hl 0 rfl) ?_
                            refine lv_bipush (v := 90) hx hb d_MoPaper_plain_122 (by decide) ?_
                            refine lv_icmp_le hx hb d_MoPaper_plain_124 rfl (fun h396 => ?_) (fun h396 => ?_)
                            · rw [if_pos h396] at hok
                              refine lv_iconst (v := 1) hx hb d_MoPaper_plain_148 (by decide) ?_
                              refine lv_goto hx hb d_MoPaper_plain_149 rfl ?_
                              refine lv_istore hx hb d_MoPaper_plain_153 hl (by decide) rfl (fun ls hl => ?_)
                              have hl : lv_has ls 8 [(7, .int 1), (6, .int r374), (5, .int x5_372), (4, .int 0), (3, .int r3), (2, .int r1), (0, .ref nms), (1, .int kk)] := hl
                              refine lv_iload hx hb d_MoPaper_plain_155 (lv_at hl 3 rfl) ?_
                              refine lv_if_eq hx hb d_MoPaper_plain_157 rfl (fun h397 => ?_) (fun h397 => ?_)
                              · refine lv_iload hx hb d_MoPaper_plain_168 (lv_at hl 1 rfl) ?_
                                obtain ⟨r398, hc398, hok⟩ := bd_some hok
                                obtain ⟨hPc, hDc, hFc⟩ := cut0 (wc := []) hP hD hS hA [] (by decide) rfl
                                refine va_calli (va_runS (As := [.int r374]) (rest := []) ⟨hx, hb, hml, hown, hg⟩ (c_MoReader_symbol l g cs ka H.size n r374 r398 hc398) (va_cwS 1 hg (gw_S wd_755 wd_756 wd_754 wd_753) rfl rfl rfl (by decide +kernel) ⟨Nat.le_of_ble_eq_true rfl, Nat.le_of_ble_eq_true rfl⟩) ⟨gP_blind, gP_pre hPc hDc hK hgl hkn hkr hS hFc⟩ rfl rfl hl.1 rfl (lv_room (Nat.le_of_ble_eq_true rfl)) d_MoPaper_plain_170 ⟨Nat.le_of_ble_eq_true rfl, Nat.le_of_ble_eq_true rfl⟩) hS (fun q _ h => hFc q h) hFc (fun r398' u t H locs ht hvm hr398 hB hz1 hk1 hS => ?_)
                                subst hr398
                                rw [ht] at hB
                                obtain ⟨hP1, hD1⟩ := hB
                                obtain ⟨hP, hD⟩ := jn_A hP hD [] [0, 1, 2] rfl rfl (by decide) (by decide) hk1 hFc hP1 hD1
                                obtain ⟨hP, hD⟩ : PD g A H [(nms, .inr (10, [.ref nms_text, .ref nms_from, .ref nms_next, .ref nms_first, .int nms_size, .int nms_texted])), (nms_text, .inl (cs 1, nms_text_n, .inl nms_text_f)), (nms_from, .inl (cs 0, nms_from_n, .inl nms_from_f))] := ⟨hP, hD⟩
                                refine lv_if_ne hx hb d_MoPaper_plain_173 rfl (fun h399 => ?_) (fun h399 => ?_)
                                · rw [if_neg h399] at hok
                                  refine lv_iinc (k := 2) (v := x5_372 + 1) hx hb d_MoPaper_plain_178 hl rfl rfl (by decide) rfl (fun ls hl => ?_)
                                  have hl : lv_has ls 8 [(5, .int (x5_372 + 1)), (7, .int 1), (6, .int r374), (4, .int 0), (3, .int r3), (2, .int r1), (0, .ref nms), (1, .int kk)] := hl
                                  refine lv_goto hx hb d_MoPaper_plain_181 rfl ?_
                                  exact ih372 _ _ _ (x5_372 + 1) (lv_sub hl [0, 3, 4, 5, 6, 7] rfl) (sub3 hP hD [0, 1, 2] (by decide)) hS hok
                                · rw [if_pos h399] at hok
                                  refine lv_iconst (v := 0) hx hb d_MoPaper_plain_176 (by decide) ?_
                                  have hq := Option.some.inj hok
                                  have hq0 := hq
                                  subst hq0
                                  obtain ⟨hP9, hD9⟩ := sub2 (ws' := [(nms, .inr (10, [.ref nms_text, .ref nms_from, .ref nms_next, .ref nms_first, .int nms_size, .int nms_texted])), (nms_text, .inl (cs 1, nms_text_n, .inl nms_text_f)), (nms_from, .inl (cs 0, nms_from_n, .inl nms_from_f))]) hP hD [0, 1, 2] rfl (by decide) rfl
                                  rw [hQ]
                                  exact W.zret (v := 0) hx hb hr rfl (fun t ht hW => ⟨⟨_, (), rfl, rfl, by rw [ht]; exact hP9, hD9⟩, hS.F ht⟩) hS.2.2 d_MoPaper_plain_177
                              · exact absurd h397 (by decide)
                            · rw [if_neg h396] at hok
                              refine lv_iload hx hb d_MoPaper_plain_127 (lv_at hl 0 rfl) ?_
                              refine lv_bipush (v := 48) hx hb d_MoPaper_plain_129 (by decide) ?_
                              refine lv_icmp_lt hx hb d_MoPaper_plain_131 rfl (fun h400 => ?_) (fun h400 => ?_)
                              · rw [if_pos h400] at hok
                                refine lv_iload hx hb d_MoPaper_plain_141 (lv_at hl 0 rfl) ?_
                                refine lv_bipush (v := 95) hx hb d_MoPaper_plain_143 (by decide) ?_
                                refine lv_icmp_ne hx hb d_MoPaper_plain_145 rfl (fun h401 => ?_) (fun h401 => ?_)
                                · rw [if_neg h401] at hok
                                  refine lv_iconst (v := 0) hx hb d_MoPaper_plain_152 (by decide) ?_
                                  refine lv_istore hx hb d_MoPaper_plain_153 hl (by decide) rfl (fun ls hl => ?_)
                                  have hl : lv_has ls 8 [(7, .int 0), (6, .int r374), (5, .int x5_372), (4, .int 0), (3, .int r3), (2, .int r1), (0, .ref nms), (1, .int kk)] := hl
                                  refine lv_iload hx hb d_MoPaper_plain_155 (lv_at hl 3 rfl) ?_
                                  refine lv_if_eq hx hb d_MoPaper_plain_157 rfl (fun h402 => ?_) (fun h402 => ?_)
                                  · refine lv_iload hx hb d_MoPaper_plain_168 (lv_at hl 1 rfl) ?_
                                    obtain ⟨r403, hc403, hok⟩ := bd_some hok
                                    obtain ⟨hPc, hDc, hFc⟩ := cut0 (wc := []) hP hD hS hA [] (by decide) rfl
                                    refine va_calli (va_runS (As := [.int r374]) (rest := []) ⟨hx, hb, hml, hown, hg⟩ (c_MoReader_symbol l g cs ka H.size n r374 r403 hc403) (va_cwS 1 hg (gw_S wd_755 wd_756 wd_754 wd_753) rfl rfl rfl (by decide +kernel) ⟨Nat.le_of_ble_eq_true rfl, Nat.le_of_ble_eq_true rfl⟩) ⟨gP_blind, gP_pre hPc hDc hK hgl hkn hkr hS hFc⟩ rfl rfl hl.1 rfl (lv_room (Nat.le_of_ble_eq_true rfl)) d_MoPaper_plain_170 ⟨Nat.le_of_ble_eq_true rfl, Nat.le_of_ble_eq_true rfl⟩) hS (fun q _ h => hFc q h) hFc (fun r403' u t H locs ht hvm hr403 hB hz1 hk1 hS => ?_)
                                    subst hr403
                                    rw [ht] at hB
                                    obtain ⟨hP1, hD1⟩ := hB
                                    obtain ⟨hP, hD⟩ := jn_A hP hD [] [0, 1, 2] rfl rfl (by decide) (by decide) hk1 hFc hP1 hD1
                                    obtain ⟨hP, hD⟩ : PD g A H [(nms, .inr (10, [.ref nms_text, .ref nms_from, .ref nms_next, .ref nms_first, .int nms_size, .int nms_texted])), (nms_text, .inl (cs 1, nms_text_n, .inl nms_text_f)), (nms_from, .inl (cs 0, nms_from_n, .inl nms_from_f))] := ⟨hP, hD⟩
                                    refine lv_if_ne hx hb d_MoPaper_plain_173 rfl (fun h404 => ?_) (fun h404 => ?_)
                                    · rw [if_neg h404] at hok
                                      refine lv_iinc (k := 2) (v := x5_372 + 1) hx hb d_MoPaper_plain_178 hl rfl rfl (by decide) rfl (fun ls hl => ?_)
                                      have hl : lv_has ls 8 [(5, .int (x5_372 + 1)), (7, .int 0), (6, .int r374), (4, .int 0), (3, .int r3), (2, .int r1), (0, .ref nms), (1, .int kk)] := hl
                                      refine lv_goto hx hb d_MoPaper_plain_181 rfl ?_
                                      exact ih372 _ _ _ (x5_372 + 1) (lv_sub hl [0, 3, 4, 5, 6, 7] rfl) (sub3 hP hD [0, 1, 2] (by decide)) hS hok
                                    · rw [if_pos h404] at hok
                                      refine lv_iconst (v := 0) hx hb d_MoPaper_plain_176 (by decide) ?_
                                      have hq := Option.some.inj hok
                                      have hq0 := hq
                                      subst hq0
                                      obtain ⟨hP9, hD9⟩ := sub2 (ws' := [(nms, .inr (10, [.ref nms_text, .ref nms_from, .ref nms_next, .ref nms_first, .int nms_size, .int nms_texted])), (nms_text, .inl (cs 1, nms_text_n, .inl nms_text_f)), (nms_from, .inl (cs 0, nms_from_n, .inl nms_from_f))]) hP hD [0, 1, 2] rfl (by decide) rfl
                                      rw [hQ]
                                      exact W.zret (v := 0) hx hb hr rfl (fun t ht hW => ⟨⟨_, (), rfl, rfl, by rw [ht]; exact hP9, hD9⟩, hS.F ht⟩) hS.2.2 d_MoPaper_plain_177
                                  · exact absurd h402 (by decide)
                                · rw [if_pos h401] at hok
                                  refine lv_iconst (v := 1) hx hb d_MoPaper_plain_148 (by decide) ?_
                                  refine lv_goto hx hb d_MoPaper_plain_149 rfl ?_
                                  refine lv_istore hx hb d_MoPaper_plain_153 hl (by decide) rfl (fun ls hl => ?_)
                                  have hl : lv_has ls 8 [(7, .int 1), (6, .int r374), (5, .int x5_372), (4, .int 0), (3, .int r3), (2, .int r1), (0, .ref nms), (1, .int kk)] := hl
                                  refine lv_iload hx hb d_MoPaper_plain_155 (lv_at hl 3 rfl) ?_
                                  refine lv_if_eq hx hb d_MoPaper_plain_157 rfl (fun h405 => ?_) (fun h405 => ?_)
                                  · refine lv_iload hx hb d_MoPaper_plain_168 (lv_at hl 1 rfl) ?_
                                    obtain ⟨r406, hc406, hok⟩ := bd_some hok
                                    obtain ⟨hPc, hDc, hFc⟩ := cut0 (wc := []) hP hD hS hA [] (by decide) rfl
                                    refine va_calli (va_runS (As := [.int r374]) (rest := []) ⟨hx, hb, hml, hown, hg⟩ (c_MoReader_symbol l g cs ka H.size n r374 r406 hc406) (va_cwS 1 hg (gw_S wd_755 wd_756 wd_754 wd_753) rfl rfl rfl (by decide +kernel) ⟨Nat.le_of_ble_eq_true rfl, Nat.le_of_ble_eq_true rfl⟩) ⟨gP_blind, gP_pre hPc hDc hK hgl hkn hkr hS hFc⟩ rfl rfl hl.1 rfl (lv_room (Nat.le_of_ble_eq_true rfl)) d_MoPaper_plain_170 ⟨Nat.le_of_ble_eq_true rfl, Nat.le_of_ble_eq_true rfl⟩) hS (fun q _ h => hFc q h) hFc (fun r406' u t H locs ht hvm hr406 hB hz1 hk1 hS => ?_)
                                    subst hr406
                                    rw [ht] at hB
                                    obtain ⟨hP1, hD1⟩ := hB
                                    obtain ⟨hP, hD⟩ := jn_A hP hD [] [0, 1, 2] rfl rfl (by decide) (by decide) hk1 hFc hP1 hD1
                                    obtain ⟨hP, hD⟩ : PD g A H [(nms, .inr (10, [.ref nms_text, .ref nms_from, .ref nms_next, .ref nms_first, .int nms_size, .int nms_texted])), (nms_text, .inl (cs 1, nms_text_n, .inl nms_text_f)), (nms_from, .inl (cs 0, nms_from_n, .inl nms_from_f))] := ⟨hP, hD⟩
                                    refine lv_if_ne hx hb d_MoPaper_plain_173 rfl (fun h407 => ?_) (fun h407 => ?_)
                                    · rw [if_neg h407] at hok
                                      refine lv_iinc (k := 2) (v := x5_372 + 1) hx hb d_MoPaper_plain_178 hl rfl rfl (by decide) rfl (fun ls hl => ?_)
                                      have hl : lv_has ls 8 [(5, .int (x5_372 + 1)), (7, .int 1), (6, .int r374), (4, .int 0), (3, .int r3), (2, .int r1), (0, .ref nms), (1, .int kk)] := hl
                                      refine lv_goto hx hb d_MoPaper_plain_181 rfl ?_
                                      exact ih372 _ _ _ (x5_372 + 1) (lv_sub hl [0, 3, 4, 5, 6, 7] rfl) (sub3 hP hD [0, 1, 2] (by decide)) hS hok
                                    · rw [if_pos h407] at hok
                                      refine lv_iconst (v := 0) hx hb d_MoPaper_plain_176 (by decide) ?_
                                      have hq := Option.some.inj hok
                                      have hq0 := hq
                                      subst hq0
                                      obtain ⟨hP9, hD9⟩ := sub2 (ws' := [(nms, .inr (10, [.ref nms_text, .ref nms_from, .ref nms_next, .ref nms_first, .int nms_size, .int nms_texted])), (nms_text, .inl (cs 1, nms_text_n, .inl nms_text_f)), (nms_from, .inl (cs 0, nms_from_n, .inl nms_from_f))]) hP hD [0, 1, 2] rfl (by decide) rfl
                                      rw [hQ]
                                      exact W.zret (v := 0) hx hb hr rfl (fun t ht hW => ⟨⟨_, (), rfl, rfl, by rw [ht]; exact hP9, hD9⟩, hS.F ht⟩) hS.2.2 d_MoPaper_plain_177
                                  · exact absurd h405 (by decide)
                              · rw [if_neg h400] at hok
                                refine lv_iload hx hb d_MoPaper_plain_134 (lv_at hl 0 rfl) ?_
                                refine lv_bipush (v := 57) hx hb d_MoPaper_plain_136 (by decide) ?_
                                refine lv_icmp_le hx hb d_MoPaper_plain_138 rfl (fun h408 => ?_) (fun h408 => ?_)
                                · rw [if_pos h408] at hok
                                  refine lv_iconst (v := 1) hx hb d_MoPaper_plain_148 (by decide) ?_
                                  refine lv_goto hx hb d_MoPaper_plain_149 rfl ?_
                                  refine lv_istore hx hb d_MoPaper_plain_153 hl (by decide) rfl (fun ls hl => ?_)
                                  have hl : lv_has ls 8 [(7, .int 1), (6, .int r374), (5, .int x5_372), (4, .int 0), (3, .int r3), (2, .int r1), (0, .ref nms), (1, .int kk)] := hl
                                  refine lv_iload hx hb d_MoPaper_plain_155 (lv_at hl 3 rfl) ?_
                                  refine lv_if_eq hx hb d_MoPaper_plain_157 rfl (fun h409 => ?_) (fun h409 => ?_)
                                  · refine lv_iload hx hb d_MoPaper_plain_168 (lv_at hl 1 rfl) ?_
                                    obtain ⟨r410, hc410, hok⟩ := bd_some hok
                                    obtain ⟨hPc, hDc, hFc⟩ := cut0 (wc := []) hP hD hS hA [] (by decide) rfl
                                    refine va_calli (va_runS (As := [.int r374]) (rest := []) ⟨hx, hb, hml, hown, hg⟩ (c_MoReader_symbol l g cs ka H.size n r374 r410 hc410) (va_cwS 1 hg (gw_S wd_755 wd_756 wd_754 wd_753) rfl rfl rfl (by decide +kernel) ⟨Nat.le_of_ble_eq_true rfl, Nat.le_of_ble_eq_true rfl⟩) ⟨gP_blind, gP_pre hPc hDc hK hgl hkn hkr hS hFc⟩ rfl rfl hl.1 rfl (lv_room (Nat.le_of_ble_eq_true rfl)) d_MoPaper_plain_170 ⟨Nat.le_of_ble_eq_true rfl, Nat.le_of_ble_eq_true rfl⟩) hS (fun q _ h => hFc q h) hFc (fun r410' u t H locs ht hvm hr410 hB hz1 hk1 hS => ?_)
                                    subst hr410
                                    rw [ht] at hB
                                    obtain ⟨hP1, hD1⟩ := hB
                                    obtain ⟨hP, hD⟩ := jn_A hP hD [] [0, 1, 2] rfl rfl (by decide) (by decide) hk1 hFc hP1 hD1
                                    obtain ⟨hP, hD⟩ : PD g A H [(nms, .inr (10, [.ref nms_text, .ref nms_from, .ref nms_next, .ref nms_first, .int nms_size, .int nms_texted])), (nms_text, .inl (cs 1, nms_text_n, .inl nms_text_f)), (nms_from, .inl (cs 0, nms_from_n, .inl nms_from_f))] := ⟨hP, hD⟩
                                    refine lv_if_ne hx hb d_MoPaper_plain_173 rfl (fun h411 => ?_) (fun h411 => ?_)
                                    · rw [if_neg h411] at hok
                                      refine lv_iinc (k := 2) (v := x5_372 + 1) hx hb d_MoPaper_plain_178 hl rfl rfl (by decide) rfl (fun ls hl => ?_)
                                      have hl : lv_has ls 8 [(5, .int (x5_372 + 1)), (7, .int 1), (6, .int r374), (4, .int 0), (3, .int r3), (2, .int r1), (0, .ref nms), (1, .int kk)] := hl
                                      refine lv_goto hx hb d_MoPaper_plain_181 rfl ?_
                                      exact ih372 _ _ _ (x5_372 + 1) (lv_sub hl [0, 3, 4, 5, 6, 7] rfl) (sub3 hP hD [0, 1, 2] (by decide)) hS hok
                                    · rw [if_pos h411] at hok
                                      refine lv_iconst (v := 0) hx hb d_MoPaper_plain_176 (by decide) ?_
                                      have hq := Option.some.inj hok
                                      have hq0 := hq
                                      subst hq0
                                      obtain ⟨hP9, hD9⟩ := sub2 (ws' := [(nms, .inr (10, [.ref nms_text, .ref nms_from, .ref nms_next, .ref nms_first, .int nms_size, .int nms_texted])), (nms_text, .inl (cs 1, nms_text_n, .inl nms_text_f)), (nms_from, .inl (cs 0, nms_from_n, .inl nms_from_f))]) hP hD [0, 1, 2] rfl (by decide) rfl
                                      rw [hQ]
                                      exact W.zret (v := 0) hx hb hr rfl (fun t ht hW => ⟨⟨_, (), rfl, rfl, by rw [ht]; exact hP9, hD9⟩, hS.F ht⟩) hS.2.2 d_MoPaper_plain_177
                                  · exact absurd h409 (by decide)
                                · rw [if_neg h408] at hok
                                  refine lv_iload hx hb d_MoPaper_plain_141 (lv_at hl 0 rfl) ?_
                                  refine lv_bipush (v := 95) hx hb d_MoPaper_plain_143 (by decide) ?_
                                  refine lv_icmp_ne hx hb d_MoPaper_plain_145 rfl (fun h412 => ?_) (fun h412 => ?_)
                                  · rw [if_neg h412] at hok
                                    refine lv_iconst (v := 0) hx hb d_MoPaper_plain_152 (by decide) ?_
                                    refine lv_istore hx hb d_MoPaper_plain_153 hl (by decide) rfl (fun ls hl => ?_)
                                    have hl : lv_has ls 8 [(7, .int 0), (6, .int r374), (5, .int x5_372), (4, .int 0), (3, .int r3), (2, .int r1), (0, .ref nms), (1, .int kk)] := hl
                                    refine lv_iload hx hb d_MoPaper_plain_155 (lv_at hl 3 rfl) ?_
                                    refine lv_if_eq hx hb d_MoPaper_plain_157 rfl (fun h413 => ?_) (fun h413 => ?_)
                                    · refine lv_iload hx hb d_MoPaper_plain_168 (lv_at hl 1 rfl) ?_
                                      obtain ⟨r414, hc414, hok⟩ := bd_some hok
                                      obtain ⟨hPc, hDc, hFc⟩ := cut0 (wc := []) hP hD hS hA [] (by decide) rfl
                                      refine va_calli (va_runS (As := [.int r374]) (rest := []) ⟨hx, hb, hml, hown, hg⟩ (c_MoReader_symbol l g cs ka H.size n r374 r414 hc414) (va_cwS 1 hg (gw_S wd_755 wd_756 wd_754 wd_753) rfl rfl rfl (by decide +kernel) ⟨Nat.le_of_ble_eq_true rfl, Nat.le_of_ble_eq_true rfl⟩) ⟨gP_blind, gP_pre hPc hDc hK hgl hkn hkr hS hFc⟩ rfl rfl hl.1 rfl (lv_room (Nat.le_of_ble_eq_true rfl)) d_MoPaper_plain_170 ⟨Nat.le_of_ble_eq_true rfl, Nat.le_of_ble_eq_true rfl⟩) hS (fun q _ h => hFc q h) hFc (fun r414' u t H locs ht hvm hr414 hB hz1 hk1 hS => ?_)
                                      subst hr414
                                      rw [ht] at hB
                                      obtain ⟨hP1, hD1⟩ := hB
                                      obtain ⟨hP, hD⟩ := jn_A hP hD [] [0, 1, 2] rfl rfl (by decide) (by decide) hk1 hFc hP1 hD1
                                      obtain ⟨hP, hD⟩ : PD g A H [(nms, .inr (10, [.ref nms_text, .ref nms_from, .ref nms_next, .ref nms_first, .int nms_size, .int nms_texted])), (nms_text, .inl (cs 1, nms_text_n, .inl nms_text_f)), (nms_from, .inl (cs 0, nms_from_n, .inl nms_from_f))] := ⟨hP, hD⟩
                                      refine lv_if_ne hx hb d_MoPaper_plain_173 rfl (fun h415 => ?_) (fun h415 => ?_)
                                      · rw [if_neg h415] at hok
                                        refine lv_iinc (k := 2) (v := x5_372 + 1) hx hb d_MoPaper_plain_178 hl rfl rfl (by decide) rfl (fun ls hl => ?_)
                                        have hl : lv_has ls 8 [(5, .int (x5_372 + 1)), (7, .int 0), (6, .int r374), (4, .int 0), (3, .int r3), (2, .int r1), (0, .ref nms), (1, .int kk)] := hl
                                        refine lv_goto hx hb d_MoPaper_plain_181 rfl ?_
                                        exact ih372 _ _ _ (x5_372 + 1) (lv_sub hl [0, 3, 4, 5, 6, 7] rfl) (sub3 hP hD [0, 1, 2] (by decide)) hS hok
                                      · rw [if_pos h415] at hok
                                        refine lv_iconst (v := 0) hx hb d_MoPaper_plain_176 (by decide) ?_
                                        have hq := Option.some.inj hok
                                        have hq0 := hq
                                        subst hq0
                                        obtain ⟨hP9, hD9⟩ := sub2 (ws' := [(nms, .inr (10, [.ref nms_text, .ref nms_from, .ref nms_next, .ref nms_first, .int nms_size, .int nms_texted])), (nms_text, .inl (cs 1, nms_text_n, .inl nms_text_f)), (nms_from, .inl (cs 0, nms_from_n, .inl nms_from_f))]) hP hD [0, 1, 2] rfl (by decide) rfl
                                        rw [hQ]
                                        exact W.zret (v := 0) hx hb hr rfl (fun t ht hW => ⟨⟨_, (), rfl, rfl, by rw [ht]; exact hP9, hD9⟩, hS.F ht⟩) hS.2.2 d_MoPaper_plain_177
                                    · exact absurd h413 (by decide)
                                  · rw [if_pos h412] at hok
                                    refine lv_iconst (v := 1) hx hb d_MoPaper_plain_148 (by decide) ?_
                                    refine lv_goto hx hb d_MoPaper_plain_149 rfl ?_
                                    refine lv_istore hx hb d_MoPaper_plain_153 hl (by decide) rfl (fun ls hl => ?_)
                                    have hl : lv_has ls 8 [(7, .int 1), (6, .int r374), (5, .int x5_372), (4, .int 0), (3, .int r3), (2, .int r1), (0, .ref nms), (1, .int kk)] := hl
                                    refine lv_iload hx hb d_MoPaper_plain_155 (lv_at hl 3 rfl) ?_
                                    refine lv_if_eq hx hb d_MoPaper_plain_157 rfl (fun h416 => ?_) (fun h416 => ?_)
                                    · refine lv_iload hx hb d_MoPaper_plain_168 (lv_at hl 1 rfl) ?_
                                      obtain ⟨r417, hc417, hok⟩ := bd_some hok
                                      obtain ⟨hPc, hDc, hFc⟩ := cut0 (wc := []) hP hD hS hA [] (by decide) rfl
                                      refine va_calli (va_runS (As := [.int r374]) (rest := []) ⟨hx, hb, hml, hown, hg⟩ (c_MoReader_symbol l g cs ka H.size n r374 r417 hc417) (va_cwS 1 hg (gw_S wd_755 wd_756 wd_754 wd_753) rfl rfl rfl (by decide +kernel) ⟨Nat.le_of_ble_eq_true rfl, Nat.le_of_ble_eq_true rfl⟩) ⟨gP_blind, gP_pre hPc hDc hK hgl hkn hkr hS hFc⟩ rfl rfl hl.1 rfl (lv_room (Nat.le_of_ble_eq_true rfl)) d_MoPaper_plain_170 ⟨Nat.le_of_ble_eq_true rfl, Nat.le_of_ble_eq_true rfl⟩) hS (fun q _ h => hFc q h) hFc (fun r417' u t H locs ht hvm hr417 hB hz1 hk1 hS => ?_)
                                      subst hr417
                                      rw [ht] at hB
                                      obtain ⟨hP1, hD1⟩ := hB
                                      obtain ⟨hP, hD⟩ := jn_A hP hD [] [0, 1, 2] rfl rfl (by decide) (by decide) hk1 hFc hP1 hD1
                                      obtain ⟨hP, hD⟩ : PD g A H [(nms, .inr (10, [.ref nms_text, .ref nms_from, .ref nms_next, .ref nms_first, .int nms_size, .int nms_texted])), (nms_text, .inl (cs 1, nms_text_n, .inl nms_text_f)), (nms_from, .inl (cs 0, nms_from_n, .inl nms_from_f))] := ⟨hP, hD⟩
                                      refine lv_if_ne hx hb d_MoPaper_plain_173 rfl (fun h418 => ?_) (fun h418 => ?_)
                                      · rw [if_neg h418] at hok
                                        refine lv_iinc (k := 2) (v := x5_372 + 1) hx hb d_MoPaper_plain_178 hl rfl rfl (by decide) rfl (fun ls hl => ?_)
                                        have hl : lv_has ls 8 [(5, .int (x5_372 + 1)), (7, .int 1), (6, .int r374), (4, .int 0), (3, .int r3), (2, .int r1), (0, .ref nms), (1, .int kk)] := hl
                                        refine lv_goto hx hb d_MoPaper_plain_181 rfl ?_
                                        exact ih372 _ _ _ (x5_372 + 1) (lv_sub hl [0, 3, 4, 5, 6, 7] rfl) (sub3 hP hD [0, 1, 2] (by decide)) hS hok
                                      · rw [if_pos h418] at hok
                                        refine lv_iconst (v := 0) hx hb d_MoPaper_plain_176 (by decide) ?_
                                        have hq := Option.some.inj hok
                                        have hq0 := hq
                                        subst hq0
                                        obtain ⟨hP9, hD9⟩ := sub2 (ws' := [(nms, .inr (10, [.ref nms_text, .ref nms_from, .ref nms_next, .ref nms_first, .int nms_size, .int nms_texted])), (nms_text, .inl (cs 1, nms_text_n, .inl nms_text_f)), (nms_from, .inl (cs 0, nms_from_n, .inl nms_from_f))]) hP hD [0, 1, 2] rfl (by decide) rfl
                                        rw [hQ]
                                        exact W.zret (v := 0) hx hb hr rfl (fun t ht hW => ⟨⟨_, (), rfl, rfl, by rw [ht]; exact hP9, hD9⟩, hS.F ht⟩) hS.2.2 d_MoPaper_plain_177
                                    · exact absurd h416 (by decide)
                        · rw [if_neg h375] at hok
                          refine lv_iload hx hb d_MoPaper_plain_106 (lv_at hl 0 rfl) ?_
                          refine lv_bipush (v := 122) hx hb d_MoPaper_plain_108 (by decide) ?_
                          refine lv_icmp_le hx hb d_MoPaper_plain_110 rfl (fun h419 => ?_) (fun h419 => ?_)
                          · rw [if_pos h419] at hok
                            refine lv_iconst (v := 1) hx hb d_MoPaper_plain_148 (by decide) ?_
                            refine lv_goto hx hb d_MoPaper_plain_149 rfl ?_
                            refine lv_istore hx hb d_MoPaper_plain_153 hl (by decide) rfl (fun ls hl => ?_)
                            have hl : lv_has ls 8 [(7, .int 1), (6, .int r374), (5, .int x5_372), (4, .int 0), (3, .int r3), (2, .int r1), (0, .ref nms), (1, .int kk)] := hl
                            refine lv_iload hx hb d_MoPaper_plain_155 (lv_at hl 3 rfl) ?_
                            refine lv_if_eq hx hb d_MoPaper_plain_157 rfl (fun h420 => ?_) (fun h420 => ?_)
                            · refine lv_iload hx hb d_MoPaper_plain_168 (lv_at hl 1 rfl) ?_
                              obtain ⟨r421, hc421, hok⟩ := bd_some hok
                              obtain ⟨hPc, hDc, hFc⟩ := cut0 (wc := []) hP hD hS hA [] (by decide) rfl
                              refine va_calli (va_runS (As := [.int r374]) (rest := []) ⟨hx, hb, hml, hown, hg⟩ (c_MoReader_symbol l g cs ka H.size n r374 r421 hc421) (va_cwS 1 hg (gw_S wd_755 wd_756 wd_754 wd_753) rfl rfl rfl (by decide +kernel) ⟨Nat.le_of_ble_eq_true rfl, Nat.le_of_ble_eq_true rfl⟩) ⟨gP_blind, gP_pre hPc hDc hK hgl hkn hkr hS hFc⟩ rfl rfl hl.1 rfl (lv_room (Nat.le_of_ble_eq_true rfl)) d_MoPaper_plain_170 ⟨Nat.le_of_ble_eq_true rfl, Nat.le_of_ble_eq_true rfl⟩) hS (fun q _ h => hFc q h) hFc (fun r421' u t H locs ht hvm hr421 hB hz1 hk1 hS => ?_)
                              subst hr421
                              rw [ht] at hB
                              obtain ⟨hP1, hD1⟩ := hB
                              obtain ⟨hP, hD⟩ := jn_A hP hD [] [0, 1, 2] rfl rfl (by decide) (by decide) hk1 hFc hP1 hD1
                              obtain ⟨hP, hD⟩ : PD g A H [(nms, .inr (10, [.ref nms_text, .ref nms_from, .ref nms_next, .ref nms_first, .int nms_size, .int nms_texted])), (nms_text, .inl (cs 1, nms_text_n, .inl nms_text_f)), (nms_from, .inl (cs 0, nms_from_n, .inl nms_from_f))] := ⟨hP, hD⟩
                              refine lv_if_ne hx hb d_MoPaper_plain_173 rfl (fun h422 => ?_) (fun h422 => ?_)
                              · rw [if_neg h422] at hok
                                refine lv_iinc (k := 2) (v := x5_372 + 1) hx hb d_MoPaper_plain_178 hl rfl rfl (by decide) rfl (fun ls hl => ?_)
                                have hl : lv_has ls 8 [(5, .int (x5_372 + 1)), (7, .int 1), (6, .int r374), (4, .int 0), (3, .int r3), (2, .int r1), (0, .ref nms), (1, .int kk)] := hl
                                refine lv_goto hx hb d_MoPaper_plain_181 rfl ?_
                                exact ih372 _ _ _ (x5_372 + 1) (lv_sub hl [0, 3, 4, 5, 6, 7] rfl) (sub3 hP hD [0, 1, 2] (by decide)) hS hok
                              · rw [if_pos h422] at hok
                                refine lv_iconst (v := 0) hx hb d_MoPaper_plain_176 (by decide) ?_
                                have hq := Option.some.inj hok
                                have hq0 := hq
                                subst hq0
                                obtain ⟨hP9, hD9⟩ := sub2 (ws' := [(nms, .inr (10, [.ref nms_text, .ref nms_from, .ref nms_next, .ref nms_first, .int nms_size, .int nms_texted])), (nms_text, .inl (cs 1, nms_text_n, .inl nms_text_f)), (nms_from, .inl (cs 0, nms_from_n, .inl nms_from_f))]) hP hD [0, 1, 2] rfl (by decide) rfl
                                rw [hQ]
                                exact W.zret (v := 0) hx hb hr rfl (fun t ht hW => ⟨⟨_, (), rfl, rfl, by rw [ht]; exact hP9, hD9⟩, hS.F ht⟩) hS.2.2 d_MoPaper_plain_177
                            · exact absurd h420 (by decide)
                          · rw [if_neg h419] at hok
                            refine lv_iload hx hb d_MoPaper_plain_113 (lv_at hl 0 rfl) ?_
                            refine lv_bipush (v := 65) hx hb d_MoPaper_plain_115 (by decide) ?_
                            refine lv_icmp_lt hx hb d_MoPaper_plain_117 rfl (fun h423 => ?_) (fun h423 => ?_)
                            · rw [if_pos h423] at hok
                              refine lv_iload hx hb d_MoPaper_plain_127 (lv_at hl 0 rfl) ?_
                              refine lv_bipush (v := 48) hx hb d_MoPaper_plain_129 (by decide) ?_
                              refine lv_icmp_lt hx hb d_MoPaper_plain_131 rfl (fun h424 => ?_) (fun h424 => ?_)
                              · rw [if_pos h424] at hok
                                refine lv_iload hx hb d_MoPaper_plain_141 (lv_at hl 0 rfl) ?_
                                refine lv_bipush (v := 95) hx hb d_MoPaper_plain_143 (by decide) ?_
                                refine lv_icmp_ne hx hb d_MoPaper_plain_145 rfl (fun h425 => ?_) (fun h425 => ?_)
                                · rw [if_neg h425] at hok
                                  refine lv_iconst (v := 0) hx hb d_MoPaper_plain_152 (by decide) ?_
                                  refine lv_istore hx hb d_MoPaper_plain_153 hl (by decide) rfl (fun ls hl => ?_)
                                  have hl : lv_has ls 8 [(7, .int 0), (6, .int r374), (5, .int x5_372), (4, .int 0), (3, .int r3), (2, .int r1), (0, .ref nms), (1, .int kk)] := hl
                                  refine lv_iload hx hb d_MoPaper_plain_155 (lv_at hl 3 rfl) ?_
                                  refine lv_if_eq hx hb d_MoPaper_plain_157 rfl (fun h426 => ?_) (fun h426 => ?_)
                                  · refine lv_iload hx hb d_MoPaper_plain_168 (lv_at hl 1 rfl) ?_
                                    obtain ⟨r427, hc427, hok⟩ := bd_some hok
                                    obtain ⟨hPc, hDc, hFc⟩ := cut0 (wc := []) hP hD hS hA [] (by decide) rfl
                                    refine va_calli (va_runS (As := [.int r374]) (rest := []) ⟨hx, hb, hml, hown, hg⟩ (c_MoReader_symbol l g cs ka H.size n r374 r427 hc427) (va_cwS 1 hg (gw_S wd_755 wd_756 wd_754 wd_753) rfl rfl rfl (by decide +kernel) ⟨Nat.le_of_ble_eq_true rfl, Nat.le_of_ble_eq_true rfl⟩) ⟨gP_blind, gP_pre hPc hDc hK hgl hkn hkr hS hFc⟩ rfl rfl hl.1 rfl (lv_room (Nat.le_of_ble_eq_true rfl)) d_MoPaper_plain_170 ⟨Nat.le_of_ble_eq_true rfl, Nat.le_of_ble_eq_true rfl⟩) hS (fun q _ h => hFc q h) hFc (fun r427' u t H locs ht hvm hr427 hB hz1 hk1 hS => ?_)
                                    subst hr427
                                    rw [ht] at hB
                                    obtain ⟨hP1, hD1⟩ := hB
                                    obtain ⟨hP, hD⟩ := jn_A hP hD [] [0, 1, 2] rfl rfl (by decide) (by decide) hk1 hFc hP1 hD1
                                    obtain ⟨hP, hD⟩ : PD g A H [(nms, .inr (10, [.ref nms_text, .ref nms_from, .ref nms_next, .ref nms_first, .int nms_size, .int nms_texted])), (nms_text, .inl (cs 1, nms_text_n, .inl nms_text_f)), (nms_from, .inl (cs 0, nms_from_n, .inl nms_from_f))] := ⟨hP, hD⟩
                                    refine lv_if_ne hx hb d_MoPaper_plain_173 rfl (fun h428 => ?_) (fun h428 => ?_)
                                    · rw [if_neg h428] at hok
                                      refine lv_iinc (k := 2) (v := x5_372 + 1) hx hb d_MoPaper_plain_178 hl rfl rfl (by decide) rfl (fun ls hl => ?_)
                                      have hl : lv_has ls 8 [(5, .int (x5_372 + 1)), (7, .int 0), (6, .int r374), (4, .int 0), (3, .int r3), (2, .int r1), (0, .ref nms), (1, .int kk)] := hl
                                      refine lv_goto hx hb d_MoPaper_plain_181 rfl ?_
                                      exact ih372 _ _ _ (x5_372 + 1) (lv_sub hl [0, 3, 4, 5, 6, 7] rfl) (sub3 hP hD [0, 1, 2] (by decide)) hS hok
                                    · rw [if_pos h428] at hok
                                      refine lv_iconst (v := 0) hx hb d_MoPaper_plain_176 (by decide) ?_
                                      have hq := Option.some.inj hok
                                      have hq0 := hq
                                      subst hq0
                                      obtain ⟨hP9, hD9⟩ := sub2 (ws' := [(nms, .inr (10, [.ref nms_text, .ref nms_from, .ref nms_next, .ref nms_first, .int nms_size, .int nms_texted])), (nms_text, .inl (cs 1, nms_text_n, .inl nms_text_f)), (nms_from, .inl (cs 0, nms_from_n, .inl nms_from_f))]) hP hD [0, 1, 2] rfl (by decide) rfl
                                      rw [hQ]
                                      exact W.zret (v := 0) hx hb hr rfl (fun t ht hW => ⟨⟨_, (), rfl, rfl, by rw [ht]; exact hP9, hD9⟩, hS.F ht⟩) hS.2.2 d_MoPaper_plain_177
                                  · exact absurd h426 (by decide)
                                · rw [if_pos h425] at hok
                                  refine lv_iconst (v := 1) hx hb d_MoPaper_plain_148 (by decide) ?_
                                  refine lv_goto hx hb d_MoPaper_plain_149 rfl ?_
                                  refine lv_istore hx hb d_MoPaper_plain_153 hl (by decide) rfl (fun ls hl => ?_)
                                  have hl : lv_has ls 8 [(7, .int 1), (6, .int r374), (5, .int x5_372), (4, .int 0), (3, .int r3), (2, .int r1), (0, .ref nms), (1, .int kk)] := hl
                                  refine lv_iload hx hb d_MoPaper_plain_155 (lv_at hl 3 rfl) ?_
                                  refine lv_if_eq hx hb d_MoPaper_plain_157 rfl (fun h429 => ?_) (fun h429 => ?_)
                                  · refine lv_iload hx hb d_MoPaper_plain_168 (lv_at hl 1 rfl) ?_
                                    obtain ⟨r430, hc430, hok⟩ := bd_some hok
                                    obtain ⟨hPc, hDc, hFc⟩ := cut0 (wc := []) hP hD hS hA [] (by decide) rfl
                                    refine va_calli (va_runS (As := [.int r374]) (rest := []) ⟨hx, hb, hml, hown, hg⟩ (c_MoReader_symbol l g cs ka H.size n r374 r430 hc430) (va_cwS 1 hg (gw_S wd_755 wd_756 wd_754 wd_753) rfl rfl rfl (by decide +kernel) ⟨Nat.le_of_ble_eq_true rfl, Nat.le_of_ble_eq_true rfl⟩) ⟨gP_blind, gP_pre hPc hDc hK hgl hkn hkr hS hFc⟩ rfl rfl hl.1 rfl (lv_room (Nat.le_of_ble_eq_true rfl)) d_MoPaper_plain_170 ⟨Nat.le_of_ble_eq_true rfl, Nat.le_of_ble_eq_true rfl⟩) hS (fun q _ h => hFc q h) hFc (fun r430' u t H locs ht hvm hr430 hB hz1 hk1 hS => ?_)
                                    subst hr430
                                    rw [ht] at hB
                                    obtain ⟨hP1, hD1⟩ := hB
                                    obtain ⟨hP, hD⟩ := jn_A hP hD [] [0, 1, 2] rfl rfl (by decide) (by decide) hk1 hFc hP1 hD1
                                    obtain ⟨hP, hD⟩ : PD g A H [(nms, .inr (10, [.ref nms_text, .ref nms_from, .ref nms_next, .ref nms_first, .int nms_size, .int nms_texted])), (nms_text, .inl (cs 1, nms_text_n, .inl nms_text_f)), (nms_from, .inl (cs 0, nms_from_n, .inl nms_from_f))] := ⟨hP, hD⟩
                                    refine lv_if_ne hx hb d_MoPaper_plain_173 rfl (fun h431 => ?_) (fun h431 => ?_)
                                    · rw [if_neg h431] at hok
                                      refine lv_iinc (k := 2) (v := x5_372 + 1) hx hb d_MoPaper_plain_178 hl rfl rfl (by decide) rfl (fun ls hl => ?_)
                                      have hl : lv_has ls 8 [(5, .int (x5_372 + 1)), (7, .int 1), (6, .int r374), (4, .int 0), (3, .int r3), (2, .int r1), (0, .ref nms), (1, .int kk)] := hl
                                      refine lv_goto hx hb d_MoPaper_plain_181 rfl ?_
                                      exact ih372 _ _ _ (x5_372 + 1) (lv_sub hl [0, 3, 4, 5, 6, 7] rfl) (sub3 hP hD [0, 1, 2] (by decide)) hS hok
                                    · rw [if_pos h431] at hok
                                      refine lv_iconst (v := 0) hx hb d_MoPaper_plain_176 (by decide) ?_
                                      have hq := Option.some.inj hok
                                      have hq0 := hq
                                      subst hq0
                                      obtain ⟨hP9, hD9⟩ := sub2 (ws' := [(nms, .inr (10, [.ref nms_text, .ref nms_from, .ref nms_next, .ref nms_first, .int nms_size, .int nms_texted])), (nms_text, .inl (cs 1, nms_text_n, .inl nms_text_f)), (nms_from, .inl (cs 0, nms_from_n, .inl nms_from_f))]) hP hD [0, 1, 2] rfl (by decide) rfl
                                      rw [hQ]
                                      exact W.zret (v := 0) hx hb hr rfl (fun t ht hW => ⟨⟨_, (), rfl, rfl, by rw [ht]; exact hP9, hD9⟩, hS.F ht⟩) hS.2.2 d_MoPaper_plain_177
                                  · exact absurd h429 (by decide)
                              · rw [if_neg h424] at hok
                                refine lv_iload hx hb d_MoPaper_plain_134 (lv_at hl 0 rfl) ?_
                                refine lv_bipush (v := 57) hx hb d_MoPaper_plain_136 (by decide) ?_
                                refine lv_icmp_le hx hb d_MoPaper_plain_138 rfl (fun h432 => ?_) (fun h432 => ?_)
                                · rw [if_pos h432] at hok
                                  refine lv_iconst (v := 1) hx hb d_MoPaper_plain_148 (by decide) ?_
                                  refine lv_goto hx hb d_MoPaper_plain_149 rfl ?_
                                  refine lv_istore hx hb d_MoPaper_plain_153 hl (by decide) rfl (fun ls hl => ?_)
                                  have hl : lv_has ls 8 [(7, .int 1), (6, .int r374), (5, .int x5_372), (4, .int 0), (3, .int r3), (2, .int r1), (0, .ref nms), (1, .int kk)] := hl
                                  refine lv_iload hx hb d_MoPaper_plain_155 (lv_at hl 3 rfl) ?_
                                  refine lv_if_eq hx hb d_MoPaper_plain_157 rfl (fun h433 => ?_) (fun h433 => ?_)
                                  · refine lv_iload hx hb d_MoPaper_plain_168 (lv_at hl 1 rfl) ?_
                                    obtain ⟨r434, hc434, hok⟩ := bd_some hok
                                    obtain ⟨hPc, hDc, hFc⟩ := cut0 (wc := []) hP hD hS hA [] (by decide) rfl
                                    refine va_calli (va_runS (As := [.int r374]) (rest := []) ⟨hx, hb, hml, hown, hg⟩ (c_MoReader_symbol l g cs ka H.size n r374 r434 hc434) (va_cwS 1 hg (gw_S wd_755 wd_756 wd_754 wd_753) rfl rfl rfl (by decide +kernel) ⟨Nat.le_of_ble_eq_true rfl, Nat.le_of_ble_eq_true rfl⟩) ⟨gP_blind, gP_pre hPc hDc hK hgl hkn hkr hS hFc⟩ rfl rfl hl.1 rfl (lv_room (Nat.le_of_ble_eq_true rfl)) d_MoPaper_plain_170 ⟨Nat.le_of_ble_eq_true rfl, Nat.le_of_ble_eq_true rfl⟩) hS (fun q _ h => hFc q h) hFc (fun r434' u t H locs ht hvm hr434 hB hz1 hk1 hS => ?_)
                                    subst hr434
                                    rw [ht] at hB
                                    obtain ⟨hP1, hD1⟩ := hB
                                    obtain ⟨hP, hD⟩ := jn_A hP hD [] [0, 1, 2] rfl rfl (by decide) (by decide) hk1 hFc hP1 hD1
                                    obtain ⟨hP, hD⟩ : PD g A H [(nms, .inr (10, [.ref nms_text, .ref nms_from, .ref nms_next, .ref nms_first, .int nms_size, .int nms_texted])), (nms_text, .inl (cs 1, nms_text_n, .inl nms_text_f)), (nms_from, .inl (cs 0, nms_from_n, .inl nms_from_f))] := ⟨hP, hD⟩
                                    refine lv_if_ne hx hb d_MoPaper_plain_173 rfl (fun h435 => ?_) (fun h435 => ?_)
                                    · rw [if_neg h435] at hok
                                      refine lv_iinc (k := 2) (v := x5_372 + 1) hx hb d_MoPaper_plain_178 hl rfl rfl (by decide) rfl (fun ls hl => ?_)
                                      have hl : lv_has ls 8 [(5, .int (x5_372 + 1)), (7, .int 1), (6, .int r374), (4, .int 0), (3, .int r3), (2, .int r1), (0, .ref nms), (1, .int kk)] := hl
                                      refine lv_goto hx hb d_MoPaper_plain_181 rfl ?_
                                      exact ih372 _ _ _ (x5_372 + 1) (lv_sub hl [0, 3, 4, 5, 6, 7] rfl) (sub3 hP hD [0, 1, 2] (by decide)) hS hok
                                    · rw [if_pos h435] at hok
                                      refine lv_iconst (v := 0) hx hb d_MoPaper_plain_176 (by decide) ?_
                                      have hq := Option.some.inj hok
                                      have hq0 := hq
                                      subst hq0
                                      obtain ⟨hP9, hD9⟩ := sub2 (ws' := [(nms, .inr (10, [.ref nms_text, .ref nms_from, .ref nms_next, .ref nms_first, .int nms_size, .int nms_texted])), (nms_text, .inl (cs 1, nms_text_n, .inl nms_text_f)), (nms_from, .inl (cs 0, nms_from_n, .inl nms_from_f))]) hP hD [0, 1, 2] rfl (by decide) rfl
                                      rw [hQ]
                                      exact W.zret (v := 0) hx hb hr rfl (fun t ht hW => ⟨⟨_, (), rfl, rfl, by rw [ht]; exact hP9, hD9⟩, hS.F ht⟩) hS.2.2 d_MoPaper_plain_177
                                  · exact absurd h433 (by decide)
                                · rw [if_neg h432] at hok
                                  refine lv_iload hx hb d_MoPaper_plain_141 (lv_at hl 0 rfl) ?_
                                  refine lv_bipush (v := 95) hx hb d_MoPaper_plain_143 (by decide) ?_
                                  refine lv_icmp_ne hx hb d_MoPaper_plain_145 rfl (fun h436 => ?_) (fun h436 => ?_)
                                  · rw [if_neg h436] at hok
                                    refine lv_iconst (v := 0) hx hb d_MoPaper_plain_152 (by decide) ?_
                                    refine lv_istore hx hb d_MoPaper_plain_153 hl (by decide) rfl (fun ls hl => ?_)
                                    have hl : lv_has ls 8 [(7, .int 0), (6, .int r374), (5, .int x5_372), (4, .int 0), (3, .int r3), (2, .int r1), (0, .ref nms), (1, .int kk)] := hl
                                    refine lv_iload hx hb d_MoPaper_plain_155 (lv_at hl 3 rfl) ?_
                                    refine lv_if_eq hx hb d_MoPaper_plain_157 rfl (fun h437 => ?_) (fun h437 => ?_)
                                    · refine lv_iload hx hb d_MoPaper_plain_168 (lv_at hl 1 rfl) ?_
                                      obtain ⟨r438, hc438, hok⟩ := bd_some hok
                                      obtain ⟨hPc, hDc, hFc⟩ := cut0 (wc := []) hP hD hS hA [] (by decide) rfl
                                      refine va_calli (va_runS (As := [.int r374]) (rest := []) ⟨hx, hb, hml, hown, hg⟩ (c_MoReader_symbol l g cs ka H.size n r374 r438 hc438) (va_cwS 1 hg (gw_S wd_755 wd_756 wd_754 wd_753) rfl rfl rfl (by decide +kernel) ⟨Nat.le_of_ble_eq_true rfl, Nat.le_of_ble_eq_true rfl⟩) ⟨gP_blind, gP_pre hPc hDc hK hgl hkn hkr hS hFc⟩ rfl rfl hl.1 rfl (lv_room (Nat.le_of_ble_eq_true rfl)) d_MoPaper_plain_170 ⟨Nat.le_of_ble_eq_true rfl, Nat.le_of_ble_eq_true rfl⟩) hS (fun q _ h => hFc q h) hFc (fun r438' u t H locs ht hvm hr438 hB hz1 hk1 hS => ?_)
                                      subst hr438
                                      rw [ht] at hB
                                      obtain ⟨hP1, hD1⟩ := hB
                                      obtain ⟨hP, hD⟩ := jn_A hP hD [] [0, 1, 2] rfl rfl (by decide) (by decide) hk1 hFc hP1 hD1
                                      obtain ⟨hP, hD⟩ : PD g A H [(nms, .inr (10, [.ref nms_text, .ref nms_from, .ref nms_next, .ref nms_first, .int nms_size, .int nms_texted])), (nms_text, .inl (cs 1, nms_text_n, .inl nms_text_f)), (nms_from, .inl (cs 0, nms_from_n, .inl nms_from_f))] := ⟨hP, hD⟩
                                      refine lv_if_ne hx hb d_MoPaper_plain_173 rfl (fun h439 => ?_) (fun h439 => ?_)
                                      · rw [if_neg h439] at hok
                                        refine lv_iinc (k := 2) (v := x5_372 + 1) hx hb d_MoPaper_plain_178 hl rfl rfl (by decide) rfl (fun ls hl => ?_)
                                        have hl : lv_has ls 8 [(5, .int (x5_372 + 1)), (7, .int 0), (6, .int r374), (4, .int 0), (3, .int r3), (2, .int r1), (0, .ref nms), (1, .int kk)] := hl
                                        refine lv_goto hx hb d_MoPaper_plain_181 rfl ?_
                                        exact ih372 _ _ _ (x5_372 + 1) (lv_sub hl [0, 3, 4, 5, 6, 7] rfl) (sub3 hP hD [0, 1, 2] (by decide)) hS hok
                                      · rw [if_pos h439] at hok
                                        refine lv_iconst (v := 0) hx hb d_MoPaper_plain_176 (by decide) ?_
                                        have hq := Option.some.inj hok
                                        have hq0 := hq
                                        subst hq0
                                        obtain ⟨hP9, hD9⟩ := sub2 (ws' := [(nms, .inr (10, [.ref nms_text, .ref nms_from, .ref nms_next, .ref nms_first, .int nms_size, .int nms_texted])), (nms_text, .inl (cs 1, nms_text_n, .inl nms_text_f)), (nms_from, .inl (cs 0, nms_from_n, .inl nms_from_f))]) hP hD [0, 1, 2] rfl (by decide) rfl
                                        rw [hQ]
                                        exact W.zret (v := 0) hx hb hr rfl (fun t ht hW => ⟨⟨_, (), rfl, rfl, by rw [ht]; exact hP9, hD9⟩, hS.F ht⟩) hS.2.2 d_MoPaper_plain_177
                                    · exact absurd h437 (by decide)
                                  · rw [if_pos h436] at hok
                                    refine lv_iconst (v := 1) hx hb d_MoPaper_plain_148 (by decide) ?_
                                    refine lv_goto hx hb d_MoPaper_plain_149 rfl ?_
                                    refine lv_istore hx hb d_MoPaper_plain_153 hl (by decide) rfl (fun ls hl => ?_)
                                    have hl : lv_has ls 8 [(7, .int 1), (6, .int r374), (5, .int x5_372), (4, .int 0), (3, .int r3), (2, .int r1), (0, .ref nms), (1, .int kk)] := hl
                                    refine lv_iload hx hb d_MoPaper_plain_155 (lv_at hl 3 rfl) ?_
                                    refine lv_if_eq hx hb d_MoPaper_plain_157 rfl (fun h440 => ?_) (fun h440 => ?_)
                                    · refine lv_iload hx hb d_MoPaper_plain_168 (lv_at hl 1 rfl) ?_
                                      obtain ⟨r441, hc441, hok⟩ := bd_some hok
                                      obtain ⟨hPc, hDc, hFc⟩ := cut0 (wc := []) hP hD hS hA [] (by decide) rfl
                                      refine va_calli (va_runS (As := [.int r374]) (rest := []) ⟨hx, hb, hml, hown, hg⟩ (c_MoReader_symbol l g cs ka H.size n r374 r441 hc441) (va_cwS 1 hg (gw_S wd_755 wd_756 wd_754 wd_753) rfl rfl rfl (by decide +kernel) ⟨Nat.le_of_ble_eq_true rfl, Nat.le_of_ble_eq_true rfl⟩) ⟨gP_blind, gP_pre hPc hDc hK hgl hkn hkr hS hFc⟩ rfl rfl hl.1 rfl (lv_room (Nat.le_of_ble_eq_true rfl)) d_MoPaper_plain_170 ⟨Nat.le_of_ble_eq_true rfl, Nat.le_of_ble_eq_true rfl⟩) hS (fun q _ h => hFc q h) hFc (fun r441' u t H locs ht hvm hr441 hB hz1 hk1 hS => ?_)
                                      subst hr441
                                      rw [ht] at hB
                                      obtain ⟨hP1, hD1⟩ := hB
                                      obtain ⟨hP, hD⟩ := jn_A hP hD [] [0, 1, 2] rfl rfl (by decide) (by decide) hk1 hFc hP1 hD1
                                      obtain ⟨hP, hD⟩ : PD g A H [(nms, .inr (10, [.ref nms_text, .ref nms_from, .ref nms_next, .ref nms_first, .int nms_size, .int nms_texted])), (nms_text, .inl (cs 1, nms_text_n, .inl nms_text_f)), (nms_from, .inl (cs 0, nms_from_n, .inl nms_from_f))] := ⟨hP, hD⟩
                                      refine lv_if_ne hx hb d_MoPaper_plain_173 rfl (fun h442 => ?_) (fun h442 => ?_)
                                      · rw [if_neg h442] at hok
                                        refine lv_iinc (k := 2) (v := x5_372 + 1) hx hb d_MoPaper_plain_178 hl rfl rfl (by decide) rfl (fun ls hl => ?_)
                                        have hl : lv_has ls 8 [(5, .int (x5_372 + 1)), (7, .int 1), (6, .int r374), (4, .int 0), (3, .int r3), (2, .int r1), (0, .ref nms), (1, .int kk)] := hl
                                        refine lv_goto hx hb d_MoPaper_plain_181 rfl ?_
                                        exact ih372 _ _ _ (x5_372 + 1) (lv_sub hl [0, 3, 4, 5, 6, 7] rfl) (sub3 hP hD [0, 1, 2] (by decide)) hS hok
                                      · rw [if_pos h442] at hok
                                        refine lv_iconst (v := 0) hx hb d_MoPaper_plain_176 (by decide) ?_
                                        have hq := Option.some.inj hok
                                        have hq0 := hq
                                        subst hq0
                                        obtain ⟨hP9, hD9⟩ := sub2 (ws' := [(nms, .inr (10, [.ref nms_text, .ref nms_from, .ref nms_next, .ref nms_first, .int nms_size, .int nms_texted])), (nms_text, .inl (cs 1, nms_text_n, .inl nms_text_f)), (nms_from, .inl (cs 0, nms_from_n, .inl nms_from_f))]) hP hD [0, 1, 2] rfl (by decide) rfl
                                        rw [hQ]
                                        exact W.zret (v := 0) hx hb hr rfl (fun t ht hW => ⟨⟨_, (), rfl, rfl, by rw [ht]; exact hP9, hD9⟩, hS.F ht⟩) hS.2.2 d_MoPaper_plain_177
                                    · exact absurd h440 (by decide)
                            · rw [if_neg h423] at hok
                              refine lv_iload hx hb d_MoPaper_plain_120 (lv_at hl 0 rfl) ?_
                              refine lv_bipush (v := 90) hx hb d_MoPaper_plain_122 (by decide) ?_
                              refine lv_icmp_le hx hb d_MoPaper_plain_124 rfl (fun h443 => ?_) (fun h443 => ?_)
                              · rw [if_pos h443] at hok
                                refine lv_iconst (v := 1) hx hb d_MoPaper_plain_148 (by decide) ?_
                                refine lv_goto hx hb d_MoPaper_plain_149 rfl ?_
                                refine lv_istore hx hb d_MoPaper_plain_153 hl (by decide) rfl (fun ls hl => ?_)
                                have hl : lv_has ls 8 [(7, .int 1), (6, .int r374), (5, .int x5_372), (4, .int 0), (3, .int r3), (2, .int r1), (0, .ref nms), (1, .int kk)] := hl
                                refine lv_iload hx hb d_MoPaper_plain_155 (lv_at hl 3 rfl) ?_
                                refine lv_if_eq hx hb d_MoPaper_plain_157 rfl (fun h444 => ?_) (fun h444 => ?_)
                                · refine lv_iload hx hb d_MoPaper_plain_168 (lv_at hl 1 rfl) ?_
                                  obtain ⟨r445, hc445, hok⟩ := bd_some hok
                                  obtain ⟨hPc, hDc, hFc⟩ := cut0 (wc := []) hP hD hS hA [] (by decide) rfl
                                  refine va_calli (va_runS (As := [.int r374]) (rest := []) ⟨hx, hb, hml, hown, hg⟩ (c_MoReader_symbol l g cs ka H.size n r374 r445 hc445) (va_cwS 1 hg (gw_S wd_755 wd_756 wd_754 wd_753) rfl rfl rfl (by decide +kernel) ⟨Nat.le_of_ble_eq_true rfl, Nat.le_of_ble_eq_true rfl⟩) ⟨gP_blind, gP_pre hPc hDc hK hgl hkn hkr hS hFc⟩ rfl rfl hl.1 rfl (lv_room (Nat.le_of_ble_eq_true rfl)) d_MoPaper_plain_170 ⟨Nat.le_of_ble_eq_true rfl, Nat.le_of_ble_eq_true rfl⟩) hS (fun q _ h => hFc q h) hFc (fun r445' u t H locs ht hvm hr445 hB hz1 hk1 hS => ?_)
                                  subst hr445
                                  rw [ht] at hB
                                  obtain ⟨hP1, hD1⟩ := hB
                                  obtain ⟨hP, hD⟩ := jn_A hP hD [] [0, 1, 2] rfl rfl (by decide) (by decide) hk1 hFc hP1 hD1
                                  obtain ⟨hP, hD⟩ : PD g A H [(nms, .inr (10, [.ref nms_text, .ref nms_from, .ref nms_next, .ref nms_first, .int nms_size, .int nms_texted])), (nms_text, .inl (cs 1, nms_text_n, .inl nms_text_f)), (nms_from, .inl (cs 0, nms_from_n, .inl nms_from_f))] := ⟨hP, hD⟩
                                  refine lv_if_ne hx hb d_MoPaper_plain_173 rfl (fun h446 => ?_) (fun h446 => ?_)
                                  · rw [if_neg h446] at hok
                                    refine lv_iinc (k := 2) (v := x5_372 + 1) hx hb d_MoPaper_plain_178 hl rfl rfl (by decide) rfl (fun ls hl => ?_)
                                    have hl : lv_has ls 8 [(5, .int (x5_372 + 1)), (7, .int 1), (6, .int r374), (4, .int 0), (3, .int r3), (2, .int r1), (0, .ref nms), (1, .int kk)] := hl
                                    refine lv_goto hx hb d_MoPaper_plain_181 rfl ?_
                                    exact ih372 _ _ _ (x5_372 + 1) (lv_sub hl [0, 3, 4, 5, 6, 7] rfl) (sub3 hP hD [0, 1, 2] (by decide)) hS hok
                                  · rw [if_pos h446] at hok
                                    refine lv_iconst (v := 0) hx hb d_MoPaper_plain_176 (by decide) ?_
                                    have hq := Option.some.inj hok
                                    have hq0 := hq
                                    subst hq0
                                    obtain ⟨hP9, hD9⟩ := sub2 (ws' := [(nms, .inr (10, [.ref nms_text, .ref nms_from, .ref nms_next, .ref nms_first, .int nms_size, .int nms_texted])), (nms_text, .inl (cs 1, nms_text_n, .inl nms_text_f)), (nms_from, .inl (cs 0, nms_from_n, .inl nms_from_f))]) hP hD [0, 1, 2] rfl (by decide) rfl
                                    rw [hQ]
                                    exact W.zret (v := 0) hx hb hr rfl (fun t ht hW => ⟨⟨_, (), rfl, rfl, by rw [ht]; exact hP9, hD9⟩, hS.F ht⟩) hS.2.2 d_MoPaper_plain_177
                                · exact absurd h444 (by decide)
                              · rw [if_neg h443] at hok
                                refine lv_iload hx hb d_MoPaper_plain_127 (lv_at hl 0 rfl) ?_
                                refine lv_bipush (v := 48) hx hb d_MoPaper_plain_129 (by decide) ?_
                                refine lv_icmp_lt hx hb d_MoPaper_plain_131 rfl (fun h447 => ?_) (fun h447 => ?_)
                                · rw [if_pos h447] at hok
                                  refine lv_iload hx hb d_MoPaper_plain_141 (lv_at hl 0 rfl) ?_
                                  refine lv_bipush (v := 95) hx hb d_MoPaper_plain_143 (by decide) ?_
                                  refine lv_icmp_ne hx hb d_MoPaper_plain_145 rfl (fun h448 => ?_) (fun h448 => ?_)
                                  · rw [if_neg h448] at hok
                                    refine lv_iconst (v := 0) hx hb d_MoPaper_plain_152 (by decide) ?_
                                    refine lv_istore hx hb d_MoPaper_plain_153 hl (by decide) rfl (fun ls hl => ?_)
                                    have hl : lv_has ls 8 [(7, .int 0), (6, .int r374), (5, .int x5_372), (4, .int 0), (3, .int r3), (2, .int r1), (0, .ref nms), (1, .int kk)] := hl
                                    refine lv_iload hx hb d_MoPaper_plain_155 (lv_at hl 3 rfl) ?_
                                    refine lv_if_eq hx hb d_MoPaper_plain_157 rfl (fun h449 => ?_) (fun h449 => ?_)
                                    · refine lv_iload hx hb d_MoPaper_plain_168 (lv_at hl 1 rfl) ?_
                                      obtain ⟨r450, hc450, hok⟩ := bd_some hok
                                      obtain ⟨hPc, hDc, hFc⟩ := cut0 (wc := []) hP hD hS hA [] (by decide) rfl
                                      refine va_calli (va_runS (As := [.int r374]) (rest := []) ⟨hx, hb, hml, hown, hg⟩ (c_MoReader_symbol l g cs ka H.size n r374 r450 hc450) (va_cwS 1 hg (gw_S wd_755 wd_756 wd_754 wd_753) rfl rfl rfl (by decide +kernel) ⟨Nat.le_of_ble_eq_true rfl, Nat.le_of_ble_eq_true rfl⟩) ⟨gP_blind, gP_pre hPc hDc hK hgl hkn hkr hS hFc⟩ rfl rfl hl.1 rfl (lv_room (Nat.le_of_ble_eq_true rfl)) d_MoPaper_plain_170 ⟨Nat.le_of_ble_eq_true rfl, Nat.le_of_ble_eq_true rfl⟩) hS (fun q _ h => hFc q h) hFc (fun r450' u t H locs ht hvm hr450 hB hz1 hk1 hS => ?_)
                                      subst hr450
                                      rw [ht] at hB
                                      obtain ⟨hP1, hD1⟩ := hB
                                      obtain ⟨hP, hD⟩ := jn_A hP hD [] [0, 1, 2] rfl rfl (by decide) (by decide) hk1 hFc hP1 hD1
                                      obtain ⟨hP, hD⟩ : PD g A H [(nms, .inr (10, [.ref nms_text, .ref nms_from, .ref nms_next, .ref nms_first, .int nms_size, .int nms_texted])), (nms_text, .inl (cs 1, nms_text_n, .inl nms_text_f)), (nms_from, .inl (cs 0, nms_from_n, .inl nms_from_f))] := ⟨hP, hD⟩
                                      refine lv_if_ne hx hb d_MoPaper_plain_173 rfl (fun h451 => ?_) (fun h451 => ?_)
                                      · rw [if_neg h451] at hok
                                        refine lv_iinc (k := 2) (v := x5_372 + 1) hx hb d_MoPaper_plain_178 hl rfl rfl (by decide) rfl (fun ls hl => ?_)
                                        have hl : lv_has ls 8 [(5, .int (x5_372 + 1)), (7, .int 0), (6, .int r374), (4, .int 0), (3, .int r3), (2, .int r1), (0, .ref nms), (1, .int kk)] := hl
                                        refine lv_goto hx hb d_MoPaper_plain_181 rfl ?_
                                        exact ih372 _ _ _ (x5_372 + 1) (lv_sub hl [0, 3, 4, 5, 6, 7] rfl) (sub3 hP hD [0, 1, 2] (by decide)) hS hok
                                      · rw [if_pos h451] at hok
                                        refine lv_iconst (v := 0) hx hb d_MoPaper_plain_176 (by decide) ?_
                                        have hq := Option.some.inj hok
                                        have hq0 := hq
                                        subst hq0
                                        obtain ⟨hP9, hD9⟩ := sub2 (ws' := [(nms, .inr (10, [.ref nms_text, .ref nms_from, .ref nms_next, .ref nms_first, .int nms_size, .int nms_texted])), (nms_text, .inl (cs 1, nms_text_n, .inl nms_text_f)), (nms_from, .inl (cs 0, nms_from_n, .inl nms_from_f))]) hP hD [0, 1, 2] rfl (by decide) rfl
                                        rw [hQ]
                                        exact W.zret (v := 0) hx hb hr rfl (fun t ht hW => ⟨⟨_, (), rfl, rfl, by rw [ht]; exact hP9, hD9⟩, hS.F ht⟩) hS.2.2 d_MoPaper_plain_177
                                    · exact absurd h449 (by decide)
                                  · rw [if_pos h448] at hok
                                    refine lv_iconst (v := 1) hx hb d_MoPaper_plain_148 (by decide) ?_
                                    refine lv_goto hx hb d_MoPaper_plain_149 rfl ?_
                                    refine lv_istore hx hb d_MoPaper_plain_153 hl (by decide) rfl (fun ls hl => ?_)
                                    have hl : lv_has ls 8 [(7, .int 1), (6, .int r374), (5, .int x5_372), (4, .int 0), (3, .int r3), (2, .int r1), (0, .ref nms), (1, .int kk)] := hl
                                    refine lv_iload hx hb d_MoPaper_plain_155 (lv_at hl 3 rfl) ?_
                                    refine lv_if_eq hx hb d_MoPaper_plain_157 rfl (fun h452 => ?_) (fun h452 => ?_)
                                    · refine lv_iload hx hb d_MoPaper_plain_168 (lv_at hl 1 rfl) ?_
                                      obtain ⟨r453, hc453, hok⟩ := bd_some hok
                                      obtain ⟨hPc, hDc, hFc⟩ := cut0 (wc := []) hP hD hS hA [] (by decide) rfl
                                      refine va_calli (va_runS (As := [.int r374]) (rest := []) ⟨hx, hb, hml, hown, hg⟩ (c_MoReader_symbol l g cs ka H.size n r374 r453 hc453) (va_cwS 1 hg (gw_S wd_755 wd_756 wd_754 wd_753) rfl rfl rfl (by decide +kernel) ⟨Nat.le_of_ble_eq_true rfl, Nat.le_of_ble_eq_true rfl⟩) ⟨gP_blind, gP_pre hPc hDc hK hgl hkn hkr hS hFc⟩ rfl rfl hl.1 rfl (lv_room (Nat.le_of_ble_eq_true rfl)) d_MoPaper_plain_170 ⟨Nat.le_of_ble_eq_true rfl, Nat.le_of_ble_eq_true rfl⟩) hS (fun q _ h => hFc q h) hFc (fun r453' u t H locs ht hvm hr453 hB hz1 hk1 hS => ?_)
                                      subst hr453
                                      rw [ht] at hB
                                      obtain ⟨hP1, hD1⟩ := hB
                                      obtain ⟨hP, hD⟩ := jn_A hP hD [] [0, 1, 2] rfl rfl (by decide) (by decide) hk1 hFc hP1 hD1
                                      obtain ⟨hP, hD⟩ : PD g A H [(nms, .inr (10, [.ref nms_text, .ref nms_from, .ref nms_next, .ref nms_first, .int nms_size, .int nms_texted])), (nms_text, .inl (cs 1, nms_text_n, .inl nms_text_f)), (nms_from, .inl (cs 0, nms_from_n, .inl nms_from_f))] := ⟨hP, hD⟩
                                      refine lv_if_ne hx hb d_MoPaper_plain_173 rfl (fun h454 => ?_) (fun h454 => ?_)
                                      · rw [if_neg h454] at hok
                                        refine lv_iinc (k := 2) (v := x5_372 + 1) hx hb d_MoPaper_plain_178 hl rfl rfl (by decide) rfl (fun ls hl => ?_)
                                        have hl : lv_has ls 8 [(5, .int (x5_372 + 1)), (7, .int 1), (6, .int r374), (4, .int 0), (3, .int r3), (2, .int r1), (0, .ref nms), (1, .int kk)] := hl
                                        refine lv_goto hx hb d_MoPaper_plain_181 rfl ?_
                                        exact ih372 _ _ _ (x5_372 + 1) (lv_sub hl [0, 3, 4, 5, 6, 7] rfl) (sub3 hP hD [0, 1, 2] (by decide)) hS hok
                                      · rw [if_pos h454] at hok
                                        refine lv_iconst (v := 0) hx hb d_MoPaper_plain_176 (by decide) ?_
                                        have hq := Option.some.inj hok
                                        have hq0 := hq
                                        subst hq0
                                        obtain ⟨hP9, hD9⟩ := sub2 (ws' := [(nms, .inr (10, [.ref nms_text, .ref nms_from, .ref nms_next, .ref nms_first, .int nms_size, .int nms_texted])), (nms_text, .inl (cs 1, nms_text_n, .inl nms_text_f)), (nms_from, .inl (cs 0, nms_from_n, .inl nms_from_f))]) hP hD [0, 1, 2] rfl (by decide) rfl
                                        rw [hQ]
                                        exact W.zret (v := 0) hx hb hr rfl (fun t ht hW => ⟨⟨_, (), rfl, rfl, by rw [ht]; exact hP9, hD9⟩, hS.F ht⟩) hS.2.2 d_MoPaper_plain_177
                                    · exact absurd h452 (by decide)
                                · rw [if_neg h447] at hok
                                  refine lv_iload hx hb d_MoPaper_plain_134 (lv_at hl 0 rfl) ?_
                                  refine lv_bipush (v := 57) hx hb d_MoPaper_plain_136 (by decide) ?_
                                  refine lv_icmp_le hx hb d_MoPaper_plain_138 rfl (fun h455 => ?_) (fun h455 => ?_)
                                  · rw [if_pos h455] at hok
                                    refine lv_iconst (v := 1) hx hb d_MoPaper_plain_148 (by decide) ?_
                                    refine lv_goto hx hb d_MoPaper_plain_149 rfl ?_
                                    refine lv_istore hx hb d_MoPaper_plain_153 hl (by decide) rfl (fun ls hl => ?_)
                                    have hl : lv_has ls 8 [(7, .int 1), (6, .int r374), (5, .int x5_372), (4, .int 0), (3, .int r3), (2, .int r1), (0, .ref nms), (1, .int kk)] := hl
                                    refine lv_iload hx hb d_MoPaper_plain_155 (lv_at hl 3 rfl) ?_
                                    refine lv_if_eq hx hb d_MoPaper_plain_157 rfl (fun h456 => ?_) (fun h456 => ?_)
                                    · refine lv_iload hx hb d_MoPaper_plain_168 (lv_at hl 1 rfl) ?_
                                      obtain ⟨r457, hc457, hok⟩ := bd_some hok
                                      obtain ⟨hPc, hDc, hFc⟩ := cut0 (wc := []) hP hD hS hA [] (by decide) rfl
                                      refine va_calli (va_runS (As := [.int r374]) (rest := []) ⟨hx, hb, hml, hown, hg⟩ (c_MoReader_symbol l g cs ka H.size n r374 r457 hc457) (va_cwS 1 hg (gw_S wd_755 wd_756 wd_754 wd_753) rfl rfl rfl (by decide +kernel) ⟨Nat.le_of_ble_eq_true rfl, Nat.le_of_ble_eq_true rfl⟩) ⟨gP_blind, gP_pre hPc hDc hK hgl hkn hkr hS hFc⟩ rfl rfl hl.1 rfl (lv_room (Nat.le_of_ble_eq_true rfl)) d_MoPaper_plain_170 ⟨Nat.le_of_ble_eq_true rfl, Nat.le_of_ble_eq_true rfl⟩) hS (fun q _ h => hFc q h) hFc (fun r457' u t H locs ht hvm hr457 hB hz1 hk1 hS => ?_)
                                      subst hr457
                                      rw [ht] at hB
                                      obtain ⟨hP1, hD1⟩ := hB
                                      obtain ⟨hP, hD⟩ := jn_A hP hD [] [0, 1, 2] rfl rfl (by decide) (by decide) hk1 hFc hP1 hD1
                                      obtain ⟨hP, hD⟩ : PD g A H [(nms, .inr (10, [.ref nms_text, .ref nms_from, .ref nms_next, .ref nms_first, .int nms_size, .int nms_texted])), (nms_text, .inl (cs 1, nms_text_n, .inl nms_text_f)), (nms_from, .inl (cs 0, nms_from_n, .inl nms_from_f))] := ⟨hP, hD⟩
                                      refine lv_if_ne hx hb d_MoPaper_plain_173 rfl (fun h458 => ?_) (fun h458 => ?_)
                                      · rw [if_neg h458] at hok
                                        refine lv_iinc (k := 2) (v := x5_372 + 1) hx hb d_MoPaper_plain_178 hl rfl rfl (by decide) rfl (fun ls hl => ?_)
                                        have hl : lv_has ls 8 [(5, .int (x5_372 + 1)), (7, .int 1), (6, .int r374), (4, .int 0), (3, .int r3), (2, .int r1), (0, .ref nms), (1, .int kk)] := hl
                                        refine lv_goto hx hb d_MoPaper_plain_181 rfl ?_
                                        exact ih372 _ _ _ (x5_372 + 1) (lv_sub hl [0, 3, 4, 5, 6, 7] rfl) (sub3 hP hD [0, 1, 2] (by decide)) hS hok
                                      · rw [if_pos h458] at hok
                                        refine lv_iconst (v := 0) hx hb d_MoPaper_plain_176 (by decide) ?_
                                        have hq := Option.some.inj hok
                                        have hq0 := hq
                                        subst hq0
                                        obtain ⟨hP9, hD9⟩ := sub2 (ws' := [(nms, .inr (10, [.ref nms_text, .ref nms_from, .ref nms_next, .ref nms_first, .int nms_size, .int nms_texted])), (nms_text, .inl (cs 1, nms_text_n, .inl nms_text_f)), (nms_from, .inl (cs 0, nms_from_n, .inl nms_from_f))]) hP hD [0, 1, 2] rfl (by decide) rfl
                                        rw [hQ]
                                        exact W.zret (v := 0) hx hb hr rfl (fun t ht hW => ⟨⟨_, (), rfl, rfl, by rw [ht]; exact hP9, hD9⟩, hS.F ht⟩) hS.2.2 d_MoPaper_plain_177
                                    · exact absurd h456 (by decide)
                                  · rw [if_neg h455] at hok
                                    refine lv_iload hx hb d_MoPaper_plain_141 (lv_at hl 0 rfl) ?_
                                    refine lv_bipush (v := 95) hx hb d_MoPaper_plain_143 (by decide) ?_
                                    refine lv_icmp_ne hx hb d_MoPaper_plain_145 rfl (fun h459 => ?_) (fun h459 => ?_)
                                    · rw [if_neg h459] at hok
                                      refine lv_iconst (v := 0) hx hb d_MoPaper_plain_152 (by decide) ?_
                                      refine lv_istore hx hb d_MoPaper_plain_153 hl (by decide) rfl (fun ls hl => ?_)
                                      have hl : lv_has ls 8 [(7, .int 0), (6, .int r374), (5, .int x5_372), (4, .int 0), (3, .int r3), (2, .int r1), (0, .ref nms), (1, .int kk)] := hl
                                      refine lv_iload hx hb d_MoPaper_plain_155 (lv_at hl 3 rfl) ?_
                                      refine lv_if_eq hx hb d_MoPaper_plain_157 rfl (fun h460 => ?_) (fun h460 => ?_)
                                      · refine lv_iload hx hb d_MoPaper_plain_168 (lv_at hl 1 rfl) ?_
                                        obtain ⟨r461, hc461, hok⟩ := bd_some hok
                                        obtain ⟨hPc, hDc, hFc⟩ := cut0 (wc := []) hP hD hS hA [] (by decide) rfl
                                        refine va_calli (va_runS (As := [.int r374]) (rest := []) ⟨hx, hb, hml, hown, hg⟩ (c_MoReader_symbol l g cs ka H.size n r374 r461 hc461) (va_cwS 1 hg (gw_S wd_755 wd_756 wd_754 wd_753) rfl rfl rfl (by decide +kernel) ⟨Nat.le_of_ble_eq_true rfl, Nat.le_of_ble_eq_true rfl⟩) ⟨gP_blind, gP_pre hPc hDc hK hgl hkn hkr hS hFc⟩ rfl rfl hl.1 rfl (lv_room (Nat.le_of_ble_eq_true rfl)) d_MoPaper_plain_170 ⟨Nat.le_of_ble_eq_true rfl, Nat.le_of_ble_eq_true rfl⟩) hS (fun q _ h => hFc q h) hFc (fun r461' u t H locs ht hvm hr461 hB hz1 hk1 hS => ?_)
                                        subst hr461
                                        rw [ht] at hB
                                        obtain ⟨hP1, hD1⟩ := hB
                                        obtain ⟨hP, hD⟩ := jn_A hP hD [] [0, 1, 2] rfl rfl (by decide) (by decide) hk1 hFc hP1 hD1
                                        obtain ⟨hP, hD⟩ : PD g A H [(nms, .inr (10, [.ref nms_text, .ref nms_from, .ref nms_next, .ref nms_first, .int nms_size, .int nms_texted])), (nms_text, .inl (cs 1, nms_text_n, .inl nms_text_f)), (nms_from, .inl (cs 0, nms_from_n, .inl nms_from_f))] := ⟨hP, hD⟩
                                        refine lv_if_ne hx hb d_MoPaper_plain_173 rfl (fun h462 => ?_) (fun h462 => ?_)
                                        · rw [if_neg h462] at hok
                                          refine lv_iinc (k := 2) (v := x5_372 + 1) hx hb d_MoPaper_plain_178 hl rfl rfl (by decide) rfl (fun ls hl => ?_)
                                          have hl : lv_has ls 8 [(5, .int (x5_372 + 1)), (7, .int 0), (6, .int r374), (4, .int 0), (3, .int r3), (2, .int r1), (0, .ref nms), (1, .int kk)] := hl
                                          refine lv_goto hx hb d_MoPaper_plain_181 rfl ?_
                                          exact ih372 _ _ _ (x5_372 + 1) (lv_sub hl [0, 3, 4, 5, 6, 7] rfl) (sub3 hP hD [0, 1, 2] (by decide)) hS hok
                                        · rw [if_pos h462] at hok
                                          refine lv_iconst (v := 0) hx hb d_MoPaper_plain_176 (by decide) ?_
                                          have hq := Option.some.inj hok
                                          have hq0 := hq
                                          subst hq0
                                          obtain ⟨hP9, hD9⟩ := sub2 (ws' := [(nms, .inr (10, [.ref nms_text, .ref nms_from, .ref nms_next, .ref nms_first, .int nms_size, .int nms_texted])), (nms_text, .inl (cs 1, nms_text_n, .inl nms_text_f)), (nms_from, .inl (cs 0, nms_from_n, .inl nms_from_f))]) hP hD [0, 1, 2] rfl (by decide) rfl
                                          rw [hQ]
                                          exact W.zret (v := 0) hx hb hr rfl (fun t ht hW => ⟨⟨_, (), rfl, rfl, by rw [ht]; exact hP9, hD9⟩, hS.F ht⟩) hS.2.2 d_MoPaper_plain_177
                                      · exact absurd h460 (by decide)
                                    · rw [if_pos h459] at hok
                                      refine lv_iconst (v := 1) hx hb d_MoPaper_plain_148 (by decide) ?_
                                      refine lv_goto hx hb d_MoPaper_plain_149 rfl ?_
                                      refine lv_istore hx hb d_MoPaper_plain_153 hl (by decide) rfl (fun ls hl => ?_)
                                      have hl : lv_has ls 8 [(7, .int 1), (6, .int r374), (5, .int x5_372), (4, .int 0), (3, .int r3), (2, .int r1), (0, .ref nms), (1, .int kk)] := hl
                                      refine lv_iload hx hb d_MoPaper_plain_155 (lv_at hl 3 rfl) ?_
                                      refine lv_if_eq hx hb d_MoPaper_plain_157 rfl (fun h463 => ?_) (fun h463 => ?_)
                                      · refine lv_iload hx hb d_MoPaper_plain_168 (lv_at hl 1 rfl) ?_
                                        obtain ⟨r464, hc464, hok⟩ := bd_some hok
                                        obtain ⟨hPc, hDc, hFc⟩ := cut0 (wc := []) hP hD hS hA [] (by decide) rfl
                                        refine va_calli (va_runS (As := [.int r374]) (rest := []) ⟨hx, hb, hml, hown, hg⟩ (c_MoReader_symbol l g cs ka H.size n r374 r464 hc464) (va_cwS 1 hg (gw_S wd_755 wd_756 wd_754 wd_753) rfl rfl rfl (by decide +kernel) ⟨Nat.le_of_ble_eq_true rfl, Nat.le_of_ble_eq_true rfl⟩) ⟨gP_blind, gP_pre hPc hDc hK hgl hkn hkr hS hFc⟩ rfl rfl hl.1 rfl (lv_room (Nat.le_of_ble_eq_true rfl)) d_MoPaper_plain_170 ⟨Nat.le_of_ble_eq_true rfl, Nat.le_of_ble_eq_true rfl⟩) hS (fun q _ h => hFc q h) hFc (fun r464' u t H locs ht hvm hr464 hB hz1 hk1 hS => ?_)
                                        subst hr464
                                        rw [ht] at hB
                                        obtain ⟨hP1, hD1⟩ := hB
                                        obtain ⟨hP, hD⟩ := jn_A hP hD [] [0, 1, 2] rfl rfl (by decide) (by decide) hk1 hFc hP1 hD1
                                        obtain ⟨hP, hD⟩ : PD g A H [(nms, .inr (10, [.ref nms_text, .ref nms_from, .ref nms_next, .ref nms_first, .int nms_size, .int nms_texted])), (nms_text, .inl (cs 1, nms_text_n, .inl nms_text_f)), (nms_from, .inl (cs 0, nms_from_n, .inl nms_from_f))] := ⟨hP, hD⟩
                                        refine lv_if_ne hx hb d_MoPaper_plain_173 rfl (fun h465 => ?_) (fun h465 => ?_)
                                        · rw [if_neg h465] at hok
                                          refine lv_iinc (k := 2) (v := x5_372 + 1) hx hb d_MoPaper_plain_178 hl rfl rfl (by decide) rfl (fun ls hl => ?_)
                                          have hl : lv_has ls 8 [(5, .int (x5_372 + 1)), (7, .int 1), (6, .int r374), (4, .int 0), (3, .int r3), (2, .int r1), (0, .ref nms), (1, .int kk)] := hl
                                          refine lv_goto hx hb d_MoPaper_plain_181 rfl ?_
                                          exact ih372 _ _ _ (x5_372 + 1) (lv_sub hl [0, 3, 4, 5, 6, 7] rfl) (sub3 hP hD [0, 1, 2] (by decide)) hS hok
                                        · rw [if_pos h465] at hok
                                          refine lv_iconst (v := 0) hx hb d_MoPaper_plain_176 (by decide) ?_
                                          have hq := Option.some.inj hok
                                          have hq0 := hq
                                          subst hq0
                                          obtain ⟨hP9, hD9⟩ := sub2 (ws' := [(nms, .inr (10, [.ref nms_text, .ref nms_from, .ref nms_next, .ref nms_first, .int nms_size, .int nms_texted])), (nms_text, .inl (cs 1, nms_text_n, .inl nms_text_f)), (nms_from, .inl (cs 0, nms_from_n, .inl nms_from_f))]) hP hD [0, 1, 2] rfl (by decide) rfl
                                          rw [hQ]
                                          exact W.zret (v := 0) hx hb hr rfl (fun t ht hW => ⟨⟨_, (), rfl, rfl, by rw [ht]; exact hP9, hD9⟩, hS.F ht⟩) hS.2.2 d_MoPaper_plain_177
                                      · exact absurd h463 (by decide)
                  exact J372 n H locs ls (0 : Int32) hl ⟨hP, hD⟩ hS hok
                · rw [if_neg h371] at hok
                  refine lv_iconst (v := 1) hx hb d_MoPaper_plain_74 (by decide) ?_
                  refine lv_goto hx hb d_MoPaper_plain_75 rfl ?_
                  refine lv_istore hx hb d_MoPaper_plain_79 hl (by decide) rfl (fun ls hl => ?_)
                  have hl : lv_has ls 8 [(4, .int 1), (3, .int r3), (2, .int r1), (0, .ref nms), (1, .int kk)] := hl
                  refine lv_iconst (v := 0) hx hb d_MoPaper_plain_81 (by decide) ?_
                  refine lv_istore hx hb d_MoPaper_plain_82 hl (by decide) rfl (fun ls hl => ?_)
                  have hl : lv_has ls 8 [(5, .int 0), (4, .int 1), (3, .int r3), (2, .int r1), (0, .ref nms), (1, .int kk)] := hl
                  have J466 : ∀ (kf466 : Nat) (H : Heap) (locs : List Loc) (ls : Array Slot) (x5_466 : Int32), lv_has ls 8 [(5, .int x5_466), (4, .int 1), (3, .int r3), (2, .int r1), (0, .ref nms), (1, .int kk)] → PD g A H [(nms, .inr (10, [.ref nms_text, .ref nms_from, .ref nms_next, .ref nms_first, .int nms_size, .int nms_texted])), (nms_text, .inl (cs 1, nms_text_n, .inl nms_text_f)), (nms_from, .inl (cs 0, nms_from_n, .inl nms_from_f))] → va_S A s.heap H locs → p_MoPaper_plain_84_466 n kk nms_size nms_texted nms_text_n nms_text_f nms_from_n nms_from_f r1 kf466 x5_466 = some r → W p l e (headSpec (.code y_MoPaper_plain b_MoPaper_plain 8 (some .boolean) :: GW) { frames := 5, cells := 0, slots := 0, locals := 111 }).room s m ([.ref nms, .int kk] : List Value).toArray below meth c H locs 0 0 Q (F0 m 84 ls []) := by
                    intro kf466
                    induction kf466 with
                    | zero => intro H locs ls x5_466 hl ⟨hP, hD⟩ hS hok; rw [p_MoPaper_plain_84_466] at hok; cases hok
                    | succ kf466 ih466 =>
                      intro H locs ls x5_466 hl ⟨hP, hD⟩ hS hok
                      rw [p_MoPaper_plain_84_466] at hok
                      refine lv_iload hx hb d_MoPaper_plain_84 (lv_at hl 0 rfl) ?_
                      refine lv_iload_n hx hb d_MoPaper_plain_86 rfl (lv_at hl 3 rfl) ?_
                      refine lv_icmp_ge hx hb d_MoPaper_plain_87 rfl (fun h467 => ?_) (fun h467 => ?_)
                      · rw [if_pos h467] at hok
                        refine lv_iconst (v := 1) hx hb d_MoPaper_plain_184 (by decide) ?_
                        have hq := Option.some.inj hok
                        have hq0 := hq
                        subst hq0
                        obtain ⟨hP9, hD9⟩ := sub2 (ws' := [(nms, .inr (10, [.ref nms_text, .ref nms_from, .ref nms_next, .ref nms_first, .int nms_size, .int nms_texted])), (nms_text, .inl (cs 1, nms_text_n, .inl nms_text_f)), (nms_from, .inl (cs 0, nms_from_n, .inl nms_from_f))]) hP hD [0, 1, 2] rfl (by decide) rfl
                        rw [hQ]
                        exact W.zret (v := 1) hx hb hr rfl (fun t ht hW => ⟨⟨_, (), rfl, rfl, by rw [ht]; exact hP9, hD9⟩, hS.F ht⟩) hS.2.2 d_MoPaper_plain_185
                      · rw [if_neg h467] at hok
                        refine lv_aload_n hx hb d_MoPaper_plain_90 rfl (lv_at hl 4 rfl) ?_
                        refine lv_iload_n hx hb d_MoPaper_plain_91 rfl (lv_at hl 5 rfl) ?_
                        refine lv_iload hx hb d_MoPaper_plain_92 (lv_at hl 0 rfl) ?_
                        obtain ⟨r468, hc468, hok⟩ := bd_some hok
                        obtain ⟨hPc, hDc, hFc⟩ := cut0 (wc := [(nms, .inr (10, [.ref nms_text, .ref nms_from, .ref nms_next, .ref nms_first, .int nms_size, .int nms_texted])), (nms_text, .inl (cs 1, nms_text_n, .inl nms_text_f)), (nms_from, .inl (cs 0, nms_from_n, .inl nms_from_f))]) hP hD hS hA [0, 1, 2] (by decide) rfl
                        refine va_calli (va_runV (As := [.int kk, .int x5_466]) (rest := []) ⟨hx, hb, hml, hown, hg⟩ (c_MoNames_at l g cs ka nms_next nms_first nms nms_text nms_from H.size kk x5_466 nms_size nms_texted nms_text_n nms_text_f nms_from_n nms_from_f r468 hc468) (cwV (C := R_MoNames) 2 hg (gw_V wd_748 wd_728 wd_729 wd_717 wd_726) rfl rfl rfl (by decide +kernel) ⟨Nat.le_of_ble_eq_true rfl, Nat.le_of_ble_eq_true rfl⟩) ⟨gP_blind, va_recv (q0 := 0) (ci := 10) (q := (R_MoNames, F_MoNames, 6)) hK hP rfl rfl, gP_pre hPc hDc hK hgl hkn hkr hS hFc⟩ rfl rfl hl.1 rfl (lv_room (Nat.le_of_ble_eq_true rfl)) d_MoPaper_plain_94 ⟨Nat.le_of_ble_eq_true rfl, Nat.le_of_ble_eq_true rfl⟩) hS (fun q _ h => hFc q h) hFc (fun r468' u t H locs ht hvm hr468 hB hz1 hk1 hS => ?_)
                        subst hr468
                        rw [ht] at hB
                        obtain ⟨hP1, hD1⟩ := hB
                        obtain ⟨hP, hD⟩ := jn_A hP hD [0, 1, 2] [] rfl rfl (by decide) (by decide) hk1 hFc hP1 hD1
                        obtain ⟨hP, hD⟩ : PD g A H [(nms, .inr (10, [.ref nms_text, .ref nms_from, .ref nms_next, .ref nms_first, .int nms_size, .int nms_texted])), (nms_text, .inl (cs 1, nms_text_n, .inl nms_text_f)), (nms_from, .inl (cs 0, nms_from_n, .inl nms_from_f))] := ⟨hP, hD⟩
                        refine lv_istore hx hb d_MoPaper_plain_97 hl (by decide) rfl (fun ls hl => ?_)
                        have hl : lv_has ls 8 [(6, .int r468), (5, .int x5_466), (4, .int 1), (3, .int r3), (2, .int r1), (0, .ref nms), (1, .int kk)] := hl
                        refine lv_iload hx hb d_MoPaper_plain_99 (lv_at hl 0 rfl) ?_
                        refine lv_bipush (v := 97) hx hb d_MoPaper_plain_101 (by decide) ?_
                        refine lv_icmp_lt hx hb d_MoPaper_plain_103 rfl (fun h469 => ?_) (fun h469 => ?_)
                        · rw [if_pos h469] at hok
                          refine lv_iload hx hb d_MoPaper_plain_113 (lv_at hl 0 rfl) ?_
                          refine lv_bipush (v := 65) hx hb d_MoPaper_plain_115 (by decide) ?_
                          refine lv_icmp_lt hx hb d_MoPaper_plain_117 rfl (fun h470 => ?_) (fun h470 => ?_)
                          · rw [if_pos h470] at hok
                            refine lv_iload hx hb d_MoPaper_plain_127 (lv_at hl 0 rfl) ?_
                            refine lv_bipush (v := 48) hx hb d_MoPaper_plain_129 (by decide) ?_
                            refine lv_icmp_lt hx hb d_MoPaper_plain_131 rfl (fun h471 => ?_) (fun h471 => ?_)
                            · rw [if_pos h471] at hok
                              refine lv_iload hx hb d_MoPaper_plain_141 (lv_at hl 0 rfl) ?_
                              refine lv_bipush (v := 95) hx hb d_MoPaper_plain_143 (by decide) ?_
                              refine lv_icmp_ne hx hb d_MoPaper_plain_145 rfl (fun h472 => ?_) (fun h472 => ?_)
                              · rw [if_neg h472] at hok
                                refine lv_iconst (v := 0) hx hb d_MoPaper_plain_152 (by decide) ?_
                                refine lv_istore hx hb d_MoPaper_plain_153 hl (by decide) rfl (fun ls hl => ?_)
                                have hl : lv_has ls 8 [(7, .int 0), (6, .int r468), (5, .int x5_466), (4, .int 1), (3, .int r3), (2, .int r1), (0, .ref nms), (1, .int kk)] := hl
                                refine lv_iload hx hb d_MoPaper_plain_155 (lv_at hl 3 rfl) ?_
                                refine lv_if_eq hx hb d_MoPaper_plain_157 rfl (fun h473 => ?_) (fun h473 => ?_)
                                · exact absurd h473 (by decide)
                                · refine lv_iload hx hb d_MoPaper_plain_160 (lv_at hl 0 rfl) ?_
                                  refine lv_if_ne hx hb d_MoPaper_plain_162 rfl (fun h474 => ?_) (fun h474 => ?_)
                                  · exact absurd h474 (by decide)
                                  · refine lv_goto hx hb d_MoPaper_plain_165 rfl ?_
                                    refine lv_iconst (v := 0) hx hb d_MoPaper_plain_176 (by decide) ?_
                                    have hq := Option.some.inj hok
                                    have hq0 := hq
                                    subst hq0
                                    obtain ⟨hP9, hD9⟩ := sub2 (ws' := [(nms, .inr (10, [.ref nms_text, .ref nms_from, .ref nms_next, .ref nms_first, .int nms_size, .int nms_texted])), (nms_text, .inl (cs 1, nms_text_n, .inl nms_text_f)), (nms_from, .inl (cs 0, nms_from_n, .inl nms_from_f))]) hP hD [0, 1, 2] rfl (by decide) rfl
                                    rw [hQ]
                                    exact W.zret (v := 0) hx hb hr rfl (fun t ht hW => ⟨⟨_, (), rfl, rfl, by rw [ht]; exact hP9, hD9⟩, hS.F ht⟩) hS.2.2 d_MoPaper_plain_177
                              · rw [if_pos h472] at hok
                                refine lv_iconst (v := 1) hx hb d_MoPaper_plain_148 (by decide) ?_
                                refine lv_goto hx hb d_MoPaper_plain_149 rfl ?_
                                refine lv_istore hx hb d_MoPaper_plain_153 hl (by decide) rfl (fun ls hl => ?_)
                                have hl : lv_has ls 8 [(7, .int 1), (6, .int r468), (5, .int x5_466), (4, .int 1), (3, .int r3), (2, .int r1), (0, .ref nms), (1, .int kk)] := hl
                                refine lv_iload hx hb d_MoPaper_plain_155 (lv_at hl 3 rfl) ?_
                                refine lv_if_eq hx hb d_MoPaper_plain_157 rfl (fun h475 => ?_) (fun h475 => ?_)
                                · exact absurd h475 (by decide)
                                · refine lv_iload hx hb d_MoPaper_plain_160 (lv_at hl 0 rfl) ?_
                                  refine lv_if_ne hx hb d_MoPaper_plain_162 rfl (fun h476 => ?_) (fun h476 => ?_)
                                  · refine lv_iinc (k := 2) (v := x5_466 + 1) hx hb d_MoPaper_plain_178 hl rfl rfl (by decide) rfl (fun ls hl => ?_)
                                    have hl : lv_has ls 8 [(5, .int (x5_466 + 1)), (7, .int 1), (6, .int r468), (4, .int 1), (3, .int r3), (2, .int r1), (0, .ref nms), (1, .int kk)] := hl
                                    refine lv_goto hx hb d_MoPaper_plain_181 rfl ?_
                                    exact ih466 _ _ _ (x5_466 + 1) (lv_sub hl [0, 3, 4, 5, 6, 7] rfl) (sub3 hP hD [0, 1, 2] (by decide)) hS hok
                                  · exact absurd h476 (by decide)
                            · rw [if_neg h471] at hok
                              refine lv_iload hx hb d_MoPaper_plain_134 (lv_at hl 0 rfl) ?_
                              refine lv_bipush (v := 57) hx hb d_MoPaper_plain_136 (by decide) ?_
                              refine lv_icmp_le hx hb d_MoPaper_plain_138 rfl (fun h477 => ?_) (fun h477 => ?_)
                              · rw [if_pos h477] at hok
                                refine lv_iconst (v := 1) hx hb d_MoPaper_plain_148 (by decide) ?_
                                refine lv_goto hx hb d_MoPaper_plain_149 rfl ?_
                                refine lv_istore hx hb d_MoPaper_plain_153 hl (by decide) rfl (fun ls hl => ?_)
                                have hl : lv_has ls 8 [(7, .int 1), (6, .int r468), (5, .int x5_466), (4, .int 1), (3, .int r3), (2, .int r1), (0, .ref nms), (1, .int kk)] := hl
                                refine lv_iload hx hb d_MoPaper_plain_155 (lv_at hl 3 rfl) ?_
                                refine lv_if_eq hx hb d_MoPaper_plain_157 rfl (fun h478 => ?_) (fun h478 => ?_)
                                · exact absurd h478 (by decide)
                                · refine lv_iload hx hb d_MoPaper_plain_160 (lv_at hl 0 rfl) ?_
                                  refine lv_if_ne hx hb d_MoPaper_plain_162 rfl (fun h479 => ?_) (fun h479 => ?_)
                                  · refine lv_iinc (k := 2) (v := x5_466 + 1) hx hb d_MoPaper_plain_178 hl rfl rfl (by decide) rfl (fun ls hl => ?_)
                                    have hl : lv_has ls 8 [(5, .int (x5_466 + 1)), (7, .int 1), (6, .int r468), (4, .int 1), (3, .int r3), (2, .int r1), (0, .ref nms), (1, .int kk)] := hl
                                    refine lv_goto hx hb d_MoPaper_plain_181 rfl ?_
                                    exact ih466 _ _ _ (x5_466 + 1) (lv_sub hl [0, 3, 4, 5, 6, 7] rfl) (sub3 hP hD [0, 1, 2] (by decide)) hS hok
                                  · exact absurd h479 (by decide)
                              · rw [if_neg h477] at hok
                                refine lv_iload hx hb d_MoPaper_plain_141 (lv_at hl 0 rfl) ?_
                                refine lv_bipush (v := 95) hx hb d_MoPaper_plain_143 (by decide) ?_
                                refine lv_icmp_ne hx hb d_MoPaper_plain_145 rfl (fun h480 => ?_) (fun h480 => ?_)
                                · rw [if_neg h480] at hok
                                  refine lv_iconst (v := 0) hx hb d_MoPaper_plain_152 (by decide) ?_
                                  refine lv_istore hx hb d_MoPaper_plain_153 hl (by decide) rfl (fun ls hl => ?_)
                                  have hl : lv_has ls 8 [(7, .int 0), (6, .int r468), (5, .int x5_466), (4, .int 1), (3, .int r3), (2, .int r1), (0, .ref nms), (1, .int kk)] := hl
                                  refine lv_iload hx hb d_MoPaper_plain_155 (lv_at hl 3 rfl) ?_
                                  refine lv_if_eq hx hb d_MoPaper_plain_157 rfl (fun h481 => ?_) (fun h481 => ?_)
                                  · exact absurd h481 (by decide)
                                  · refine lv_iload hx hb d_MoPaper_plain_160 (lv_at hl 0 rfl) ?_
                                    refine lv_if_ne hx hb d_MoPaper_plain_162 rfl (fun h482 => ?_) (fun h482 => ?_)
                                    · exact absurd h482 (by decide)
                                    · refine lv_goto hx hb d_MoPaper_plain_165 rfl ?_
                                      refine lv_iconst (v := 0) hx hb d_MoPaper_plain_176 (by decide) ?_
                                      have hq := Option.some.inj hok
                                      have hq0 := hq
                                      subst hq0
                                      obtain ⟨hP9, hD9⟩ := sub2 (ws' := [(nms, .inr (10, [.ref nms_text, .ref nms_from, .ref nms_next, .ref nms_first, .int nms_size, .int nms_texted])), (nms_text, .inl (cs 1, nms_text_n, .inl nms_text_f)), (nms_from, .inl (cs 0, nms_from_n, .inl nms_from_f))]) hP hD [0, 1, 2] rfl (by decide) rfl
                                      rw [hQ]
                                      exact W.zret (v := 0) hx hb hr rfl (fun t ht hW => ⟨⟨_, (), rfl, rfl, by rw [ht]; exact hP9, hD9⟩, hS.F ht⟩) hS.2.2 d_MoPaper_plain_177
                                · rw [if_pos h480] at hok
                                  refine lv_iconst (v := 1) hx hb d_MoPaper_plain_148 (by decide) ?_
                                  refine lv_goto hx hb d_MoPaper_plain_149 rfl ?_
                                  refine lv_istore hx hb d_MoPaper_plain_153 hl (by decide) rfl (fun ls hl => ?_)
                                  have hl : lv_has ls 8 [(7, .int 1), (6, .int r468), (5, .int x5_466), (4, .int 1), (3, .int r3), (2, .int r1), (0, .ref nms), (1, .int kk)] := hl
                                  refine lv_iload hx hb d_MoPaper_plain_155 (lv_at hl 3 rfl) ?_
                                  refine lv_if_eq hx hb d_MoPaper_plain_157 rfl (fun h483 => ?_) (fun h483 => ?_)
                                  · exact absurd h483 (by decide)
                                  · refine lv_iload hx hb d_MoPaper_plain_160 (lv_at hl 0 rfl) ?_
                                    refine lv_if_ne hx hb d_MoPaper_plain_162 rfl (fun h484 => ?_) (fun h484 => ?_)
                                    · refine lv_iinc (k := 2) (v := x5_466 + 1) hx hb d_MoPaper_plain_178 hl rfl rfl (by decide) rfl (fun ls hl => ?_)
                                      have hl : lv_has ls 8 [(5, .int (x5_466 + 1)), (7, .int 1), (6, .int r468), (4, .int 1), (3, .int r3), (2, .int r1), (0, .ref nms), (1, .int kk)] := hl
                                      refine lv_goto hx hb d_MoPaper_plain_181 rfl ?_
                                      exact ih466 _ _ _ (x5_466 + 1) (lv_sub hl [0, 3, 4, 5, 6, 7] rfl) (sub3 hP hD [0, 1, 2] (by decide)) hS hok
                                    · exact absurd h484 (by decide)
                          · rw [if_neg h470] at hok
                            refine lv_iload hx hb d_MoPaper_plain_120 (lv_at hl 0 rfl) ?_
                            refine lv_bipush (v := 90) hx hb d_MoPaper_plain_122 (by decide) ?_
                            refine lv_icmp_le hx hb d_MoPaper_plain_124 rfl (fun h485 => ?_) (fun h485 => ?_)
                            · rw [if_pos h485] at hok
                              refine lv_iconst (v := 1) hx hb d_MoPaper_plain_148 (by decide) ?_
                              refine lv_goto hx hb d_MoPaper_plain_149 rfl ?_
                              refine lv_istore hx hb d_MoPaper_plain_153 hl (by decide) rfl (fun ls hl => ?_)
                              have hl : lv_has ls 8 [(7, .int 1), (6, .int r468), (5, .int x5_466), (4, .int 1), (3, .int r3), (2, .int r1), (0, .ref nms), (1, .int kk)] := hl
                              refine lv_iload hx hb d_MoPaper_plain_155 (lv_at hl 3 rfl) ?_
                              refine lv_if_eq hx hb d_MoPaper_plain_157 rfl (fun h486 => ?_) (fun h486 => ?_)
                              · exact absurd h486 (by decide)
                              · refine lv_iload hx hb d_MoPaper_plain_160 (lv_at hl 0 rfl) ?_
                                refine lv_if_ne hx hb d_MoPaper_plain_162 rfl (fun h487 => ?_) (fun h487 => ?_)
                                · refine lv_iinc (k := 2) (v := x5_466 + 1) hx hb d_MoPaper_plain_178 hl rfl rfl (by decide) rfl (fun ls hl => ?_)
                                  have hl : lv_has ls 8 [(5, .int (x5_466 + 1)), (7, .int 1), (6, .int r468), (4, .int 1), (3, .int r3), (2, .int r1), (0, .ref nms), (1, .int kk)] := hl
                                  refine lv_goto hx hb d_MoPaper_plain_181 rfl ?_
                                  exact ih466 _ _ _ (x5_466 + 1) (lv_sub hl [0, 3, 4, 5, 6, 7] rfl) (sub3 hP hD [0, 1, 2] (by decide)) hS hok
                                · exact absurd h487 (by decide)
                            · rw [if_neg h485] at hok
                              refine lv_iload hx hb d_MoPaper_plain_127 (lv_at hl 0 rfl) ?_
                              refine lv_bipush (v := 48) hx hb d_MoPaper_plain_129 (by decide) ?_
                              refine lv_icmp_lt hx hb d_MoPaper_plain_131 rfl (fun h488 => ?_) (fun h488 => ?_)
                              · rw [if_pos h488] at hok
                                refine lv_iload hx hb d_MoPaper_plain_141 (lv_at hl 0 rfl) ?_
                                refine lv_bipush (v := 95) hx hb d_MoPaper_plain_143 (by decide) ?_
                                refine lv_icmp_ne hx hb d_MoPaper_plain_145 rfl (fun h489 => ?_) (fun h489 => ?_)
                                · rw [if_neg h489] at hok
                                  refine lv_iconst (v := 0) hx hb d_MoPaper_plain_152 (by decide) ?_
                                  refine lv_istore hx hb d_MoPaper_plain_153 hl (by decide) rfl (fun ls hl => ?_)
                                  have hl : lv_has ls 8 [(7, .int 0), (6, .int r468), (5, .int x5_466), (4, .int 1), (3, .int r3), (2, .int r1), (0, .ref nms), (1, .int kk)] := hl
                                  refine lv_iload hx hb d_MoPaper_plain_155 (lv_at hl 3 rfl) ?_
                                  refine lv_if_eq hx hb d_MoPaper_plain_157 rfl (fun h490 => ?_) (fun h490 => ?_)
                                  · exact absurd h490 (by decide)
                                  · refine lv_iload hx hb d_MoPaper_plain_160 (lv_at hl 0 rfl) ?_
                                    refine lv_if_ne hx hb d_MoPaper_plain_162 rfl (fun h491 => ?_) (fun h491 => ?_)
                                    · exact absurd h491 (by decide)
                                    · refine lv_goto hx hb d_MoPaper_plain_165 rfl ?_
                                      refine lv_iconst (v := 0) hx hb d_MoPaper_plain_176 (by decide) ?_
                                      have hq := Option.some.inj hok
                                      have hq0 := hq
                                      subst hq0
                                      obtain ⟨hP9, hD9⟩ := sub2 (ws' := [(nms, .inr (10, [.ref nms_text, .ref nms_from, .ref nms_next, .ref nms_first, .int nms_size, .int nms_texted])), (nms_text, .inl (cs 1, nms_text_n, .inl nms_text_f)), (nms_from, .inl (cs 0, nms_from_n, .inl nms_from_f))]) hP hD [0, 1, 2] rfl (by decide) rfl
                                      rw [hQ]
                                      exact W.zret (v := 0) hx hb hr rfl (fun t ht hW => ⟨⟨_, (), rfl, rfl, by rw [ht]; exact hP9, hD9⟩, hS.F ht⟩) hS.2.2 d_MoPaper_plain_177
                                · rw [if_pos h489] at hok
                                  refine lv_iconst (v := 1) hx hb d_MoPaper_plain_148 (by decide) ?_
                                  refine lv_goto hx hb d_MoPaper_plain_149 rfl ?_
                                  refine lv_istore hx hb d_MoPaper_plain_153 hl (by decide) rfl (fun ls hl => ?_)
                                  have hl : lv_has ls 8 [(7, .int 1), (6, .int r468), (5, .int x5_466), (4, .int 1), (3, .int r3), (2, .int r1), (0, .ref nms), (1, .int kk)] := hl
                                  refine lv_iload hx hb d_MoPaper_plain_155 (lv_at hl 3 rfl) ?_
                                  refine lv_if_eq hx hb d_MoPaper_plain_157 rfl (fun h492 => ?_) (fun h492 => ?_)
                                  · exact absurd h492 (by decide)
                                  · refine lv_iload hx hb d_MoPaper_plain_160 (lv_at hl 0 rfl) ?_
                                    refine lv_if_ne hx hb d_MoPaper_plain_162 rfl (fun h493 => ?_) (fun h493 => ?_)
                                    · refine lv_iinc (k := 2) (v := x5_466 + 1) hx hb d_MoPaper_plain_178 hl rfl rfl (by decide) rfl (fun ls hl => ?_)
                                      have hl : lv_has ls 8 [(5, .int (x5_466 + 1)), (7, .int 1), (6, .int r468), (4, .int 1), (3, .int r3), (2, .int r1), (0, .ref nms), (1, .int kk)] := hl
                                      refine lv_goto hx hb d_MoPaper_plain_181 rfl ?_
                                      exact ih466 _ _ _ (x5_466 + 1) (lv_sub hl [0, 3, 4, 5, 6, 7] rfl) (sub3 hP hD [0, 1, 2] (by decide)) hS hok
                                    · exact absurd h493 (by decide)
                              · rw [if_neg h488] at hok
                                refine lv_iload hx hb d_MoPaper_plain_134 (lv_at hl 0 rfl) ?_
                                refine lv_bipush (v := 57) hx hb d_MoPaper_plain_136 (by decide) ?_
                                refine lv_icmp_le hx hb d_MoPaper_plain_138 rfl (fun h494 => ?_) (fun h494 => ?_)
                                · rw [if_pos h494] at hok
                                  refine lv_iconst (v := 1) hx hb d_MoPaper_plain_148 (by decide) ?_
                                  refine lv_goto hx hb d_MoPaper_plain_149 rfl ?_
                                  refine lv_istore hx hb d_MoPaper_plain_153 hl (by decide) rfl (fun ls hl => ?_)
                                  have hl : lv_has ls 8 [(7, .int 1), (6, .int r468), (5, .int x5_466), (4, .int 1), (3, .int r3), (2, .int r1), (0, .ref nms), (1, .int kk)] := hl
                                  refine lv_iload hx hb d_MoPaper_plain_155 (lv_at hl 3 rfl) ?_
                                  refine lv_if_eq hx hb d_MoPaper_plain_157 rfl (fun h495 => ?_) (fun h495 => ?_)
                                  · exact absurd h495 (by decide)
                                  · refine lv_iload hx hb d_MoPaper_plain_160 (lv_at hl 0 rfl) ?_
                                    refine lv_if_ne hx hb d_MoPaper_plain_162 rfl (fun h496 => ?_) (fun h496 => ?_)
                                    · refine lv_iinc (k := 2) (v := x5_466 + 1) hx hb d_MoPaper_plain_178 hl rfl rfl (by decide) rfl (fun ls hl => ?_)
                                      have hl : lv_has ls 8 [(5, .int (x5_466 + 1)), (7, .int 1), (6, .int r468), (4, .int 1), (3, .int r3), (2, .int r1), (0, .ref nms), (1, .int kk)] := hl
                                      refine lv_goto hx hb d_MoPaper_plain_181 rfl ?_
                                      exact ih466 _ _ _ (x5_466 + 1) (lv_sub hl [0, 3, 4, 5, 6, 7] rfl) (sub3 hP hD [0, 1, 2] (by decide)) hS hok
                                    · exact absurd h496 (by decide)
                                · rw [if_neg h494] at hok
                                  refine lv_iload hx hb d_MoPaper_plain_141 (lv_at hl 0 rfl) ?_
                                  refine lv_bipush (v := 95) hx hb d_MoPaper_plain_143 (by decide) ?_
                                  refine lv_icmp_ne hx hb d_MoPaper_plain_145 rfl (fun h497 => ?_) (fun h497 => ?_)
                                  · rw [if_neg h497] at hok
                                    refine lv_iconst (v := 0) hx hb d_MoPaper_plain_152 (by decide) ?_
                                    refine lv_istore hx hb d_MoPaper_plain_153 hl (by decide) rfl (fun ls hl => ?_)
                                    have hl : lv_has ls 8 [(7, .int 0), (6, .int r468), (5, .int x5_466), (4, .int 1), (3, .int r3), (2, .int r1), (0, .ref nms), (1, .int kk)] := hl
                                    refine lv_iload hx hb d_MoPaper_plain_155 (lv_at hl 3 rfl) ?_
                                    refine lv_if_eq hx hb d_MoPaper_plain_157 rfl (fun h498 => ?_) (fun h498 => ?_)
                                    · exact absurd h498 (by decide)
                                    · refine lv_iload hx hb d_MoPaper_plain_160 (lv_at hl 0 rfl) ?_
                                      refine lv_if_ne hx hb d_MoPaper_plain_162 rfl (fun h499 => ?_) (fun h499 => ?_)
                                      · exact absurd h499 (by decide)
                                      · refine lv_goto hx hb d_MoPaper_plain_165 rfl ?_
                                        refine lv_iconst (v := 0) hx hb d_MoPaper_plain_176 (by decide) ?_
                                        have hq := Option.some.inj hok
                                        have hq0 := hq
                                        subst hq0
                                        obtain ⟨hP9, hD9⟩ := sub2 (ws' := [(nms, .inr (10, [.ref nms_text, .ref nms_from, .ref nms_next, .ref nms_first, .int nms_size, .int nms_texted])), (nms_text, .inl (cs 1, nms_text_n, .inl nms_text_f)), (nms_from, .inl (cs 0, nms_from_n, .inl nms_from_f))]) hP hD [0, 1, 2] rfl (by decide) rfl
                                        rw [hQ]
                                        exact W.zret (v := 0) hx hb hr rfl (fun t ht hW => ⟨⟨_, (), rfl, rfl, by rw [ht]; exact hP9, hD9⟩, hS.F ht⟩) hS.2.2 d_MoPaper_plain_177
                                  · rw [if_pos h497] at hok
                                    refine lv_iconst (v := 1) hx hb d_MoPaper_plain_148 (by decide) ?_
                                    refine lv_goto hx hb d_MoPaper_plain_149 rfl ?_
                                    refine lv_istore hx hb d_MoPaper_plain_153 hl (by decide) rfl (fun ls hl => ?_)
                                    have hl : lv_has ls 8 [(7, .int 1), (6, .int r468), (5, .int x5_466), (4, .int 1), (3, .int r3), (2, .int r1), (0, .ref nms), (1, .int kk)] := hl
                                    refine lv_iload hx hb d_MoPaper_plain_155 (lv_at hl 3 rfl) ?_
                                    refine lv_if_eq hx hb d_MoPaper_plain_157 rfl (fun h500 => ?_) (fun h500 => ?_)
                                    · exact absurd h500 (by decide)
                                    · refine lv_iload hx hb d_MoPaper_plain_160 (lv_at hl 0 rfl) ?_
                                      refine lv_if_ne hx hb d_MoPaper_plain_162 rfl (fun h501 => ?_) (fun h501 => ?_)
                                      · refine lv_iinc (k := 2) (v := x5_466 + 1) hx hb d_MoPaper_plain_178 hl rfl rfl (by decide) rfl (fun ls hl => ?_)
                                        have hl : lv_has ls 8 [(5, .int (x5_466 + 1)), (7, .int 1), (6, .int r468), (4, .int 1), (3, .int r3), (2, .int r1), (0, .ref nms), (1, .int kk)] := hl
                                        refine lv_goto hx hb d_MoPaper_plain_181 rfl ?_
                                        exact ih466 _ _ _ (x5_466 + 1) (lv_sub hl [0, 3, 4, 5, 6, 7] rfl) (sub3 hP hD [0, 1, 2] (by decide)) hS hok
                                      · exact absurd h501 (by decide)
                        · rw [if_neg h469] at hok
                          refine lv_iload hx hb d_MoPaper_plain_106 (lv_at hl 0 rfl) ?_
                          refine lv_bipush (v := 122) hx hb d_MoPaper_plain_108 (by decide) ?_
                          refine lv_icmp_le hx hb d_MoPaper_plain_110 rfl (fun h502 => ?_) (fun h502 => ?_)
                          · rw [if_pos h502] at hok
                            refine lv_iconst (v := 1) hx hb d_MoPaper_plain_148 (by decide) ?_
                            refine lv_goto hx hb d_MoPaper_plain_149 rfl ?_
                            refine lv_istore hx hb d_MoPaper_plain_153 hl (by decide) rfl (fun ls hl => ?_)
                            have hl : lv_has ls 8 [(7, .int 1), (6, .int r468), (5, .int x5_466), (4, .int 1), (3, .int r3), (2, .int r1), (0, .ref nms), (1, .int kk)] := hl
                            refine lv_iload hx hb d_MoPaper_plain_155 (lv_at hl 3 rfl) ?_
                            refine lv_if_eq hx hb d_MoPaper_plain_157 rfl (fun h503 => ?_) (fun h503 => ?_)
                            · exact absurd h503 (by decide)
                            · refine lv_iload hx hb d_MoPaper_plain_160 (lv_at hl 0 rfl) ?_
                              refine lv_if_ne hx hb d_MoPaper_plain_162 rfl (fun h504 => ?_) (fun h504 => ?_)
                              · refine lv_iinc (k := 2) (v := x5_466 + 1) hx hb d_MoPaper_plain_178 hl rfl rfl (by decide) rfl (fun ls hl => ?_)
                                have hl : lv_has ls 8 [(5, .int (x5_466 + 1)), (7, .int 1), (6, .int r468), (4, .int 1), (3, .int r3), (2, .int r1), (0, .ref nms), (1, .int kk)] := hl
                                refine lv_goto hx hb d_MoPaper_plain_181 rfl ?_
                                exact ih466 _ _ _ (x5_466 + 1) (lv_sub hl [0, 3, 4, 5, 6, 7] rfl) (sub3 hP hD [0, 1, 2] (by decide)) hS hok
                              · exact absurd h504 (by decide)
                          · rw [if_neg h502] at hok
                            refine lv_iload hx hb d_MoPaper_plain_113 (lv_at hl 0 rfl) ?_
                            refine lv_bipush (v := 65) hx hb d_MoPaper_plain_115 (by decide) ?_
                            refine lv_icmp_lt hx hb d_MoPaper_plain_117 rfl (fun h505 => ?_) (fun h505 => ?_)
                            · rw [if_pos h505] at hok
                              refine lv_iload hx hb d_MoPaper_plain_127 (lv_at hl 0 rfl) ?_
                              refine lv_bipush (v := 48) hx hb d_MoPaper_plain_129 (by decide) ?_
                              refine lv_icmp_lt hx hb d_MoPaper_plain_131 rfl (fun h506 => ?_) (fun h506 => ?_)
                              · rw [if_pos h506] at hok
                                refine lv_iload hx hb d_MoPaper_plain_141 (lv_at hl 0 rfl) ?_
                                refine lv_bipush (v := 95) hx hb d_MoPaper_plain_143 (by decide) ?_
                                refine lv_icmp_ne hx hb d_MoPaper_plain_145 rfl (fun h507 => ?_) (fun h507 => ?_)
                                · rw [if_neg h507] at hok
                                  refine lv_iconst (v := 0) hx hb d_MoPaper_plain_152 (by decide) ?_
                                  refine lv_istore hx hb d_MoPaper_plain_153 hl (by decide) rfl (fun ls hl => ?_)
                                  have hl : lv_has ls 8 [(7, .int 0), (6, .int r468), (5, .int x5_466), (4, .int 1), (3, .int r3), (2, .int r1), (0, .ref nms), (1, .int kk)] := hl
                                  refine lv_iload hx hb d_MoPaper_plain_155 (lv_at hl 3 rfl) ?_
                                  refine lv_if_eq hx hb d_MoPaper_plain_157 rfl (fun h508 => ?_) (fun h508 => ?_)
                                  · exact absurd h508 (by decide)
                                  · refine lv_iload hx hb d_MoPaper_plain_160 (lv_at hl 0 rfl) ?_
                                    refine lv_if_ne hx hb d_MoPaper_plain_162 rfl (fun h509 => ?_) (fun h509 => ?_)
                                    · exact absurd h509 (by decide)
                                    · refine lv_goto hx hb d_MoPaper_plain_165 rfl ?_
                                      refine lv_iconst (v := 0) hx hb d_MoPaper_plain_176 (by decide) ?_
                                      have hq := Option.some.inj hok
                                      have hq0 := hq
                                      subst hq0
                                      obtain ⟨hP9, hD9⟩ := sub2 (ws' := [(nms, .inr (10, [.ref nms_text, .ref nms_from, .ref nms_next, .ref nms_first, .int nms_size, .int nms_texted])), (nms_text, .inl (cs 1, nms_text_n, .inl nms_text_f)), (nms_from, .inl (cs 0, nms_from_n, .inl nms_from_f))]) hP hD [0, 1, 2] rfl (by decide) rfl
                                      rw [hQ]
                                      exact W.zret (v := 0) hx hb hr rfl (fun t ht hW => ⟨⟨_, (), rfl, rfl, by rw [ht]; exact hP9, hD9⟩, hS.F ht⟩) hS.2.2 d_MoPaper_plain_177
                                · rw [if_pos h507] at hok
                                  refine lv_iconst (v := 1) hx hb d_MoPaper_plain_148 (by decide) ?_
                                  refine lv_goto hx hb d_MoPaper_plain_149 rfl ?_
                                  refine lv_istore hx hb d_MoPaper_plain_153 hl (by decide) rfl (fun ls hl => ?_)
                                  have hl : lv_has ls 8 [(7, .int 1), (6, .int r468), (5, .int x5_466), (4, .int 1), (3, .int r3), (2, .int r1), (0, .ref nms), (1, .int kk)] := hl
                                  refine lv_iload hx hb d_MoPaper_plain_155 (lv_at hl 3 rfl) ?_
                                  refine lv_if_eq hx hb d_MoPaper_plain_157 rfl (fun h510 => ?_) (fun h510 => ?_)
                                  · exact absurd h510 (by decide)
                                  · refine lv_iload hx hb d_MoPaper_plain_160 (lv_at hl 0 rfl) ?_
                                    refine lv_if_ne hx hb d_MoPaper_plain_162 rfl (fun h511 => ?_) (fun h511 => ?_)
                                    · refine lv_iinc (k := 2) (v := x5_466 + 1) hx hb d_MoPaper_plain_178 hl rfl rfl (by decide) rfl (fun ls hl => ?_)
                                      have hl : lv_has ls 8 [(5, .int (x5_466 + 1)), (7, .int 1), (6, .int r468), (4, .int 1), (3, .int r3), (2, .int r1), (0, .ref nms), (1, .int kk)] := hl
                                      refine lv_goto hx hb d_MoPaper_plain_181 rfl ?_
                                      exact ih466 _ _ _ (x5_466 + 1) (lv_sub hl [0, 3, 4, 5, 6, 7] rfl) (sub3 hP hD [0, 1, 2] (by decide)) hS hok
                                    · exact absurd h511 (by decide)
                              · rw [if_neg h506] at hok
                                refine lv_iload hx hb d_MoPaper_plain_134 (lv_at hl 0 rfl) ?_
                                refine lv_bipush (v := 57) hx hb d_MoPaper_plain_136 (by decide) ?_
                                refine lv_icmp_le hx hb d_MoPaper_plain_138 rfl (fun h512 => ?_) (fun h512 => ?_)
                                · rw [if_pos h512] at hok
                                  refine lv_iconst (v := 1) hx hb d_MoPaper_plain_148 (by decide) ?_
                                  refine lv_goto hx hb d_MoPaper_plain_149 rfl ?_
                                  refine lv_istore hx hb d_MoPaper_plain_153 hl (by decide) rfl (fun ls hl => ?_)
                                  have hl : lv_has ls 8 [(7, .int 1), (6, .int r468), (5, .int x5_466), (4, .int 1), (3, .int r3), (2, .int r1), (0, .ref nms), (1, .int kk)] := hl
                                  refine lv_iload hx hb d_MoPaper_plain_155 (lv_at hl 3 rfl) ?_
                                  refine lv_if_eq hx hb d_MoPaper_plain_157 rfl (fun h513 => ?_) (fun h513 => ?_)
                                  · exact absurd h513 (by decide)
                                  · refine lv_iload hx hb d_MoPaper_plain_160 (lv_at hl 0 rfl) ?_
                                    refine lv_if_ne hx hb d_MoPaper_plain_162 rfl (fun h514 => ?_) (fun h514 => ?_)
                                    · refine lv_iinc (k := 2) (v := x5_466 + 1) hx hb d_MoPaper_plain_178 hl rfl rfl (by decide) rfl (fun ls hl => ?_)
                                      have hl : lv_has ls 8 [(5, .int (x5_466 + 1)), (7, .int 1), (6, .int r468), (4, .int 1), (3, .int r3), (2, .int r1), (0, .ref nms), (1, .int kk)] := hl
                                      refine lv_goto hx hb d_MoPaper_plain_181 rfl ?_
                                      exact ih466 _ _ _ (x5_466 + 1) (lv_sub hl [0, 3, 4, 5, 6, 7] rfl) (sub3 hP hD [0, 1, 2] (by decide)) hS hok
                                    · exact absurd h514 (by decide)
                                · rw [if_neg h512] at hok
                                  refine lv_iload hx hb d_MoPaper_plain_141 (lv_at hl 0 rfl) ?_
                                  refine lv_bipush (v := 95) hx hb d_MoPaper_plain_143 (by decide) ?_
                                  refine lv_icmp_ne hx hb d_MoPaper_plain_145 rfl (fun h515 => ?_) (fun h515 => ?_)
                                  · rw [if_neg h515] at hok
                                    refine lv_iconst (v := 0) hx hb d_MoPaper_plain_152 (by decide) ?_
                                    refine lv_istore hx hb d_MoPaper_plain_153 hl (by decide) rfl (fun ls hl => ?_)
                                    have hl : lv_has ls 8 [(7, .int 0), (6, .int r468), (5, .int x5_466), (4, .int 1), (3, .int r3), (2, .int r1), (0, .ref nms), (1, .int kk)] := hl
                                    refine lv_iload hx hb d_MoPaper_plain_155 (lv_at hl 3 rfl) ?_
                                    refine lv_if_eq hx hb d_MoPaper_plain_157 rfl (fun h516 => ?_) (fun h516 => ?_)
                                    · exact absurd h516 (by decide)
                                    · refine lv_iload hx hb d_MoPaper_plain_160 (lv_at hl 0 rfl) ?_
                                      refine lv_if_ne hx hb d_MoPaper_plain_162 rfl (fun h517 => ?_) (fun h517 => ?_)
                                      · exact absurd h517 (by decide)
                                      · refine lv_goto hx hb d_MoPaper_plain_165 rfl ?_
                                        refine lv_iconst (v := 0) hx hb d_MoPaper_plain_176 (by decide) ?_
                                        have hq := Option.some.inj hok
                                        have hq0 := hq
                                        subst hq0
                                        obtain ⟨hP9, hD9⟩ := sub2 (ws' := [(nms, .inr (10, [.ref nms_text, .ref nms_from, .ref nms_next, .ref nms_first, .int nms_size, .int nms_texted])), (nms_text, .inl (cs 1, nms_text_n, .inl nms_text_f)), (nms_from, .inl (cs 0, nms_from_n, .inl nms_from_f))]) hP hD [0, 1, 2] rfl (by decide) rfl
                                        rw [hQ]
                                        exact W.zret (v := 0) hx hb hr rfl (fun t ht hW => ⟨⟨_, (), rfl, rfl, by rw [ht]; exact hP9, hD9⟩, hS.F ht⟩) hS.2.2 d_MoPaper_plain_177
                                  · rw [if_pos h515] at hok
                                    refine lv_iconst (v := 1) hx hb d_MoPaper_plain_148 (by decide) ?_
                                    refine lv_goto hx hb d_MoPaper_plain_149 rfl ?_
                                    refine lv_istore hx hb d_MoPaper_plain_153 hl (by decide) rfl (fun ls hl => ?_)
                                    have hl : lv_has ls 8 [(7, .int 1), (6, .int r468), (5, .int x5_466), (4, .int 1), (3, .int r3), (2, .int r1), (0, .ref nms), (1, .int kk)] := hl
                                    refine lv_iload hx hb d_MoPaper_plain_155 (lv_at hl 3 rfl) ?_
                                    refine lv_if_eq hx hb d_MoPaper_plain_157 rfl (fun h518 => ?_) (fun h518 => ?_)
                                    · exact absurd h518 (by decide)
                                    · refine lv_iload hx hb d_MoPaper_plain_160 (lv_at hl 0 rfl) ?_
                                      refine lv_if_ne hx hb d_MoPaper_plain_162 rfl (fun h519 => ?_) (fun h519 => ?_)
                                      · refine lv_iinc (k := 2) (v := x5_466 + 1) hx hb d_MoPaper_plain_178 hl rfl rfl (by decide) rfl (fun ls hl => ?_)
                                        have hl : lv_has ls 8 [(5, .int (x5_466 + 1)), (7, .int 1), (6, .int r468), (4, .int 1), (3, .int r3), (2, .int r1), (0, .ref nms), (1, .int kk)] := hl
                                        refine lv_goto hx hb d_MoPaper_plain_181 rfl ?_
                                        exact ih466 _ _ _ (x5_466 + 1) (lv_sub hl [0, 3, 4, 5, 6, 7] rfl) (sub3 hP hD [0, 1, 2] (by decide)) hS hok
                                      · exact absurd h519 (by decide)
                            · rw [if_neg h505] at hok
                              refine lv_iload hx hb d_MoPaper_plain_120 (lv_at hl 0 rfl) ?_
                              refine lv_bipush (v := 90) hx hb d_MoPaper_plain_122 (by decide) ?_
                              refine lv_icmp_le hx hb d_MoPaper_plain_124 rfl (fun h520 => ?_) (fun h520 => ?_)
                              · rw [if_pos h520] at hok
                                refine lv_iconst (v := 1) hx hb d_MoPaper_plain_148 (by decide) ?_
                                refine lv_goto hx hb d_MoPaper_plain_149 rfl ?_
                                refine lv_istore hx hb d_MoPaper_plain_153 hl (by decide) rfl (fun ls hl => ?_)
                                have hl : lv_has ls 8 [(7, .int 1), (6, .int r468), (5, .int x5_466), (4, .int 1), (3, .int r3), (2, .int r1), (0, .ref nms), (1, .int kk)] := hl
                                refine lv_iload hx hb d_MoPaper_plain_155 (lv_at hl 3 rfl) ?_
                                refine lv_if_eq hx hb d_MoPaper_plain_157 rfl (fun h521 => ?_) (fun h521 => ?_)
                                · exact absurd h521 (by decide)
                                · refine lv_iload hx hb d_MoPaper_plain_160 (lv_at hl 0 rfl) ?_
                                  refine lv_if_ne hx hb d_MoPaper_plain_162 rfl (fun h522 => ?_) (fun h522 => ?_)
                                  · refine lv_iinc (k := 2) (v := x5_466 + 1) hx hb d_MoPaper_plain_178 hl rfl rfl (by decide) rfl (fun ls hl => ?_)
                                    have hl : lv_has ls 8 [(5, .int (x5_466 + 1)), (7, .int 1), (6, .int r468), (4, .int 1), (3, .int r3), (2, .int r1), (0, .ref nms), (1, .int kk)] := hl
                                    refine lv_goto hx hb d_MoPaper_plain_181 rfl ?_
                                    exact ih466 _ _ _ (x5_466 + 1) (lv_sub hl [0, 3, 4, 5, 6, 7] rfl) (sub3 hP hD [0, 1, 2] (by decide)) hS hok
                                  · exact absurd h522 (by decide)
                              · rw [if_neg h520] at hok
                                refine lv_iload hx hb d_MoPaper_plain_127 (lv_at hl 0 rfl) ?_
                                refine lv_bipush (v := 48) hx hb d_MoPaper_plain_129 (by decide) ?_
                                refine lv_icmp_lt hx hb d_MoPaper_plain_131 rfl (fun h523 => ?_) (fun h523 => ?_)
                                · rw [if_pos h523] at hok
                                  refine lv_iload hx hb d_MoPaper_plain_141 (lv_at hl 0 rfl) ?_
                                  refine lv_bipush (v := 95) hx hb d_MoPaper_plain_143 (by decide) ?_
                                  refine lv_icmp_ne hx hb d_MoPaper_plain_145 rfl (fun h524 => ?_) (fun h524 => ?_)
                                  · rw [if_neg h524] at hok
                                    refine lv_iconst (v := 0) hx hb d_MoPaper_plain_152 (by decide) ?_
                                    refine lv_istore hx hb d_MoPaper_plain_153 hl (by decide) rfl (fun ls hl => ?_)
                                    have hl : lv_has ls 8 [(7, .int 0), (6, .int r468), (5, .int x5_466), (4, .int 1), (3, .int r3), (2, .int r1), (0, .ref nms), (1, .int kk)] := hl
                                    refine lv_iload hx hb d_MoPaper_plain_155 (lv_at hl 3 rfl) ?_
                                    refine lv_if_eq hx hb d_MoPaper_plain_157 rfl (fun h525 => ?_) (fun h525 => ?_)
                                    · exact absurd h525 (by decide)
                                    · refine lv_iload hx hb d_MoPaper_plain_160 (lv_at hl 0 rfl) ?_
                                      refine lv_if_ne hx hb d_MoPaper_plain_162 rfl (fun h526 => ?_) (fun h526 => ?_)
                                      · exact absurd h526 (by decide)
                                      · refine lv_goto hx hb d_MoPaper_plain_165 rfl ?_
                                        refine lv_iconst (v := 0) hx hb d_MoPaper_plain_176 (by decide) ?_
                                        have hq := Option.some.inj hok
                                        have hq0 := hq
                                        subst hq0
                                        obtain ⟨hP9, hD9⟩ := sub2 (ws' := [(nms, .inr (10, [.ref nms_text, .ref nms_from, .ref nms_next, .ref nms_first, .int nms_size, .int nms_texted])), (nms_text, .inl (cs 1, nms_text_n, .inl nms_text_f)), (nms_from, .inl (cs 0, nms_from_n, .inl nms_from_f))]) hP hD [0, 1, 2] rfl (by decide) rfl
                                        rw [hQ]
                                        exact W.zret (v := 0) hx hb hr rfl (fun t ht hW => ⟨⟨_, (), rfl, rfl, by rw [ht]; exact hP9, hD9⟩, hS.F ht⟩) hS.2.2 d_MoPaper_plain_177
                                  · rw [if_pos h524] at hok
                                    refine lv_iconst (v := 1) hx hb d_MoPaper_plain_148 (by decide) ?_
                                    refine lv_goto hx hb d_MoPaper_plain_149 rfl ?_
                                    refine lv_istore hx hb d_MoPaper_plain_153 hl (by decide) rfl (fun ls hl => ?_)
                                    have hl : lv_has ls 8 [(7, .int 1), (6, .int r468), (5, .int x5_466), (4, .int 1), (3, .int r3), (2, .int r1), (0, .ref nms), (1, .int kk)] := hl
                                    refine lv_iload hx hb d_MoPaper_plain_155 (lv_at hl 3 rfl) ?_
                                    refine lv_if_eq hx hb d_MoPaper_plain_157 rfl (fun h527 => ?_) (fun h527 => ?_)
                                    · exact absurd h527 (by decide)
                                    · refine lv_iload hx hb d_MoPaper_plain_160 (lv_at hl 0 rfl) ?_
                                      refine lv_if_ne hx hb d_MoPaper_plain_162 rfl (fun h528 => ?_) (fun h528 => ?_)
                                      · refine lv_iinc (k := 2) (v := x5_466 + 1) hx hb d_MoPaper_plain_178 hl rfl rfl (by decide) rfl (fun ls hl => ?_)
                                        have hl : lv_has ls 8 [(5, .int (x5_466 + 1)), (7, .int 1), (6, .int r468), (4, .int 1), (3, .int r3), (2, .int r1), (0, .ref nms), (1, .int kk)] := hl
                                        refine lv_goto hx hb d_MoPaper_plain_181 rfl ?_
                                        exact ih466 _ _ _ (x5_466 + 1) (lv_sub hl [0, 3, 4, 5, 6, 7] rfl) (sub3 hP hD [0, 1, 2] (by decide)) hS hok
                                      · exact absurd h528 (by decide)
                                · rw [if_neg h523] at hok
                                  refine lv_iload hx hb d_MoPaper_plain_134 (lv_at hl 0 rfl) ?_
                                  refine lv_bipush (v := 57) hx hb d_MoPaper_plain_136 (by decide) ?_
                                  refine lv_icmp_le hx hb d_MoPaper_plain_138 rfl (fun h529 => ?_) (fun h529 => ?_)
                                  · rw [if_pos h529] at hok
                                    refine lv_iconst (v := 1) hx hb d_MoPaper_plain_148 (by decide) ?_
                                    refine lv_goto hx hb d_MoPaper_plain_149 rfl ?_
                                    refine lv_istore hx hb d_MoPaper_plain_153 hl (by decide) rfl (fun ls hl => ?_)
                                    have hl : lv_has ls 8 [(7, .int 1), (6, .int r468), (5, .int x5_466), (4, .int 1), (3, .int r3), (2, .int r1), (0, .ref nms), (1, .int kk)] := hl
                                    refine lv_iload hx hb d_MoPaper_plain_155 (lv_at hl 3 rfl) ?_
                                    refine lv_if_eq hx hb d_MoPaper_plain_157 rfl (fun h530 => ?_) (fun h530 => ?_)
                                    · exact absurd h530 (by decide)
                                    · refine lv_iload hx hb d_MoPaper_plain_160 (lv_at hl 0 rfl) ?_
                                      refine lv_if_ne hx hb d_MoPaper_plain_162 rfl (fun h531 => ?_) (fun h531 => ?_)
                                      · refine lv_iinc (k := 2) (v := x5_466 + 1) hx hb d_MoPaper_plain_178 hl rfl rfl (by decide) rfl (fun ls hl => ?_)
                                        have hl : lv_has ls 8 [(5, .int (x5_466 + 1)), (7, .int 1), (6, .int r468), (4, .int 1), (3, .int r3), (2, .int r1), (0, .ref nms), (1, .int kk)] := hl
                                        refine lv_goto hx hb d_MoPaper_plain_181 rfl ?_
                                        exact ih466 _ _ _ (x5_466 + 1) (lv_sub hl [0, 3, 4, 5, 6, 7] rfl) (sub3 hP hD [0, 1, 2] (by decide)) hS hok
                                      · exact absurd h531 (by decide)
                                  · rw [if_neg h529] at hok
                                    refine lv_iload hx hb d_MoPaper_plain_141 (lv_at hl 0 rfl) ?_
                                    refine lv_bipush (v := 95) hx hb d_MoPaper_plain_143 (by decide) ?_
                                    refine lv_icmp_ne hx hb d_MoPaper_plain_145 rfl (fun h532 => ?_) (fun h532 => ?_)
                                    · rw [if_neg h532] at hok
                                      refine lv_iconst (v := 0) hx hb d_MoPaper_plain_152 (by decide) ?_
                                      refine lv_istore hx hb d_MoPaper_plain_153 hl (by decide) rfl (fun ls hl => ?_)
                                      have hl : lv_has ls 8 [(7, .int 0), (6, .int r468), (5, .int x5_466), (4, .int 1), (3, .int r3), (2, .int r1), (0, .ref nms), (1, .int kk)] := hl
                                      refine lv_iload hx hb d_MoPaper_plain_155 (lv_at hl 3 rfl) ?_
                                      refine lv_if_eq hx hb d_MoPaper_plain_157 rfl (fun h533 => ?_) (fun h533 => ?_)
                                      · exact absurd h533 (by decide)
                                      · refine lv_iload hx hb d_MoPaper_plain_160 (lv_at hl 0 rfl) ?_
                                        refine lv_if_ne hx hb d_MoPaper_plain_162 rfl (fun h534 => ?_) (fun h534 => ?_)
                                        · exact absurd h534 (by decide)
                                        · refine lv_goto hx hb d_MoPaper_plain_165 rfl ?_
                                          refine lv_iconst (v := 0) hx hb d_MoPaper_plain_176 (by decide) ?_
                                          have hq := Option.some.inj hok
                                          have hq0 := hq
                                          subst hq0
                                          obtain ⟨hP9, hD9⟩ := sub2 (ws' := [(nms, .inr (10, [.ref nms_text, .ref nms_from, .ref nms_next, .ref nms_first, .int nms_size, .int nms_texted])), (nms_text, .inl (cs 1, nms_text_n, .inl nms_text_f)), (nms_from, .inl (cs 0, nms_from_n, .inl nms_from_f))]) hP hD [0, 1, 2] rfl (by decide) rfl
                                          rw [hQ]
                                          exact W.zret (v := 0) hx hb hr rfl (fun t ht hW => ⟨⟨_, (), rfl, rfl, by rw [ht]; exact hP9, hD9⟩, hS.F ht⟩) hS.2.2 d_MoPaper_plain_177
                                    · rw [if_pos h532] at hok
                                      refine lv_iconst (v := 1) hx hb d_MoPaper_plain_148 (by decide) ?_
                                      refine lv_goto hx hb d_MoPaper_plain_149 rfl ?_
                                      refine lv_istore hx hb d_MoPaper_plain_153 hl (by decide) rfl (fun ls hl => ?_)
                                      have hl : lv_has ls 8 [(7, .int 1), (6, .int r468), (5, .int x5_466), (4, .int 1), (3, .int r3), (2, .int r1), (0, .ref nms), (1, .int kk)] := hl
                                      refine lv_iload hx hb d_MoPaper_plain_155 (lv_at hl 3 rfl) ?_
                                      refine lv_if_eq hx hb d_MoPaper_plain_157 rfl (fun h535 => ?_) (fun h535 => ?_)
                                      · exact absurd h535 (by decide)
                                      · refine lv_iload hx hb d_MoPaper_plain_160 (lv_at hl 0 rfl) ?_
                                        refine lv_if_ne hx hb d_MoPaper_plain_162 rfl (fun h536 => ?_) (fun h536 => ?_)
                                        · refine lv_iinc (k := 2) (v := x5_466 + 1) hx hb d_MoPaper_plain_178 hl rfl rfl (by decide) rfl (fun ls hl => ?_)
                                          have hl : lv_has ls 8 [(5, .int (x5_466 + 1)), (7, .int 1), (6, .int r468), (4, .int 1), (3, .int r3), (2, .int r1), (0, .ref nms), (1, .int kk)] := hl
                                          refine lv_goto hx hb d_MoPaper_plain_181 rfl ?_
                                          exact ih466 _ _ _ (x5_466 + 1) (lv_sub hl [0, 3, 4, 5, 6, 7] rfl) (sub3 hP hD [0, 1, 2] (by decide)) hS hok
                                        · exact absurd h536 (by decide)
                  exact J466 n H locs ls (0 : Int32) hl ⟨hP, hD⟩ hS hok
            · rw [if_neg h275] at hok
              refine lv_iconst (v := 0) hx hb d_MoPaper_plain_60 (by decide) ?_
              have hq := Option.some.inj hok
              have hq0 := hq
              subst hq0
              obtain ⟨hP9, hD9⟩ := sub2 (ws' := [(nms, .inr (10, [.ref nms_text, .ref nms_from, .ref nms_next, .ref nms_first, .int nms_size, .int nms_texted])), (nms_text, .inl (cs 1, nms_text_n, .inl nms_text_f)), (nms_from, .inl (cs 0, nms_from_n, .inl nms_from_f))]) hP hD [0, 1, 2] rfl (by decide) rfl
              rw [hQ]
              exact W.zret (v := 0) hx hb hr rfl (fun t ht hW => ⟨⟨_, (), rfl, rfl, by rw [ht]; exact hP9, hD9⟩, hS.F ht⟩) hS.2.2 d_MoPaper_plain_61
          · rw [if_neg h273] at hok
            refine lv_iconst (v := 1) hx hb d_MoPaper_plain_48 (by decide) ?_
            have hq := Option.some.inj hok
            have hq0 := hq
            subst hq0
            obtain ⟨hP9, hD9⟩ := sub2 (ws' := [(nms, .inr (10, [.ref nms_text, .ref nms_from, .ref nms_next, .ref nms_first, .int nms_size, .int nms_texted])), (nms_text, .inl (cs 1, nms_text_n, .inl nms_text_f)), (nms_from, .inl (cs 0, nms_from_n, .inl nms_from_f))]) hP hD [0, 1, 2] rfl (by decide) rfl
            rw [hQ]
            exact W.zret (v := 1) hx hb hr rfl (fun t ht hW => ⟨⟨_, (), rfl, rfl, by rw [ht]; exact hP9, hD9⟩, hS.F ht⟩) hS.2.2 d_MoPaper_plain_49
        · rw [if_pos h271] at hok
          refine lv_iconst (v := 1) hx hb d_MoPaper_plain_36 (by decide) ?_
          have hq := Option.some.inj hok
          have hq0 := hq
          subst hq0
          obtain ⟨hP9, hD9⟩ := sub2 (ws' := [(nms, .inr (10, [.ref nms_text, .ref nms_from, .ref nms_next, .ref nms_first, .int nms_size, .int nms_texted])), (nms_text, .inl (cs 1, nms_text_n, .inl nms_text_f)), (nms_from, .inl (cs 0, nms_from_n, .inl nms_from_f))]) hP hD [0, 1, 2] rfl (by decide) rfl
          rw [hQ]
          exact W.zret (v := 1) hx hb hr rfl (fun t ht hW => ⟨⟨_, (), rfl, rfl, by rw [ht]; exact hP9, hD9⟩, hS.F ht⟩) hS.2.2 d_MoPaper_plain_37
  · rw [if_pos h2] at hok
    refine lv_iconst (v := 0) hx hb d_MoPaper_plain_10 (by decide) ?_
    have hq := Option.some.inj hok
    have hq0 := hq
    subst hq0
    obtain ⟨hP9, hD9⟩ := sub2 (ws' := [(nms, .inr (10, [.ref nms_text, .ref nms_from, .ref nms_next, .ref nms_first, .int nms_size, .int nms_texted])), (nms_text, .inl (cs 1, nms_text_n, .inl nms_text_f)), (nms_from, .inl (cs 0, nms_from_n, .inl nms_from_f))]) hP hD [1, 0, 2] rfl (by decide) rfl
    rw [hQ]
    exact W.zret (v := 0) hx hb hr rfl (fun t ht hW => ⟨⟨_, (), rfl, rfl, by rw [ht]; exact hP9, hD9⟩, hS.F ht⟩) hS.2.2 d_MoPaper_plain_11

theorem d_MoPaper_name_0 : decode b_MoPaper_name 0 = .ok (.aload_n 1, 1) := by decide +kernel
theorem d_MoPaper_name_1 : decode b_MoPaper_name 1 = .ok (.iload_n 2, 1) := by decide +kernel
theorem d_MoPaper_name_2 : decode b_MoPaper_name 2 = .ok (.invokestatic 67, 3) := by decide +kernel
theorem d_MoPaper_name_5 : decode b_MoPaper_name 5 = .ok (.istore_n 3, 1) := by decide +kernel
theorem d_MoPaper_name_6 : decode b_MoPaper_name 6 = .ok (.iload_n 3, 1) := by decide +kernel
theorem d_MoPaper_name_7 : decode b_MoPaper_name 7 = .ok (.ifCond .ne 9, 3) := by decide +kernel
theorem d_MoPaper_name_10 : decode b_MoPaper_name 10 = .ok (.aload_n 0, 1) := by decide +kernel
theorem d_MoPaper_name_11 : decode b_MoPaper_name 11 = .ok (.bipush 39, 2) := by decide +kernel
theorem d_MoPaper_name_13 : decode b_MoPaper_name 13 = .ok (.invokevirtual 33, 3) := by decide +kernel
theorem d_MoPaper_name_16 : decode b_MoPaper_name 16 = .ok (.iconst 0, 1) := by decide +kernel
theorem d_MoPaper_name_17 : decode b_MoPaper_name 17 = .ok (.istore 4, 2) := by decide +kernel
theorem d_MoPaper_name_19 : decode b_MoPaper_name 19 = .ok (.iload 4, 2) := by decide +kernel
theorem d_MoPaper_name_21 : decode b_MoPaper_name 21 = .ok (.aload_n 1, 1) := by decide +kernel
theorem d_MoPaper_name_22 : decode b_MoPaper_name 22 = .ok (.iload_n 2, 1) := by decide +kernel
theorem d_MoPaper_name_23 : decode b_MoPaper_name 23 = .ok (.invokevirtual 43, 3) := by decide +kernel
theorem d_MoPaper_name_26 : decode b_MoPaper_name 26 = .ok (.if_icmp .ge 38, 3) := by decide +kernel
theorem d_MoPaper_name_29 : decode b_MoPaper_name 29 = .ok (.aload_n 1, 1) := by decide +kernel
theorem d_MoPaper_name_30 : decode b_MoPaper_name 30 = .ok (.iload_n 2, 1) := by decide +kernel
theorem d_MoPaper_name_31 : decode b_MoPaper_name 31 = .ok (.iload 4, 2) := by decide +kernel
theorem d_MoPaper_name_33 : decode b_MoPaper_name 33 = .ok (.invokevirtual 49, 3) := by decide +kernel
theorem d_MoPaper_name_36 : decode b_MoPaper_name 36 = .ok (.bipush 39, 2) := by decide +kernel
theorem d_MoPaper_name_38 : decode b_MoPaper_name 38 = .ok (.if_icmp .ne 9, 3) := by decide +kernel
theorem d_MoPaper_name_41 : decode b_MoPaper_name 41 = .ok (.aload_n 0, 1) := by decide +kernel
theorem d_MoPaper_name_42 : decode b_MoPaper_name 42 = .ok (.bipush 39, 2) := by decide +kernel
theorem d_MoPaper_name_44 : decode b_MoPaper_name 44 = .ok (.invokevirtual 33, 3) := by decide +kernel
theorem d_MoPaper_name_47 : decode b_MoPaper_name 47 = .ok (.aload_n 0, 1) := by decide +kernel
theorem d_MoPaper_name_48 : decode b_MoPaper_name 48 = .ok (.aload_n 1, 1) := by decide +kernel
theorem d_MoPaper_name_49 : decode b_MoPaper_name 49 = .ok (.iload_n 2, 1) := by decide +kernel
theorem d_MoPaper_name_50 : decode b_MoPaper_name 50 = .ok (.iload 4, 2) := by decide +kernel
theorem d_MoPaper_name_52 : decode b_MoPaper_name 52 = .ok (.invokevirtual 49, 3) := by decide +kernel
theorem d_MoPaper_name_55 : decode b_MoPaper_name 55 = .ok (.invokevirtual 33, 3) := by decide +kernel
theorem d_MoPaper_name_58 : decode b_MoPaper_name 58 = .ok (.iinc 4 1, 3) := by decide +kernel
theorem d_MoPaper_name_61 : decode b_MoPaper_name 61 = .ok (.goto (-42), 3) := by decide +kernel
theorem d_MoPaper_name_64 : decode b_MoPaper_name 64 = .ok (.iload_n 3, 1) := by decide +kernel
theorem d_MoPaper_name_65 : decode b_MoPaper_name 65 = .ok (.ifCond .ne 9, 3) := by decide +kernel
theorem d_MoPaper_name_68 : decode b_MoPaper_name 68 = .ok (.aload_n 0, 1) := by decide +kernel
theorem d_MoPaper_name_69 : decode b_MoPaper_name 69 = .ok (.bipush 39, 2) := by decide +kernel
theorem d_MoPaper_name_71 : decode b_MoPaper_name 71 = .ok (.invokevirtual 33, 3) := by decide +kernel
theorem d_MoPaper_name_74 : decode b_MoPaper_name 74 = .ok (.return_, 1) := by decide +kernel
def p_MoPaper_name_19 (n : Nat) (kk : Int32) (a_order : Int32) (a_out_n : Nat) (nms_size : Int32) (nms_texted : Int32) (nms_text_n : Nat) (nms_text_f : Nat → Int32) (nms_from_n : Nat) (nms_from_f : Nat → Int32) (r1 : Int32) (kf3 : Nat) (x4_3 : Int32) (a_n_3 : Int32) (a_over_3 : Int32) (a_out_3f : Nat → Int32) : Option (Int32 × Int32 × (Nat → Int32)) := match kf3 with
  | 0 => none
  | kf3 + 1 => (p_MoNames_length kk nms_size nms_texted nms_from_n nms_from_f).bind (fun r4 => if r4 ≤ x4_3 then (if r1 = 0 then ((p_MoPaper_put (39 : Int32) a_n_3 a_over_3 a_order a_out_n a_out_3f).bind (fun (a_n_7, a_over_7, a_out_f_7) => some (a_n_7, a_over_7, a_out_f_7))) else (some (a_n_3, a_over_3, a_out_3f))) else ((p_MoNames_at kk x4_3 nms_size nms_texted nms_text_n nms_text_f nms_from_n nms_from_f).bind (fun r8 => if r8 = 39 then ((p_MoPaper_put (39 : Int32) a_n_3 a_over_3 a_order a_out_n a_out_3f).bind (fun (a_n_12, a_over_12, a_out_f_12) => (p_MoNames_at kk x4_3 nms_size nms_texted nms_text_n nms_text_f nms_from_n nms_from_f).bind (fun r13 => (p_MoPaper_put r13 a_n_12 a_over_12 a_order a_out_n a_out_f_12).bind (fun (a_n_14, a_over_14, a_out_f_14) => p_MoPaper_name_19 n kk a_order a_out_n nms_size nms_texted nms_text_n nms_text_f nms_from_n nms_from_f r1 kf3 (x4_3 + 1) a_n_14 a_over_14 a_out_f_14)))) else ((p_MoNames_at kk x4_3 nms_size nms_texted nms_text_n nms_text_f nms_from_n nms_from_f).bind (fun r10 => (p_MoPaper_put r10 a_n_3 a_over_3 a_order a_out_n a_out_3f).bind (fun (a_n_11, a_over_11, a_out_f_11) => p_MoPaper_name_19 n kk a_order a_out_n nms_size nms_texted nms_text_n nms_text_f nms_from_n nms_from_f r1 kf3 (x4_3 + 1) a_n_11 a_over_11 a_out_f_11))))))
def p_MoPaper_name_19_16 (n : Nat) (kk : Int32) (a_order : Int32) (a_out_n : Nat) (nms_size : Int32) (nms_texted : Int32) (nms_text_n : Nat) (nms_text_f : Nat → Int32) (nms_from_n : Nat) (nms_from_f : Nat → Int32) (r1 : Int32) (kf16 : Nat) (x4_16 : Int32) (a_n_16 : Int32) (a_over_16 : Int32) (a_out_16f : Nat → Int32) : Option (Int32 × Int32 × (Nat → Int32)) := match kf16 with
  | 0 => none
  | kf16 + 1 => (p_MoNames_length kk nms_size nms_texted nms_from_n nms_from_f).bind (fun r17 => if r17 ≤ x4_16 then (if r1 = 0 then ((p_MoPaper_put (39 : Int32) a_n_16 a_over_16 a_order a_out_n a_out_16f).bind (fun (a_n_20, a_over_20, a_out_f_20) => some (a_n_20, a_over_20, a_out_f_20))) else (some (a_n_16, a_over_16, a_out_16f))) else ((p_MoNames_at kk x4_16 nms_size nms_texted nms_text_n nms_text_f nms_from_n nms_from_f).bind (fun r21 => if r21 = 39 then ((p_MoPaper_put (39 : Int32) a_n_16 a_over_16 a_order a_out_n a_out_16f).bind (fun (a_n_25, a_over_25, a_out_f_25) => (p_MoNames_at kk x4_16 nms_size nms_texted nms_text_n nms_text_f nms_from_n nms_from_f).bind (fun r26 => (p_MoPaper_put r26 a_n_25 a_over_25 a_order a_out_n a_out_f_25).bind (fun (a_n_27, a_over_27, a_out_f_27) => p_MoPaper_name_19_16 n kk a_order a_out_n nms_size nms_texted nms_text_n nms_text_f nms_from_n nms_from_f r1 kf16 (x4_16 + 1) a_n_27 a_over_27 a_out_f_27)))) else ((p_MoNames_at kk x4_16 nms_size nms_texted nms_text_n nms_text_f nms_from_n nms_from_f).bind (fun r23 => (p_MoPaper_put r23 a_n_16 a_over_16 a_order a_out_n a_out_16f).bind (fun (a_n_24, a_over_24, a_out_f_24) => p_MoPaper_name_19_16 n kk a_order a_out_n nms_size nms_texted nms_text_n nms_text_f nms_from_n nms_from_f r1 kf16 (x4_16 + 1) a_n_24 a_over_24 a_out_f_24))))))
def p_MoPaper_name (n : Nat) (kk : Int32) (a_n : Int32) (a_over : Int32) (a_order : Int32) (a_out_n : Nat) (a_out_f : Nat → Int32) (nms_size : Int32) (nms_texted : Int32) (nms_text_n : Nat) (nms_text_f : Nat → Int32) (nms_from_n : Nat) (nms_from_f : Nat → Int32) : Option (Int32 × Int32 × (Nat → Int32)) := (p_MoPaper_plain n kk nms_size nms_texted nms_text_n nms_text_f nms_from_n nms_from_f).bind (fun r1 => if r1 = 0 then ((p_MoPaper_put (39 : Int32) a_n a_over a_order a_out_n a_out_f).bind (fun (a_n_15, a_over_15, a_out_f_15) => p_MoPaper_name_19_16 n kk a_order a_out_n nms_size nms_texted nms_text_n nms_text_f nms_from_n nms_from_f r1 n (0 : Int32) a_n_15 a_over_15 a_out_f_15)) else (p_MoPaper_name_19 n kk a_order a_out_n nms_size nms_texted nms_text_n nms_text_f nms_from_n nms_from_f r1 n (0 : Int32) a_n a_over a_out_f))
set_option maxHeartbeats 40000000 in
set_option maxRecDepth 100000 in
theorem c_MoPaper_name (l : Launch) (g : va_G) (cs : Nat → ClassId) (ka : Nat → Nat) (a_walk : Nat) (a_next : Nat) (a_seen : Nat) (nms_next : Nat) (nms_first : Nat) (a a_out nms nms_text nms_from : Nat) (sz : Nat) (n : Nat) (kk : Int32) (a_n : Int32) (a_over : Int32) (a_order : Int32) (a_out_n : Nat) (a_out_f : Nat → Int32) (nms_size : Int32) (nms_texted : Int32) (nms_text_n : Nat) (nms_text_f : Nat → Int32) (nms_from_n : Nat) (nms_from_f : Nat → Int32) (o_a_n : Int32) (o_a_over : Int32) (o_a_out_f : Nat → Int32) (hok : p_MoPaper_name n kk a_n a_over a_order a_out_n a_out_f nms_size nms_texted nms_text_n nms_text_f nms_from_n nms_from_f = some (o_a_n, o_a_over, o_a_out_f)) : Met l y_MoPaper_name (.code y_MoPaper_name b_MoPaper_name 5 none :: GW) { frames := 6, cells := 0, slots := 0, locals := 138 } (va_Pc [.ref a, .ref nms, .int kk] (gP g cs ka [(a, .inr (13, [.ref a_out, .ref a_walk, .ref a_next, .ref a_seen, .int a_n, .int a_over, .int a_order])), (a_out, .inl (cs 1, a_out_n, .inl a_out_f)), (nms, .inr (10, [.ref nms_text, .ref nms_from, .ref nms_next, .ref nms_first, .int nms_size, .int nms_texted])), (nms_text, .inl (cs 1, nms_text_n, .inl nms_text_f)), (nms_from, .inl (cs 0, nms_from_n, .inl nms_from_f))] sz)) (va_Qv (fun _ : Unit => True) (fun _ t => va_P g classes [(a, .inr (13, [.ref a_out, .ref a_walk, .ref a_next, .ref a_seen, .int o_a_n, .int o_a_over, .int a_order])), (a_out, .inl (cs 1, a_out_n, .inl o_a_out_f)), (nms, .inr (10, [.ref nms_text, .ref nms_from, .ref nms_next, .ref nms_first, .int nms_size, .int nms_texted])), (nms_text, .inl (cs 1, nms_text_n, .inl nms_text_f)), (nms_from, .inl (cs 0, nms_from_n, .inl nms_from_f))] t.heap ∧ va_D (va_A [(a, .inr (13, [.ref a_out, .ref a_walk, .ref a_next, .ref a_seen, .int a_n, .int a_over, .int a_order])), (a_out, .inl (cs 1, a_out_n, .inl a_out_f)), (nms, .inr (10, [.ref nms_text, .ref nms_from, .ref nms_next, .ref nms_first, .int nms_size, .int nms_texted])), (nms_text, .inl (cs 1, nms_text_n, .inl nms_text_f)), (nms_from, .inl (cs 0, nms_from_n, .inl nms_from_f))] sz) [(a, .inr (13, [.ref a_out, .ref a_walk, .ref a_next, .ref a_seen, .int o_a_n, .int o_a_over, .int a_order])), (a_out, .inl (cs 1, a_out_n, .inl o_a_out_f)), (nms, .inr (10, [.ref nms_text, .ref nms_from, .ref nms_next, .ref nms_first, .int nms_size, .int nms_texted])), (nms_text, .inl (cs 1, nms_text_n, .inl nms_text_f)), (nms_from, .inl (cs 0, nms_from_n, .inl nms_from_f))]) (va_A [(a, .inr (13, [.ref a_out, .ref a_walk, .ref a_next, .ref a_seen, .int a_n, .int a_over, .int a_order])), (a_out, .inl (cs 1, a_out_n, .inl a_out_f)), (nms, .inr (10, [.ref nms_text, .ref nms_from, .ref nms_next, .ref nms_first, .int nms_size, .int nms_texted])), (nms_text, .inl (cs 1, nms_text_n, .inl nms_text_f)), (nms_from, .inl (cs 0, nms_from_n, .inl nms_from_f))] sz)) 0 0 (va_A [(a, .inr (13, [.ref a_out, .ref a_walk, .ref a_next, .ref a_seen, .int a_n, .int a_over, .int a_order])), (a_out, .inl (cs 1, a_out_n, .inl a_out_f)), (nms, .inr (10, [.ref nms_text, .ref nms_from, .ref nms_next, .ref nms_first, .int nms_size, .int nms_texted])), (nms_text, .inl (cs 1, nms_text_n, .inl nms_text_f)), (nms_from, .inl (cs 0, nms_from_n, .inl nms_from_f))] sz) := by
  refine Met.ofW (cc := b_MoPaper_name) (maxL := 5) (ret := none) (by decide) rfl ?_
  intro p e s m args below meth c s₁ B hml hv
  obtain ⟨rfl, hsz, hP, hK, hD0, hgl, hkn, hkr⟩ := hv
  have hx := B.exec
  have hb := B.bytes
  have hr := B.returns
  have hg : ∀ w ∈ GW, w.before ([.ref a, .ref nms, .int kk] : List Value).toArray s = true := fun w hw => atoms_spec (ws := .code y_MoPaper_name b_MoPaper_name 5 none :: GW) B.pre w (List.mem_cons_of_mem _ hw)
  have hown : s.vm.findClass R_MoPaper = some m.cls := findClass_of_methodNamed B.named
  have hlocks := B.notSynchronized
  subst hsz
  have hD := hD0.self (sz := s.heap.size)
  generalize hAe : va_A [(a, .inr (13, [.ref a_out, .ref a_walk, .ref a_next, .ref a_seen, .int a_n, .int a_over, .int a_order])), (a_out, .inl (cs 1, a_out_n, .inl a_out_f)), (nms, .inr (10, [.ref nms_text, .ref nms_from, .ref nms_next, .ref nms_first, .int nms_size, .int nms_texted])), (nms_text, .inl (cs 1, nms_text_n, .inl nms_text_f)), (nms_from, .inl (cs 0, nms_from_n, .inl nms_from_f))] s.heap.size = A at hD hkn ⊢
  have hA : ∀ q : Nat, s.heap.size ≤ q → A q := fun q h => by rw [← hAe]; exact Or.inr h
  have hS : va_S A s.heap s.heap [] := va_S.rf
  have hP : va_P g classes [(a, .inr (13, [.ref a_out, .ref a_walk, .ref a_next, .ref a_seen, .int a_n, .int a_over, .int a_order])), (a_out, .inl (cs 1, a_out_n, .inl a_out_f)), (nms, .inr (10, [.ref nms_text, .ref nms_from, .ref nms_next, .ref nms_first, .int nms_size, .int nms_texted])), (nms_text, .inl (cs 1, nms_text_n, .inl nms_text_f)), (nms_from, .inl (cs 0, nms_from_n, .inl nms_from_f))] s.heap := hP
  have hl := lv_entry ([.ref a, .ref nms, .int kk]) (n := 5) (Nat.le_of_ble_eq_true rfl)
  rw [lg_entry_eq]
  generalize (lg_sl ([.ref a, .ref nms, .int kk]) ++ List.replicate (5 - (lg_sl ([.ref a, .ref nms, .int kk])).length) Slot.unset).toArray = ls at hl ⊢
  have hl : lv_has ls 5 [(0, .ref a), (1, .ref nms), (2, .int kk)] := hl
  refine gq (fun Q hQ => ?_)
  obtain ⟨H, hH⟩ : ∃ H : Heap, H = s.heap := ⟨_, rfl⟩
  rw [← hH] at hP
  have hS : va_S A s.heap H [] := by rw [hH]; exact hS
  refine W.eqH hH ?_
  obtain ⟨locs, hlc⟩ : ∃ L : List Loc, L = [] := ⟨_, rfl⟩
  rw [← hlc] at hS ⊢
  unfold p_MoPaper_name at hok
  refine lv_aload_n hx hb d_MoPaper_name_0 rfl (lv_at hl 1 rfl) ?_
  refine lv_iload_n hx hb d_MoPaper_name_1 rfl (lv_at hl 2 rfl) ?_
  obtain ⟨r1, hc1, hok⟩ := bd_some hok
  obtain ⟨hPc, hDc, hFc⟩ := cut0 (wc := [(nms, .inr (10, [.ref nms_text, .ref nms_from, .ref nms_next, .ref nms_first, .int nms_size, .int nms_texted])), (nms_text, .inl (cs 1, nms_text_n, .inl nms_text_f)), (nms_from, .inl (cs 0, nms_from_n, .inl nms_from_f))]) hP hD hS hA [2, 3, 4] (by decide) rfl
  refine va_calli (va_runS (As := [.ref nms, .int kk]) (rest := []) ⟨hx, hb, hml, hown, hg⟩ (c_MoPaper_plain l g cs ka nms_next nms_first nms nms_text nms_from H.size n kk nms_size nms_texted nms_text_n nms_text_f nms_from_n nms_from_f r1 hc1) (va_cwS 2 hg (gw_S wd_758 wd_759 wd_742 wd_757) rfl rfl rfl (by decide +kernel) ⟨Nat.le_of_ble_eq_true rfl, Nat.le_of_ble_eq_true rfl⟩) ⟨gP_blind, gP_pre hPc hDc hK hgl hkn hkr hS hFc⟩ rfl rfl hl.1 rfl (lv_room (Nat.le_of_ble_eq_true rfl)) d_MoPaper_name_2 ⟨Nat.le_of_ble_eq_true rfl, Nat.le_of_ble_eq_true rfl⟩) hS (fun q _ h => hFc q h) hFc (fun r1' u t H locs ht hvm hr1 hB hz1 hk1 hS => ?_)
  subst hr1
  rw [ht] at hB
  obtain ⟨hP1, hD1⟩ := hB
  obtain ⟨hP, hD⟩ := jn_A hP hD [2, 3, 4] [0, 1] rfl rfl (by decide) (by decide) hk1 hFc hP1 hD1
  obtain ⟨hP, hD⟩ : PD g A H [(a, .inr (13, [.ref a_out, .ref a_walk, .ref a_next, .ref a_seen, .int a_n, .int a_over, .int a_order])), (a_out, .inl (cs 1, a_out_n, .inl a_out_f)), (nms, .inr (10, [.ref nms_text, .ref nms_from, .ref nms_next, .ref nms_first, .int nms_size, .int nms_texted])), (nms_text, .inl (cs 1, nms_text_n, .inl nms_text_f)), (nms_from, .inl (cs 0, nms_from_n, .inl nms_from_f))] := ⟨hP, hD⟩
  refine lv_istore_n hx hb d_MoPaper_name_5 rfl hl (by decide) rfl (fun ls hl => ?_)
  have hl : lv_has ls 5 [(3, .int r1), (0, .ref a), (1, .ref nms), (2, .int kk)] := hl
  refine lv_iload_n hx hb d_MoPaper_name_6 rfl (lv_at hl 0 rfl) ?_
  refine lv_if_ne hx hb d_MoPaper_name_7 rfl (fun h2 => ?_) (fun h2 => ?_)
  · rw [if_neg h2] at hok
    refine lv_iconst (v := 0) hx hb d_MoPaper_name_16 (by decide) ?_
    refine lv_istore hx hb d_MoPaper_name_17 hl (by decide) rfl (fun ls hl => ?_)
    have hl : lv_has ls 5 [(4, .int 0), (3, .int r1), (0, .ref a), (1, .ref nms), (2, .int kk)] := hl
    have J3 : ∀ (kf3 : Nat) (H : Heap) (locs : List Loc) (ls : Array Slot) (x4_3 : Int32) (a_n_3 : Int32) (a_over_3 : Int32) (a_out_3f : Nat → Int32), lv_has ls 5 [(4, .int x4_3), (3, .int r1), (0, .ref a), (1, .ref nms), (2, .int kk)] → PD g A H [(a, .inr (13, [.ref a_out, .ref a_walk, .ref a_next, .ref a_seen, .int a_n_3, .int a_over_3, .int a_order])), (a_out, .inl (cs 1, a_out_n, .inl a_out_3f)), (nms, .inr (10, [.ref nms_text, .ref nms_from, .ref nms_next, .ref nms_first, .int nms_size, .int nms_texted])), (nms_text, .inl (cs 1, nms_text_n, .inl nms_text_f)), (nms_from, .inl (cs 0, nms_from_n, .inl nms_from_f))] → va_S A s.heap H locs → p_MoPaper_name_19 n kk a_order a_out_n nms_size nms_texted nms_text_n nms_text_f nms_from_n nms_from_f r1 kf3 x4_3 a_n_3 a_over_3 a_out_3f = some (o_a_n, o_a_over, o_a_out_f) → W p l e (headSpec (.code y_MoPaper_name b_MoPaper_name 5 none :: GW) { frames := 6, cells := 0, slots := 0, locals := 138 }).room s m ([.ref a, .ref nms, .int kk] : List Value).toArray below meth c H locs 0 0 Q (F0 m 19 ls []) := by
      intro kf3
      induction kf3 with
      | zero => intro H locs ls x4_3 a_n_3 a_over_3 a_out_3f hl ⟨hP, hD⟩ hS hok; rw [p_MoPaper_name_19] at hok; cases hok
      | succ kf3 ih3 =>
        intro H locs ls x4_3 a_n_3 a_over_3 a_out_3f hl ⟨hP, hD⟩ hS hok
        rw [p_MoPaper_name_19] at hok
        refine lv_iload hx hb d_MoPaper_name_19 (lv_at hl 0 rfl) ?_
        refine lv_aload_n hx hb d_MoPaper_name_21 rfl (lv_at hl 3 rfl) ?_
        refine lv_iload_n hx hb d_MoPaper_name_22 rfl (lv_at hl 4 rfl) ?_
        obtain ⟨r4, hc4, hok⟩ := bd_some hok
        obtain ⟨hPc, hDc, hFc⟩ := cut0 (wc := [(nms, .inr (10, [.ref nms_text, .ref nms_from, .ref nms_next, .ref nms_first, .int nms_size, .int nms_texted])), (nms_from, .inl (cs 0, nms_from_n, .inl nms_from_f))]) hP hD hS hA [2, 4] (by decide) rfl
        refine va_calli (va_runV (As := [.int kk]) (rest := [.int x4_3]) ⟨hx, hb, hml, hown, hg⟩ (c_MoNames_length l g cs ka nms_text nms_next nms_first nms nms_from H.size kk nms_size nms_texted nms_from_n nms_from_f r4 hc4) (cwV (C := R_MoNames) 1 hg (gw_V wd_747 wd_723 wd_724 wd_717 wd_721) rfl rfl rfl (by decide +kernel) ⟨Nat.le_of_ble_eq_true rfl, Nat.le_of_ble_eq_true rfl⟩) ⟨gP_blind, va_recv (q0 := 2) (ci := 10) (q := (R_MoNames, F_MoNames, 6)) hK hP rfl rfl, gP_pre hPc hDc hK hgl hkn hkr hS hFc⟩ rfl rfl hl.1 rfl (lv_room (Nat.le_of_ble_eq_true rfl)) d_MoPaper_name_23 ⟨Nat.le_of_ble_eq_true rfl, Nat.le_of_ble_eq_true rfl⟩) hS (fun q _ h => hFc q h) hFc (fun r4' u t H locs ht hvm hr4 hB hz1 hk1 hS => ?_)
        subst hr4
        rw [ht] at hB
        obtain ⟨hP1, hD1⟩ := hB
        obtain ⟨hP, hD⟩ := jn_A hP hD [2, 4] [0, 1, 3] rfl rfl (by decide) (by decide) hk1 hFc hP1 hD1
        obtain ⟨hP, hD⟩ : PD g A H [(a, .inr (13, [.ref a_out, .ref a_walk, .ref a_next, .ref a_seen, .int a_n_3, .int a_over_3, .int a_order])), (a_out, .inl (cs 1, a_out_n, .inl a_out_3f)), (nms_text, .inl (cs 1, nms_text_n, .inl nms_text_f)), (nms, .inr (10, [.ref nms_text, .ref nms_from, .ref nms_next, .ref nms_first, .int nms_size, .int nms_texted])), (nms_from, .inl (cs 0, nms_from_n, .inl nms_from_f))] := ⟨hP, hD⟩
        refine lv_icmp_ge hx hb d_MoPaper_name_26 rfl (fun h5 => ?_) (fun h5 => ?_)
        · rw [if_pos h5] at hok
          refine lv_iload_n hx hb d_MoPaper_name_64 rfl (lv_at hl 1 rfl) ?_
          refine lv_if_ne hx hb d_MoPaper_name_65 rfl (fun h6 => ?_) (fun h6 => ?_)
          · rw [if_neg h6] at hok
            have hq := Option.some.inj hok
            obtain ⟨hq0, hq⟩ := Prod.mk.inj hq
            obtain ⟨hq1, hq⟩ := Prod.mk.inj hq
            have hq2 := hq
            subst hq0
            subst hq1
            subst hq2
            obtain ⟨hP9, hD9⟩ := sub2 (ws' := [(a, .inr (13, [.ref a_out, .ref a_walk, .ref a_next, .ref a_seen, .int a_n_3, .int a_over_3, .int a_order])), (a_out, .inl (cs 1, a_out_n, .inl a_out_3f)), (nms, .inr (10, [.ref nms_text, .ref nms_from, .ref nms_next, .ref nms_first, .int nms_size, .int nms_texted])), (nms_text, .inl (cs 1, nms_text_n, .inl nms_text_f)), (nms_from, .inl (cs 0, nms_from_n, .inl nms_from_f))]) hP hD [0, 1, 3, 2, 4] rfl (by decide) rfl
            rw [hQ]
            exact W.vret hx hb hr (fun t ht hW => ⟨⟨(), rfl, trivial, by rw [ht]; exact hP9, hD9⟩, hS.F ht⟩) hS.2.2 d_MoPaper_name_74
          · rw [if_pos h6] at hok
            refine lv_aload_n hx hb d_MoPaper_name_68 rfl (lv_at hl 2 rfl) ?_
            refine lv_bipush (v := 39) hx hb d_MoPaper_name_69 (by decide) ?_
            obtain ⟨⟨a_n_7, a_over_7, a_out_f_7⟩, hc7, hok⟩ := bd_some hok
            dsimp only at hok
            obtain ⟨hPc, hDc, hFc⟩ := cut0 (wc := [(a, .inr (13, [.ref a_out, .ref a_walk, .ref a_next, .ref a_seen, .int a_n_3, .int a_over_3, .int a_order])), (a_out, .inl (cs 1, a_out_n, .inl a_out_3f))]) hP hD hS hA [0, 1] (by decide) rfl
            refine va_callv (va_runV (As := [.int 39]) (rest := []) ⟨hx, hb, hml, hown, hg⟩ (c_MoPaper_put l g cs ka a_walk a_next a_seen a a_out H.size (39 : Int32) a_n_3 a_over_3 a_order a_out_n a_out_3f a_n_7 a_over_7 a_out_f_7 hc7) (cwV (C := R_MoPaper) 1 hg (gw_V wd_743 wd_744 wd_745 wd_742 wd_741) rfl rfl rfl (by decide +kernel) ⟨Nat.le_of_ble_eq_true rfl, Nat.le_of_ble_eq_true rfl⟩) ⟨gP_blind, va_recv (q0 := 0) (ci := 13) (q := (R_MoPaper, F_MoPaper, 7)) hK hP rfl rfl, gP_pre hPc hDc hK hgl hkn hkr hS hFc⟩ rfl rfl hl.1 rfl (lv_room (Nat.le_of_ble_eq_true rfl)) d_MoPaper_name_71 ⟨Nat.le_of_ble_eq_true rfl, Nat.le_of_ble_eq_true rfl⟩) hS (fun q _ h => hFc q h) hFc (fun u t H locs ht hvm hr7 hB hz1 hk1 hS => ?_)
            rw [ht] at hB
            obtain ⟨hP1, hD1⟩ := hB
            obtain ⟨hP, hD⟩ := jn_A hP hD [0, 1] [2, 3, 4] rfl rfl (by decide) (by decide) hk1 hFc hP1 hD1
            obtain ⟨hP, hD⟩ : PD g A H [(nms_text, .inl (cs 1, nms_text_n, .inl nms_text_f)), (nms, .inr (10, [.ref nms_text, .ref nms_from, .ref nms_next, .ref nms_first, .int nms_size, .int nms_texted])), (nms_from, .inl (cs 0, nms_from_n, .inl nms_from_f)), (a, .inr (13, [.ref a_out, .ref a_walk, .ref a_next, .ref a_seen, .int a_n_7, .int a_over_7, .int a_order])), (a_out, .inl (cs 1, a_out_n, .inl a_out_f_7))] := ⟨hP, hD⟩
            have hq := Option.some.inj hok
            obtain ⟨hq0, hq⟩ := Prod.mk.inj hq
            obtain ⟨hq1, hq⟩ := Prod.mk.inj hq
            have hq2 := hq
            subst hq0
            subst hq1
            subst hq2
            obtain ⟨hP9, hD9⟩ := sub2 (ws' := [(a, .inr (13, [.ref a_out, .ref a_walk, .ref a_next, .ref a_seen, .int a_n_7, .int a_over_7, .int a_order])), (a_out, .inl (cs 1, a_out_n, .inl a_out_f_7)), (nms, .inr (10, [.ref nms_text, .ref nms_from, .ref nms_next, .ref nms_first, .int nms_size, .int nms_texted])), (nms_text, .inl (cs 1, nms_text_n, .inl nms_text_f)), (nms_from, .inl (cs 0, nms_from_n, .inl nms_from_f))]) hP hD [3, 4, 1, 0, 2] rfl (by decide) rfl
            rw [hQ]
            exact W.vret hx hb hr (fun t ht hW => ⟨⟨(), rfl, trivial, by rw [ht]; exact hP9, hD9⟩, hS.F ht⟩) hS.2.2 d_MoPaper_name_74
        · rw [if_neg h5] at hok
          refine lv_aload_n hx hb d_MoPaper_name_29 rfl (lv_at hl 3 rfl) ?_
          refine lv_iload_n hx hb d_MoPaper_name_30 rfl (lv_at hl 4 rfl) ?_
          refine lv_iload hx hb d_MoPaper_name_31 (lv_at hl 0 rfl) ?_
          obtain ⟨r8, hc8, hok⟩ := bd_some hok
          obtain ⟨hPc, hDc, hFc⟩ := cut0 (wc := [(nms, .inr (10, [.ref nms_text, .ref nms_from, .ref nms_next, .ref nms_first, .int nms_size, .int nms_texted])), (nms_text, .inl (cs 1, nms_text_n, .inl nms_text_f)), (nms_from, .inl (cs 0, nms_from_n, .inl nms_from_f))]) hP hD hS hA [3, 2, 4] (by decide) rfl
          refine va_calli (va_runV (As := [.int kk, .int x4_3]) (rest := []) ⟨hx, hb, hml, hown, hg⟩ (c_MoNames_at l g cs ka nms_next nms_first nms nms_text nms_from H.size kk x4_3 nms_size nms_texted nms_text_n nms_text_f nms_from_n nms_from_f r8 hc8) (cwV (C := R_MoNames) 2 hg (gw_V wd_748 wd_728 wd_729 wd_717 wd_726) rfl rfl rfl (by decide +kernel) ⟨Nat.le_of_ble_eq_true rfl, Nat.le_of_ble_eq_true rfl⟩) ⟨gP_blind, va_recv (q0 := 3) (ci := 10) (q := (R_MoNames, F_MoNames, 6)) hK hP rfl rfl, gP_pre hPc hDc hK hgl hkn hkr hS hFc⟩ rfl rfl hl.1 rfl (lv_room (Nat.le_of_ble_eq_true rfl)) d_MoPaper_name_33 ⟨Nat.le_of_ble_eq_true rfl, Nat.le_of_ble_eq_true rfl⟩) hS (fun q _ h => hFc q h) hFc (fun r8' u t H locs ht hvm hr8 hB hz1 hk1 hS => ?_)
          subst hr8
          rw [ht] at hB
          obtain ⟨hP1, hD1⟩ := hB
          obtain ⟨hP, hD⟩ := jn_A hP hD [3, 2, 4] [0, 1] rfl rfl (by decide) (by decide) hk1 hFc hP1 hD1
          obtain ⟨hP, hD⟩ : PD g A H [(a, .inr (13, [.ref a_out, .ref a_walk, .ref a_next, .ref a_seen, .int a_n_3, .int a_over_3, .int a_order])), (a_out, .inl (cs 1, a_out_n, .inl a_out_3f)), (nms, .inr (10, [.ref nms_text, .ref nms_from, .ref nms_next, .ref nms_first, .int nms_size, .int nms_texted])), (nms_text, .inl (cs 1, nms_text_n, .inl nms_text_f)), (nms_from, .inl (cs 0, nms_from_n, .inl nms_from_f))] := ⟨hP, hD⟩
          refine lv_bipush (v := 39) hx hb d_MoPaper_name_36 (by decide) ?_
          refine lv_icmp_ne hx hb d_MoPaper_name_38 rfl (fun h9 => ?_) (fun h9 => ?_)
          · rw [if_neg h9] at hok
            refine lv_aload_n hx hb d_MoPaper_name_47 rfl (lv_at hl 2 rfl) ?_
            refine lv_aload_n hx hb d_MoPaper_name_48 rfl (lv_at hl 3 rfl) ?_
            refine lv_iload_n hx hb d_MoPaper_name_49 rfl (lv_at hl 4 rfl) ?_
            refine lv_iload hx hb d_MoPaper_name_50 (lv_at hl 0 rfl) ?_
            obtain ⟨r10, hc10, hok⟩ := bd_some hok
            obtain ⟨hPc, hDc, hFc⟩ := cut0 (wc := [(nms, .inr (10, [.ref nms_text, .ref nms_from, .ref nms_next, .ref nms_first, .int nms_size, .int nms_texted])), (nms_text, .inl (cs 1, nms_text_n, .inl nms_text_f)), (nms_from, .inl (cs 0, nms_from_n, .inl nms_from_f))]) hP hD hS hA [2, 3, 4] (by decide) rfl
            refine va_calli (va_runV (As := [.int kk, .int x4_3]) (rest := [.ref a]) ⟨hx, hb, hml, hown, hg⟩ (c_MoNames_at l g cs ka nms_next nms_first nms nms_text nms_from H.size kk x4_3 nms_size nms_texted nms_text_n nms_text_f nms_from_n nms_from_f r10 hc10) (cwV (C := R_MoNames) 2 hg (gw_V wd_748 wd_728 wd_729 wd_717 wd_726) rfl rfl rfl (by decide +kernel) ⟨Nat.le_of_ble_eq_true rfl, Nat.le_of_ble_eq_true rfl⟩) ⟨gP_blind, va_recv (q0 := 2) (ci := 10) (q := (R_MoNames, F_MoNames, 6)) hK hP rfl rfl, gP_pre hPc hDc hK hgl hkn hkr hS hFc⟩ rfl rfl hl.1 rfl (lv_room (Nat.le_of_ble_eq_true rfl)) d_MoPaper_name_52 ⟨Nat.le_of_ble_eq_true rfl, Nat.le_of_ble_eq_true rfl⟩) hS (fun q _ h => hFc q h) hFc (fun r10' u t H locs ht hvm hr10 hB hz1 hk1 hS => ?_)
            subst hr10
            rw [ht] at hB
            obtain ⟨hP1, hD1⟩ := hB
            obtain ⟨hP, hD⟩ := jn_A hP hD [2, 3, 4] [0, 1] rfl rfl (by decide) (by decide) hk1 hFc hP1 hD1
            obtain ⟨hP, hD⟩ : PD g A H [(a, .inr (13, [.ref a_out, .ref a_walk, .ref a_next, .ref a_seen, .int a_n_3, .int a_over_3, .int a_order])), (a_out, .inl (cs 1, a_out_n, .inl a_out_3f)), (nms, .inr (10, [.ref nms_text, .ref nms_from, .ref nms_next, .ref nms_first, .int nms_size, .int nms_texted])), (nms_text, .inl (cs 1, nms_text_n, .inl nms_text_f)), (nms_from, .inl (cs 0, nms_from_n, .inl nms_from_f))] := ⟨hP, hD⟩
            obtain ⟨⟨a_n_11, a_over_11, a_out_f_11⟩, hc11, hok⟩ := bd_some hok
            dsimp only at hok
            obtain ⟨hPc, hDc, hFc⟩ := cut0 (wc := [(a, .inr (13, [.ref a_out, .ref a_walk, .ref a_next, .ref a_seen, .int a_n_3, .int a_over_3, .int a_order])), (a_out, .inl (cs 1, a_out_n, .inl a_out_3f))]) hP hD hS hA [0, 1] (by decide) rfl
            refine va_callv (va_runV (As := [.int r10]) (rest := []) ⟨hx, hb, hml, hown, hg⟩ (c_MoPaper_put l g cs ka a_walk a_next a_seen a a_out H.size r10 a_n_3 a_over_3 a_order a_out_n a_out_3f a_n_11 a_over_11 a_out_f_11 hc11) (cwV (C := R_MoPaper) 1 hg (gw_V wd_743 wd_744 wd_745 wd_742 wd_741) rfl rfl rfl (by decide +kernel) ⟨Nat.le_of_ble_eq_true rfl, Nat.le_of_ble_eq_true rfl⟩) ⟨gP_blind, va_recv (q0 := 0) (ci := 13) (q := (R_MoPaper, F_MoPaper, 7)) hK hP rfl rfl, gP_pre hPc hDc hK hgl hkn hkr hS hFc⟩ rfl rfl hl.1 rfl (lv_room (Nat.le_of_ble_eq_true rfl)) d_MoPaper_name_55 ⟨Nat.le_of_ble_eq_true rfl, Nat.le_of_ble_eq_true rfl⟩) hS (fun q _ h => hFc q h) hFc (fun u t H locs ht hvm hr11 hB hz1 hk1 hS => ?_)
            rw [ht] at hB
            obtain ⟨hP1, hD1⟩ := hB
            obtain ⟨hP, hD⟩ := jn_A hP hD [0, 1] [2, 3, 4] rfl rfl (by decide) (by decide) hk1 hFc hP1 hD1
            obtain ⟨hP, hD⟩ : PD g A H [(nms, .inr (10, [.ref nms_text, .ref nms_from, .ref nms_next, .ref nms_first, .int nms_size, .int nms_texted])), (nms_text, .inl (cs 1, nms_text_n, .inl nms_text_f)), (nms_from, .inl (cs 0, nms_from_n, .inl nms_from_f)), (a, .inr (13, [.ref a_out, .ref a_walk, .ref a_next, .ref a_seen, .int a_n_11, .int a_over_11, .int a_order])), (a_out, .inl (cs 1, a_out_n, .inl a_out_f_11))] := ⟨hP, hD⟩
            refine lv_iinc (k := 0) (v := x4_3 + 1) hx hb d_MoPaper_name_58 hl rfl rfl (by decide) rfl (fun ls hl => ?_)
            have hl : lv_has ls 5 [(4, .int (x4_3 + 1)), (3, .int r1), (0, .ref a), (1, .ref nms), (2, .int kk)] := hl
            refine lv_goto hx hb d_MoPaper_name_61 rfl ?_
            exact ih3 _ _ _ (x4_3 + 1) a_n_11 a_over_11 a_out_f_11 (lv_sub hl [0, 1, 2, 3, 4] rfl) (sub3 hP hD [3, 4, 0, 1, 2] (by decide)) hS hok
          · rw [if_pos h9] at hok
            refine lv_aload_n hx hb d_MoPaper_name_41 rfl (lv_at hl 2 rfl) ?_
            refine lv_bipush (v := 39) hx hb d_MoPaper_name_42 (by decide) ?_
            obtain ⟨⟨a_n_12, a_over_12, a_out_f_12⟩, hc12, hok⟩ := bd_some hok
            dsimp only at hok
            obtain ⟨hPc, hDc, hFc⟩ := cut0 (wc := [(a, .inr (13, [.ref a_out, .ref a_walk, .ref a_next, .ref a_seen, .int a_n_3, .int a_over_3, .int a_order])), (a_out, .inl (cs 1, a_out_n, .inl a_out_3f))]) hP hD hS hA [0, 1] (by decide) rfl
            refine va_callv (va_runV (As := [.int 39]) (rest := []) ⟨hx, hb, hml, hown, hg⟩ (c_MoPaper_put l g cs ka a_walk a_next a_seen a a_out H.size (39 : Int32) a_n_3 a_over_3 a_order a_out_n a_out_3f a_n_12 a_over_12 a_out_f_12 hc12) (cwV (C := R_MoPaper) 1 hg (gw_V wd_743 wd_744 wd_745 wd_742 wd_741) rfl rfl rfl (by decide +kernel) ⟨Nat.le_of_ble_eq_true rfl, Nat.le_of_ble_eq_true rfl⟩) ⟨gP_blind, va_recv (q0 := 0) (ci := 13) (q := (R_MoPaper, F_MoPaper, 7)) hK hP rfl rfl, gP_pre hPc hDc hK hgl hkn hkr hS hFc⟩ rfl rfl hl.1 rfl (lv_room (Nat.le_of_ble_eq_true rfl)) d_MoPaper_name_44 ⟨Nat.le_of_ble_eq_true rfl, Nat.le_of_ble_eq_true rfl⟩) hS (fun q _ h => hFc q h) hFc (fun u t H locs ht hvm hr12 hB hz1 hk1 hS => ?_)
            rw [ht] at hB
            obtain ⟨hP1, hD1⟩ := hB
            obtain ⟨hP, hD⟩ := jn_A hP hD [0, 1] [2, 3, 4] rfl rfl (by decide) (by decide) hk1 hFc hP1 hD1
            obtain ⟨hP, hD⟩ : PD g A H [(nms, .inr (10, [.ref nms_text, .ref nms_from, .ref nms_next, .ref nms_first, .int nms_size, .int nms_texted])), (nms_text, .inl (cs 1, nms_text_n, .inl nms_text_f)), (nms_from, .inl (cs 0, nms_from_n, .inl nms_from_f)), (a, .inr (13, [.ref a_out, .ref a_walk, .ref a_next, .ref a_seen, .int a_n_12, .int a_over_12, .int a_order])), (a_out, .inl (cs 1, a_out_n, .inl a_out_f_12))] := ⟨hP, hD⟩
            refine lv_aload_n hx hb d_MoPaper_name_47 rfl (lv_at hl 2 rfl) ?_
            refine lv_aload_n hx hb d_MoPaper_name_48 rfl (lv_at hl 3 rfl) ?_
            refine lv_iload_n hx hb d_MoPaper_name_49 rfl (lv_at hl 4 rfl) ?_
            refine lv_iload hx hb d_MoPaper_name_50 (lv_at hl 0 rfl) ?_
            obtain ⟨r13, hc13, hok⟩ := bd_some hok
            obtain ⟨hPc, hDc, hFc⟩ := cut0 (wc := [(nms, .inr (10, [.ref nms_text, .ref nms_from, .ref nms_next, .ref nms_first, .int nms_size, .int nms_texted])), (nms_text, .inl (cs 1, nms_text_n, .inl nms_text_f)), (nms_from, .inl (cs 0, nms_from_n, .inl nms_from_f))]) hP hD hS hA [0, 1, 2] (by decide) rfl
            refine va_calli (va_runV (As := [.int kk, .int x4_3]) (rest := [.ref a]) ⟨hx, hb, hml, hown, hg⟩ (c_MoNames_at l g cs ka nms_next nms_first nms nms_text nms_from H.size kk x4_3 nms_size nms_texted nms_text_n nms_text_f nms_from_n nms_from_f r13 hc13) (cwV (C := R_MoNames) 2 hg (gw_V wd_748 wd_728 wd_729 wd_717 wd_726) rfl rfl rfl (by decide +kernel) ⟨Nat.le_of_ble_eq_true rfl, Nat.le_of_ble_eq_true rfl⟩) ⟨gP_blind, va_recv (q0 := 0) (ci := 10) (q := (R_MoNames, F_MoNames, 6)) hK hP rfl rfl, gP_pre hPc hDc hK hgl hkn hkr hS hFc⟩ rfl rfl hl.1 rfl (lv_room (Nat.le_of_ble_eq_true rfl)) d_MoPaper_name_52 ⟨Nat.le_of_ble_eq_true rfl, Nat.le_of_ble_eq_true rfl⟩) hS (fun q _ h => hFc q h) hFc (fun r13' u t H locs ht hvm hr13 hB hz1 hk1 hS => ?_)
            subst hr13
            rw [ht] at hB
            obtain ⟨hP1, hD1⟩ := hB
            obtain ⟨hP, hD⟩ := jn_A hP hD [0, 1, 2] [3, 4] rfl rfl (by decide) (by decide) hk1 hFc hP1 hD1
            obtain ⟨hP, hD⟩ : PD g A H [(a, .inr (13, [.ref a_out, .ref a_walk, .ref a_next, .ref a_seen, .int a_n_12, .int a_over_12, .int a_order])), (a_out, .inl (cs 1, a_out_n, .inl a_out_f_12)), (nms, .inr (10, [.ref nms_text, .ref nms_from, .ref nms_next, .ref nms_first, .int nms_size, .int nms_texted])), (nms_text, .inl (cs 1, nms_text_n, .inl nms_text_f)), (nms_from, .inl (cs 0, nms_from_n, .inl nms_from_f))] := ⟨hP, hD⟩
            obtain ⟨⟨a_n_14, a_over_14, a_out_f_14⟩, hc14, hok⟩ := bd_some hok
            dsimp only at hok
            obtain ⟨hPc, hDc, hFc⟩ := cut0 (wc := [(a, .inr (13, [.ref a_out, .ref a_walk, .ref a_next, .ref a_seen, .int a_n_12, .int a_over_12, .int a_order])), (a_out, .inl (cs 1, a_out_n, .inl a_out_f_12))]) hP hD hS hA [0, 1] (by decide) rfl
            refine va_callv (va_runV (As := [.int r13]) (rest := []) ⟨hx, hb, hml, hown, hg⟩ (c_MoPaper_put l g cs ka a_walk a_next a_seen a a_out H.size r13 a_n_12 a_over_12 a_order a_out_n a_out_f_12 a_n_14 a_over_14 a_out_f_14 hc14) (cwV (C := R_MoPaper) 1 hg (gw_V wd_743 wd_744 wd_745 wd_742 wd_741) rfl rfl rfl (by decide +kernel) ⟨Nat.le_of_ble_eq_true rfl, Nat.le_of_ble_eq_true rfl⟩) ⟨gP_blind, va_recv (q0 := 0) (ci := 13) (q := (R_MoPaper, F_MoPaper, 7)) hK hP rfl rfl, gP_pre hPc hDc hK hgl hkn hkr hS hFc⟩ rfl rfl hl.1 rfl (lv_room (Nat.le_of_ble_eq_true rfl)) d_MoPaper_name_55 ⟨Nat.le_of_ble_eq_true rfl, Nat.le_of_ble_eq_true rfl⟩) hS (fun q _ h => hFc q h) hFc (fun u t H locs ht hvm hr14 hB hz1 hk1 hS => ?_)
            rw [ht] at hB
            obtain ⟨hP1, hD1⟩ := hB
            obtain ⟨hP, hD⟩ := jn_A hP hD [0, 1] [2, 3, 4] rfl rfl (by decide) (by decide) hk1 hFc hP1 hD1
            obtain ⟨hP, hD⟩ : PD g A H [(nms, .inr (10, [.ref nms_text, .ref nms_from, .ref nms_next, .ref nms_first, .int nms_size, .int nms_texted])), (nms_text, .inl (cs 1, nms_text_n, .inl nms_text_f)), (nms_from, .inl (cs 0, nms_from_n, .inl nms_from_f)), (a, .inr (13, [.ref a_out, .ref a_walk, .ref a_next, .ref a_seen, .int a_n_14, .int a_over_14, .int a_order])), (a_out, .inl (cs 1, a_out_n, .inl a_out_f_14))] := ⟨hP, hD⟩
            refine lv_iinc (k := 0) (v := x4_3 + 1) hx hb d_MoPaper_name_58 hl rfl rfl (by decide) rfl (fun ls hl => ?_)
            have hl : lv_has ls 5 [(4, .int (x4_3 + 1)), (3, .int r1), (0, .ref a), (1, .ref nms), (2, .int kk)] := hl
            refine lv_goto hx hb d_MoPaper_name_61 rfl ?_
            exact ih3 _ _ _ (x4_3 + 1) a_n_14 a_over_14 a_out_f_14 (lv_sub hl [0, 1, 2, 3, 4] rfl) (sub3 hP hD [3, 4, 0, 1, 2] (by decide)) hS hok
    exact J3 n H locs ls (0 : Int32) a_n a_over a_out_f hl ⟨hP, hD⟩ hS hok
  · rw [if_pos h2] at hok
    refine lv_aload_n hx hb d_MoPaper_name_10 rfl (lv_at hl 1 rfl) ?_
    refine lv_bipush (v := 39) hx hb d_MoPaper_name_11 (by decide) ?_
    obtain ⟨⟨a_n_15, a_over_15, a_out_f_15⟩, hc15, hok⟩ := bd_some hok
    dsimp only at hok
    obtain ⟨hPc, hDc, hFc⟩ := cut0 (wc := [(a, .inr (13, [.ref a_out, .ref a_walk, .ref a_next, .ref a_seen, .int a_n, .int a_over, .int a_order])), (a_out, .inl (cs 1, a_out_n, .inl a_out_f))]) hP hD hS hA [0, 1] (by decide) rfl
    refine va_callv (va_runV (As := [.int 39]) (rest := []) ⟨hx, hb, hml, hown, hg⟩ (c_MoPaper_put l g cs ka a_walk a_next a_seen a a_out H.size (39 : Int32) a_n a_over a_order a_out_n a_out_f a_n_15 a_over_15 a_out_f_15 hc15) (cwV (C := R_MoPaper) 1 hg (gw_V wd_743 wd_744 wd_745 wd_742 wd_741) rfl rfl rfl (by decide +kernel) ⟨Nat.le_of_ble_eq_true rfl, Nat.le_of_ble_eq_true rfl⟩) ⟨gP_blind, va_recv (q0 := 0) (ci := 13) (q := (R_MoPaper, F_MoPaper, 7)) hK hP rfl rfl, gP_pre hPc hDc hK hgl hkn hkr hS hFc⟩ rfl rfl hl.1 rfl (lv_room (Nat.le_of_ble_eq_true rfl)) d_MoPaper_name_13 ⟨Nat.le_of_ble_eq_true rfl, Nat.le_of_ble_eq_true rfl⟩) hS (fun q _ h => hFc q h) hFc (fun u t H locs ht hvm hr15 hB hz1 hk1 hS => ?_)
    rw [ht] at hB
    obtain ⟨hP1, hD1⟩ := hB
    obtain ⟨hP, hD⟩ := jn_A hP hD [0, 1] [2, 3, 4] rfl rfl (by decide) (by decide) hk1 hFc hP1 hD1
    obtain ⟨hP, hD⟩ : PD g A H [(nms, .inr (10, [.ref nms_text, .ref nms_from, .ref nms_next, .ref nms_first, .int nms_size, .int nms_texted])), (nms_text, .inl (cs 1, nms_text_n, .inl nms_text_f)), (nms_from, .inl (cs 0, nms_from_n, .inl nms_from_f)), (a, .inr (13, [.ref a_out, .ref a_walk, .ref a_next, .ref a_seen, .int a_n_15, .int a_over_15, .int a_order])), (a_out, .inl (cs 1, a_out_n, .inl a_out_f_15))] := ⟨hP, hD⟩
    refine lv_iconst (v := 0) hx hb d_MoPaper_name_16 (by decide) ?_
    refine lv_istore hx hb d_MoPaper_name_17 hl (by decide) rfl (fun ls hl => ?_)
    have hl : lv_has ls 5 [(4, .int 0), (3, .int r1), (0, .ref a), (1, .ref nms), (2, .int kk)] := hl
    have J16 : ∀ (kf16 : Nat) (H : Heap) (locs : List Loc) (ls : Array Slot) (x4_16 : Int32) (a_n_16 : Int32) (a_over_16 : Int32) (a_out_16f : Nat → Int32), lv_has ls 5 [(4, .int x4_16), (3, .int r1), (0, .ref a), (1, .ref nms), (2, .int kk)] → PD g A H [(nms, .inr (10, [.ref nms_text, .ref nms_from, .ref nms_next, .ref nms_first, .int nms_size, .int nms_texted])), (nms_text, .inl (cs 1, nms_text_n, .inl nms_text_f)), (nms_from, .inl (cs 0, nms_from_n, .inl nms_from_f)), (a, .inr (13, [.ref a_out, .ref a_walk, .ref a_next, .ref a_seen, .int a_n_16, .int a_over_16, .int a_order])), (a_out, .inl (cs 1, a_out_n, .inl a_out_16f))] → va_S A s.heap H locs → p_MoPaper_name_19_16 n kk a_order a_out_n nms_size nms_texted nms_text_n nms_text_f nms_from_n nms_from_f r1 kf16 x4_16 a_n_16 a_over_16 a_out_16f = some (o_a_n, o_a_over, o_a_out_f) → W p l e (headSpec (.code y_MoPaper_name b_MoPaper_name 5 none :: GW) { frames := 6, cells := 0, slots := 0, locals := 138 }).room s m ([.ref a, .ref nms, .int kk] : List Value).toArray below meth c H locs 0 0 Q (F0 m 19 ls []) := by
      intro kf16
      induction kf16 with
      | zero => intro H locs ls x4_16 a_n_16 a_over_16 a_out_16f hl ⟨hP, hD⟩ hS hok; rw [p_MoPaper_name_19_16] at hok; cases hok
      | succ kf16 ih16 =>
        intro H locs ls x4_16 a_n_16 a_over_16 a_out_16f hl ⟨hP, hD⟩ hS hok
        rw [p_MoPaper_name_19_16] at hok
        refine lv_iload hx hb d_MoPaper_name_19 (lv_at hl 0 rfl) ?_
        refine lv_aload_n hx hb d_MoPaper_name_21 rfl (lv_at hl 3 rfl) ?_
        refine lv_iload_n hx hb d_MoPaper_name_22 rfl (lv_at hl 4 rfl) ?_
        obtain ⟨r17, hc17, hok⟩ := bd_some hok
        obtain ⟨hPc, hDc, hFc⟩ := cut0 (wc := [(nms, .inr (10, [.ref nms_text, .ref nms_from, .ref nms_next, .ref nms_first, .int nms_size, .int nms_texted])), (nms_from, .inl (cs 0, nms_from_n, .inl nms_from_f))]) hP hD hS hA [0, 2] (by decide) rfl
        refine va_calli (va_runV (As := [.int kk]) (rest := [.int x4_16]) ⟨hx, hb, hml, hown, hg⟩ (c_MoNames_length l g cs ka nms_text nms_next nms_first nms nms_from H.size kk nms_size nms_texted nms_from_n nms_from_f r17 hc17) (cwV (C := R_MoNames) 1 hg (gw_V wd_747 wd_723 wd_724 wd_717 wd_721) rfl rfl rfl (by decide +kernel) ⟨Nat.le_of_ble_eq_true rfl, Nat.le_of_ble_eq_true rfl⟩) ⟨gP_blind, va_recv (q0 := 0) (ci := 10) (q := (R_MoNames, F_MoNames, 6)) hK hP rfl rfl, gP_pre hPc hDc hK hgl hkn hkr hS hFc⟩ rfl rfl hl.1 rfl (lv_room (Nat.le_of_ble_eq_true rfl)) d_MoPaper_name_23 ⟨Nat.le_of_ble_eq_true rfl, Nat.le_of_ble_eq_true rfl⟩) hS (fun q _ h => hFc q h) hFc (fun r17' u t H locs ht hvm hr17 hB hz1 hk1 hS => ?_)
        subst hr17
        rw [ht] at hB
        obtain ⟨hP1, hD1⟩ := hB
        obtain ⟨hP, hD⟩ := jn_A hP hD [0, 2] [1, 3, 4] rfl rfl (by decide) (by decide) hk1 hFc hP1 hD1
        obtain ⟨hP, hD⟩ : PD g A H [(nms_text, .inl (cs 1, nms_text_n, .inl nms_text_f)), (a, .inr (13, [.ref a_out, .ref a_walk, .ref a_next, .ref a_seen, .int a_n_16, .int a_over_16, .int a_order])), (a_out, .inl (cs 1, a_out_n, .inl a_out_16f)), (nms, .inr (10, [.ref nms_text, .ref nms_from, .ref nms_next, .ref nms_first, .int nms_size, .int nms_texted])), (nms_from, .inl (cs 0, nms_from_n, .inl nms_from_f))] := ⟨hP, hD⟩
        refine lv_icmp_ge hx hb d_MoPaper_name_26 rfl (fun h18 => ?_) (fun h18 => ?_)
        · rw [if_pos h18] at hok
          refine lv_iload_n hx hb d_MoPaper_name_64 rfl (lv_at hl 1 rfl) ?_
          refine lv_if_ne hx hb d_MoPaper_name_65 rfl (fun h19 => ?_) (fun h19 => ?_)
          · rw [if_neg h19] at hok
            have hq := Option.some.inj hok
            obtain ⟨hq0, hq⟩ := Prod.mk.inj hq
            obtain ⟨hq1, hq⟩ := Prod.mk.inj hq
            have hq2 := hq
            subst hq0
            subst hq1
            subst hq2
            obtain ⟨hP9, hD9⟩ := sub2 (ws' := [(a, .inr (13, [.ref a_out, .ref a_walk, .ref a_next, .ref a_seen, .int a_n_16, .int a_over_16, .int a_order])), (a_out, .inl (cs 1, a_out_n, .inl a_out_16f)), (nms, .inr (10, [.ref nms_text, .ref nms_from, .ref nms_next, .ref nms_first, .int nms_size, .int nms_texted])), (nms_text, .inl (cs 1, nms_text_n, .inl nms_text_f)), (nms_from, .inl (cs 0, nms_from_n, .inl nms_from_f))]) hP hD [1, 2, 3, 0, 4] rfl (by decide) rfl
            rw [hQ]
            exact W.vret hx hb hr (fun t ht hW => ⟨⟨(), rfl, trivial, by rw [ht]; exact hP9, hD9⟩, hS.F ht⟩) hS.2.2 d_MoPaper_name_74
          · rw [if_pos h19] at hok
            refine lv_aload_n hx hb d_MoPaper_name_68 rfl (lv_at hl 2 rfl) ?_
            refine lv_bipush (v := 39) hx hb d_MoPaper_name_69 (by decide) ?_
            obtain ⟨⟨a_n_20, a_over_20, a_out_f_20⟩, hc20, hok⟩ := bd_some hok
            dsimp only at hok
            obtain ⟨hPc, hDc, hFc⟩ := cut0 (wc := [(a, .inr (13, [.ref a_out, .ref a_walk, .ref a_next, .ref a_seen, .int a_n_16, .int a_over_16, .int a_order])), (a_out, .inl (cs 1, a_out_n, .inl a_out_16f))]) hP hD hS hA [1, 2] (by decide) rfl
            refine va_callv (va_runV (As := [.int 39]) (rest := []) ⟨hx, hb, hml, hown, hg⟩ (c_MoPaper_put l g cs ka a_walk a_next a_seen a a_out H.size (39 : Int32) a_n_16 a_over_16 a_order a_out_n a_out_16f a_n_20 a_over_20 a_out_f_20 hc20) (cwV (C := R_MoPaper) 1 hg (gw_V wd_743 wd_744 wd_745 wd_742 wd_741) rfl rfl rfl (by decide +kernel) ⟨Nat.le_of_ble_eq_true rfl, Nat.le_of_ble_eq_true rfl⟩) ⟨gP_blind, va_recv (q0 := 1) (ci := 13) (q := (R_MoPaper, F_MoPaper, 7)) hK hP rfl rfl, gP_pre hPc hDc hK hgl hkn hkr hS hFc⟩ rfl rfl hl.1 rfl (lv_room (Nat.le_of_ble_eq_true rfl)) d_MoPaper_name_71 ⟨Nat.le_of_ble_eq_true rfl, Nat.le_of_ble_eq_true rfl⟩) hS (fun q _ h => hFc q h) hFc (fun u t H locs ht hvm hr20 hB hz1 hk1 hS => ?_)
            rw [ht] at hB
            obtain ⟨hP1, hD1⟩ := hB
            obtain ⟨hP, hD⟩ := jn_A hP hD [1, 2] [0, 3, 4] rfl rfl (by decide) (by decide) hk1 hFc hP1 hD1
            obtain ⟨hP, hD⟩ : PD g A H [(nms_text, .inl (cs 1, nms_text_n, .inl nms_text_f)), (nms, .inr (10, [.ref nms_text, .ref nms_from, .ref nms_next, .ref nms_first, .int nms_size, .int nms_texted])), (nms_from, .inl (cs 0, nms_from_n, .inl nms_from_f)), (a, .inr (13, [.ref a_out, .ref a_walk, .ref a_next, .ref a_seen, .int a_n_20, .int a_over_20, .int a_order])), (a_out, .inl (cs 1, a_out_n, .inl a_out_f_20))] := ⟨hP, hD⟩
            have hq := Option.some.inj hok
            obtain ⟨hq0, hq⟩ := Prod.mk.inj hq
            obtain ⟨hq1, hq⟩ := Prod.mk.inj hq
            have hq2 := hq
            subst hq0
            subst hq1
            subst hq2
            obtain ⟨hP9, hD9⟩ := sub2 (ws' := [(a, .inr (13, [.ref a_out, .ref a_walk, .ref a_next, .ref a_seen, .int a_n_20, .int a_over_20, .int a_order])), (a_out, .inl (cs 1, a_out_n, .inl a_out_f_20)), (nms, .inr (10, [.ref nms_text, .ref nms_from, .ref nms_next, .ref nms_first, .int nms_size, .int nms_texted])), (nms_text, .inl (cs 1, nms_text_n, .inl nms_text_f)), (nms_from, .inl (cs 0, nms_from_n, .inl nms_from_f))]) hP hD [3, 4, 1, 0, 2] rfl (by decide) rfl
            rw [hQ]
            exact W.vret hx hb hr (fun t ht hW => ⟨⟨(), rfl, trivial, by rw [ht]; exact hP9, hD9⟩, hS.F ht⟩) hS.2.2 d_MoPaper_name_74
        · rw [if_neg h18] at hok
          refine lv_aload_n hx hb d_MoPaper_name_29 rfl (lv_at hl 3 rfl) ?_
          refine lv_iload_n hx hb d_MoPaper_name_30 rfl (lv_at hl 4 rfl) ?_
          refine lv_iload hx hb d_MoPaper_name_31 (lv_at hl 0 rfl) ?_
          obtain ⟨r21, hc21, hok⟩ := bd_some hok
          obtain ⟨hPc, hDc, hFc⟩ := cut0 (wc := [(nms, .inr (10, [.ref nms_text, .ref nms_from, .ref nms_next, .ref nms_first, .int nms_size, .int nms_texted])), (nms_text, .inl (cs 1, nms_text_n, .inl nms_text_f)), (nms_from, .inl (cs 0, nms_from_n, .inl nms_from_f))]) hP hD hS hA [3, 0, 4] (by decide) rfl
          refine va_calli (va_runV (As := [.int kk, .int x4_16]) (rest := []) ⟨hx, hb, hml, hown, hg⟩ (c_MoNames_at l g cs ka nms_next nms_first nms nms_text nms_from H.size kk x4_16 nms_size nms_texted nms_text_n nms_text_f nms_from_n nms_from_f r21 hc21) (cwV (C := R_MoNames) 2 hg (gw_V wd_748 wd_728 wd_729 wd_717 wd_726) rfl rfl rfl (by decide +kernel) ⟨Nat.le_of_ble_eq_true rfl, Nat.le_of_ble_eq_true rfl⟩) ⟨gP_blind, va_recv (q0 := 3) (ci := 10) (q := (R_MoNames, F_MoNames, 6)) hK hP rfl rfl, gP_pre hPc hDc hK hgl hkn hkr hS hFc⟩ rfl rfl hl.1 rfl (lv_room (Nat.le_of_ble_eq_true rfl)) d_MoPaper_name_33 ⟨Nat.le_of_ble_eq_true rfl, Nat.le_of_ble_eq_true rfl⟩) hS (fun q _ h => hFc q h) hFc (fun r21' u t H locs ht hvm hr21 hB hz1 hk1 hS => ?_)
          subst hr21
          rw [ht] at hB
          obtain ⟨hP1, hD1⟩ := hB
          obtain ⟨hP, hD⟩ := jn_A hP hD [3, 0, 4] [1, 2] rfl rfl (by decide) (by decide) hk1 hFc hP1 hD1
          obtain ⟨hP, hD⟩ : PD g A H [(a, .inr (13, [.ref a_out, .ref a_walk, .ref a_next, .ref a_seen, .int a_n_16, .int a_over_16, .int a_order])), (a_out, .inl (cs 1, a_out_n, .inl a_out_16f)), (nms, .inr (10, [.ref nms_text, .ref nms_from, .ref nms_next, .ref nms_first, .int nms_size, .int nms_texted])), (nms_text, .inl (cs 1, nms_text_n, .inl nms_text_f)), (nms_from, .inl (cs 0, nms_from_n, .inl nms_from_f))] := ⟨hP, hD⟩
          refine lv_bipush (v := 39) hx hb d_MoPaper_name_36 (by decide) ?_
          refine lv_icmp_ne hx hb d_MoPaper_name_38 rfl (fun h22 => ?_) (fun h22 => ?_)
          · rw [if_neg h22] at hok
            refine lv_aload_n hx hb d_MoPaper_name_47 rfl (lv_at hl 2 rfl) ?_
            refine lv_aload_n hx hb d_MoPaper_name_48 rfl (lv_at hl 3 rfl) ?_
            refine lv_iload_n hx hb d_MoPaper_name_49 rfl (lv_at hl 4 rfl) ?_
            refine lv_iload hx hb d_MoPaper_name_50 (lv_at hl 0 rfl) ?_
            obtain ⟨r23, hc23, hok⟩ := bd_some hok
            obtain ⟨hPc, hDc, hFc⟩ := cut0 (wc := [(nms, .inr (10, [.ref nms_text, .ref nms_from, .ref nms_next, .ref nms_first, .int nms_size, .int nms_texted])), (nms_text, .inl (cs 1, nms_text_n, .inl nms_text_f)), (nms_from, .inl (cs 0, nms_from_n, .inl nms_from_f))]) hP hD hS hA [2, 3, 4] (by decide) rfl
            refine va_calli (va_runV (As := [.int kk, .int x4_16]) (rest := [.ref a]) ⟨hx, hb, hml, hown, hg⟩ (c_MoNames_at l g cs ka nms_next nms_first nms nms_text nms_from H.size kk x4_16 nms_size nms_texted nms_text_n nms_text_f nms_from_n nms_from_f r23 hc23) (cwV (C := R_MoNames) 2 hg (gw_V wd_748 wd_728 wd_729 wd_717 wd_726) rfl rfl rfl (by decide +kernel) ⟨Nat.le_of_ble_eq_true rfl, Nat.le_of_ble_eq_true rfl⟩) ⟨gP_blind, va_recv (q0 := 2) (ci := 10) (q := (R_MoNames, F_MoNames, 6)) hK hP rfl rfl, gP_pre hPc hDc hK hgl hkn hkr hS hFc⟩ rfl rfl hl.1 rfl (lv_room (Nat.le_of_ble_eq_true rfl)) d_MoPaper_name_52 ⟨Nat.le_of_ble_eq_true rfl, Nat.le_of_ble_eq_true rfl⟩) hS (fun q _ h => hFc q h) hFc (fun r23' u t H locs ht hvm hr23 hB hz1 hk1 hS => ?_)
            subst hr23
            rw [ht] at hB
            obtain ⟨hP1, hD1⟩ := hB
            obtain ⟨hP, hD⟩ := jn_A hP hD [2, 3, 4] [0, 1] rfl rfl (by decide) (by decide) hk1 hFc hP1 hD1
            obtain ⟨hP, hD⟩ : PD g A H [(a, .inr (13, [.ref a_out, .ref a_walk, .ref a_next, .ref a_seen, .int a_n_16, .int a_over_16, .int a_order])), (a_out, .inl (cs 1, a_out_n, .inl a_out_16f)), (nms, .inr (10, [.ref nms_text, .ref nms_from, .ref nms_next, .ref nms_first, .int nms_size, .int nms_texted])), (nms_text, .inl (cs 1, nms_text_n, .inl nms_text_f)), (nms_from, .inl (cs 0, nms_from_n, .inl nms_from_f))] := ⟨hP, hD⟩
            obtain ⟨⟨a_n_24, a_over_24, a_out_f_24⟩, hc24, hok⟩ := bd_some hok
            dsimp only at hok
            obtain ⟨hPc, hDc, hFc⟩ := cut0 (wc := [(a, .inr (13, [.ref a_out, .ref a_walk, .ref a_next, .ref a_seen, .int a_n_16, .int a_over_16, .int a_order])), (a_out, .inl (cs 1, a_out_n, .inl a_out_16f))]) hP hD hS hA [0, 1] (by decide) rfl
            refine va_callv (va_runV (As := [.int r23]) (rest := []) ⟨hx, hb, hml, hown, hg⟩ (c_MoPaper_put l g cs ka a_walk a_next a_seen a a_out H.size r23 a_n_16 a_over_16 a_order a_out_n a_out_16f a_n_24 a_over_24 a_out_f_24 hc24) (cwV (C := R_MoPaper) 1 hg (gw_V wd_743 wd_744 wd_745 wd_742 wd_741) rfl rfl rfl (by decide +kernel) ⟨Nat.le_of_ble_eq_true rfl, Nat.le_of_ble_eq_true rfl⟩) ⟨gP_blind, va_recv (q0 := 0) (ci := 13) (q := (R_MoPaper, F_MoPaper, 7)) hK hP rfl rfl, gP_pre hPc hDc hK hgl hkn hkr hS hFc⟩ rfl rfl hl.1 rfl (lv_room (Nat.le_of_ble_eq_true rfl)) d_MoPaper_name_55 ⟨Nat.le_of_ble_eq_true rfl, Nat.le_of_ble_eq_true rfl⟩) hS (fun q _ h => hFc q h) hFc (fun u t H locs ht hvm hr24 hB hz1 hk1 hS => ?_)
            rw [ht] at hB
            obtain ⟨hP1, hD1⟩ := hB
            obtain ⟨hP, hD⟩ := jn_A hP hD [0, 1] [2, 3, 4] rfl rfl (by decide) (by decide) hk1 hFc hP1 hD1
            obtain ⟨hP, hD⟩ : PD g A H [(nms, .inr (10, [.ref nms_text, .ref nms_from, .ref nms_next, .ref nms_first, .int nms_size, .int nms_texted])), (nms_text, .inl (cs 1, nms_text_n, .inl nms_text_f)), (nms_from, .inl (cs 0, nms_from_n, .inl nms_from_f)), (a, .inr (13, [.ref a_out, .ref a_walk, .ref a_next, .ref a_seen, .int a_n_24, .int a_over_24, .int a_order])), (a_out, .inl (cs 1, a_out_n, .inl a_out_f_24))] := ⟨hP, hD⟩
            refine lv_iinc (k := 0) (v := x4_16 + 1) hx hb d_MoPaper_name_58 hl rfl rfl (by decide) rfl (fun ls hl => ?_)
            have hl : lv_has ls 5 [(4, .int (x4_16 + 1)), (3, .int r1), (0, .ref a), (1, .ref nms), (2, .int kk)] := hl
            refine lv_goto hx hb d_MoPaper_name_61 rfl ?_
            exact ih16 _ _ _ (x4_16 + 1) a_n_24 a_over_24 a_out_f_24 (lv_sub hl [0, 1, 2, 3, 4] rfl) (sub3 hP hD [0, 1, 2, 3, 4] (by decide)) hS hok
          · rw [if_pos h22] at hok
            refine lv_aload_n hx hb d_MoPaper_name_41 rfl (lv_at hl 2 rfl) ?_
            refine lv_bipush (v := 39) hx hb d_MoPaper_name_42 (by decide) ?_
            obtain ⟨⟨a_n_25, a_over_25, a_out_f_25⟩, hc25, hok⟩ := bd_some hok
            dsimp only at hok
            obtain ⟨hPc, hDc, hFc⟩ := cut0 (wc := [(a, .inr (13, [.ref a_out, .ref a_walk, .ref a_next, .ref a_seen, .int a_n_16, .int a_over_16, .int a_order])), (a_out, .inl (cs 1, a_out_n, .inl a_out_16f))]) hP hD hS hA [0, 1] (by decide) rfl
            refine va_callv (va_runV (As := [.int 39]) (rest := []) ⟨hx, hb, hml, hown, hg⟩ (c_MoPaper_put l g cs ka a_walk a_next a_seen a a_out H.size (39 : Int32) a_n_16 a_over_16 a_order a_out_n a_out_16f a_n_25 a_over_25 a_out_f_25 hc25) (cwV (C := R_MoPaper) 1 hg (gw_V wd_743 wd_744 wd_745 wd_742 wd_741) rfl rfl rfl (by decide +kernel) ⟨Nat.le_of_ble_eq_true rfl, Nat.le_of_ble_eq_true rfl⟩) ⟨gP_blind, va_recv (q0 := 0) (ci := 13) (q := (R_MoPaper, F_MoPaper, 7)) hK hP rfl rfl, gP_pre hPc hDc hK hgl hkn hkr hS hFc⟩ rfl rfl hl.1 rfl (lv_room (Nat.le_of_ble_eq_true rfl)) d_MoPaper_name_44 ⟨Nat.le_of_ble_eq_true rfl, Nat.le_of_ble_eq_true rfl⟩) hS (fun q _ h => hFc q h) hFc (fun u t H locs ht hvm hr25 hB hz1 hk1 hS => ?_)
            rw [ht] at hB
            obtain ⟨hP1, hD1⟩ := hB
            obtain ⟨hP, hD⟩ := jn_A hP hD [0, 1] [2, 3, 4] rfl rfl (by decide) (by decide) hk1 hFc hP1 hD1
            obtain ⟨hP, hD⟩ : PD g A H [(nms, .inr (10, [.ref nms_text, .ref nms_from, .ref nms_next, .ref nms_first, .int nms_size, .int nms_texted])), (nms_text, .inl (cs 1, nms_text_n, .inl nms_text_f)), (nms_from, .inl (cs 0, nms_from_n, .inl nms_from_f)), (a, .inr (13, [.ref a_out, .ref a_walk, .ref a_next, .ref a_seen, .int a_n_25, .int a_over_25, .int a_order])), (a_out, .inl (cs 1, a_out_n, .inl a_out_f_25))] := ⟨hP, hD⟩
            refine lv_aload_n hx hb d_MoPaper_name_47 rfl (lv_at hl 2 rfl) ?_
            refine lv_aload_n hx hb d_MoPaper_name_48 rfl (lv_at hl 3 rfl) ?_
            refine lv_iload_n hx hb d_MoPaper_name_49 rfl (lv_at hl 4 rfl) ?_
            refine lv_iload hx hb d_MoPaper_name_50 (lv_at hl 0 rfl) ?_
            obtain ⟨r26, hc26, hok⟩ := bd_some hok
            obtain ⟨hPc, hDc, hFc⟩ := cut0 (wc := [(nms, .inr (10, [.ref nms_text, .ref nms_from, .ref nms_next, .ref nms_first, .int nms_size, .int nms_texted])), (nms_text, .inl (cs 1, nms_text_n, .inl nms_text_f)), (nms_from, .inl (cs 0, nms_from_n, .inl nms_from_f))]) hP hD hS hA [0, 1, 2] (by decide) rfl
            refine va_calli (va_runV (As := [.int kk, .int x4_16]) (rest := [.ref a]) ⟨hx, hb, hml, hown, hg⟩ (c_MoNames_at l g cs ka nms_next nms_first nms nms_text nms_from H.size kk x4_16 nms_size nms_texted nms_text_n nms_text_f nms_from_n nms_from_f r26 hc26) (cwV (C := R_MoNames) 2 hg (gw_V wd_748 wd_728 wd_729 wd_717 wd_726) rfl rfl rfl (by decide +kernel) ⟨Nat.le_of_ble_eq_true rfl, Nat.le_of_ble_eq_true rfl⟩) ⟨gP_blind, va_recv (q0 := 0) (ci := 10) (q := (R_MoNames, F_MoNames, 6)) hK hP rfl rfl, gP_pre hPc hDc hK hgl hkn hkr hS hFc⟩ rfl rfl hl.1 rfl (lv_room (Nat.le_of_ble_eq_true rfl)) d_MoPaper_name_52 ⟨Nat.le_of_ble_eq_true rfl, Nat.le_of_ble_eq_true rfl⟩) hS (fun q _ h => hFc q h) hFc (fun r26' u t H locs ht hvm hr26 hB hz1 hk1 hS => ?_)
            subst hr26
            rw [ht] at hB
            obtain ⟨hP1, hD1⟩ := hB
            obtain ⟨hP, hD⟩ := jn_A hP hD [0, 1, 2] [3, 4] rfl rfl (by decide) (by decide) hk1 hFc hP1 hD1
            obtain ⟨hP, hD⟩ : PD g A H [(a, .inr (13, [.ref a_out, .ref a_walk, .ref a_next, .ref a_seen, .int a_n_25, .int a_over_25, .int a_order])), (a_out, .inl (cs 1, a_out_n, .inl a_out_f_25)), (nms, .inr (10, [.ref nms_text, .ref nms_from, .ref nms_next, .ref nms_first, .int nms_size, .int nms_texted])), (nms_text, .inl (cs 1, nms_text_n, .inl nms_text_f)), (nms_from, .inl (cs 0, nms_from_n, .inl nms_from_f))] := ⟨hP, hD⟩
            obtain ⟨⟨a_n_27, a_over_27, a_out_f_27⟩, hc27, hok⟩ := bd_some hok
            dsimp only at hok
            obtain ⟨hPc, hDc, hFc⟩ := cut0 (wc := [(a, .inr (13, [.ref a_out, .ref a_walk, .ref a_next, .ref a_seen, .int a_n_25, .int a_over_25, .int a_order])), (a_out, .inl (cs 1, a_out_n, .inl a_out_f_25))]) hP hD hS hA [0, 1] (by decide) rfl
            refine va_callv (va_runV (As := [.int r26]) (rest := []) ⟨hx, hb, hml, hown, hg⟩ (c_MoPaper_put l g cs ka a_walk a_next a_seen a a_out H.size r26 a_n_25 a_over_25 a_order a_out_n a_out_f_25 a_n_27 a_over_27 a_out_f_27 hc27) (cwV (C := R_MoPaper) 1 hg (gw_V wd_743 wd_744 wd_745 wd_742 wd_741) rfl rfl rfl (by decide +kernel) ⟨Nat.le_of_ble_eq_true rfl, Nat.le_of_ble_eq_true rfl⟩) ⟨gP_blind, va_recv (q0 := 0) (ci := 13) (q := (R_MoPaper, F_MoPaper, 7)) hK hP rfl rfl, gP_pre hPc hDc hK hgl hkn hkr hS hFc⟩ rfl rfl hl.1 rfl (lv_room (Nat.le_of_ble_eq_true rfl)) d_MoPaper_name_55 ⟨Nat.le_of_ble_eq_true rfl, Nat.le_of_ble_eq_true rfl⟩) hS (fun q _ h => hFc q h) hFc (fun u t H locs ht hvm hr27 hB hz1 hk1 hS => ?_)
            rw [ht] at hB
            obtain ⟨hP1, hD1⟩ := hB
            obtain ⟨hP, hD⟩ := jn_A hP hD [0, 1] [2, 3, 4] rfl rfl (by decide) (by decide) hk1 hFc hP1 hD1
            obtain ⟨hP, hD⟩ : PD g A H [(nms, .inr (10, [.ref nms_text, .ref nms_from, .ref nms_next, .ref nms_first, .int nms_size, .int nms_texted])), (nms_text, .inl (cs 1, nms_text_n, .inl nms_text_f)), (nms_from, .inl (cs 0, nms_from_n, .inl nms_from_f)), (a, .inr (13, [.ref a_out, .ref a_walk, .ref a_next, .ref a_seen, .int a_n_27, .int a_over_27, .int a_order])), (a_out, .inl (cs 1, a_out_n, .inl a_out_f_27))] := ⟨hP, hD⟩
            refine lv_iinc (k := 0) (v := x4_16 + 1) hx hb d_MoPaper_name_58 hl rfl rfl (by decide) rfl (fun ls hl => ?_)
            have hl : lv_has ls 5 [(4, .int (x4_16 + 1)), (3, .int r1), (0, .ref a), (1, .ref nms), (2, .int kk)] := hl
            refine lv_goto hx hb d_MoPaper_name_61 rfl ?_
            exact ih16 _ _ _ (x4_16 + 1) a_n_27 a_over_27 a_out_f_27 (lv_sub hl [0, 1, 2, 3, 4] rfl) (sub3 hP hD [0, 1, 2, 3, 4] (by decide)) hS hok
    exact J16 n H locs ls (0 : Int32) a_n_15 a_over_15 a_out_f_15 hl ⟨hP, hD⟩ hS hok

theorem d_MoPaper_variable_0 : decode b_MoPaper_variable 0 = .ok (.iconst 0, 1) := by decide +kernel
theorem d_MoPaper_variable_1 : decode b_MoPaper_variable 1 = .ok (.istore_n 2, 1) := by decide +kernel
theorem d_MoPaper_variable_2 : decode b_MoPaper_variable 2 = .ok (.iload_n 2, 1) := by decide +kernel
theorem d_MoPaper_variable_3 : decode b_MoPaper_variable 3 = .ok (.aload_n 0, 1) := by decide +kernel
theorem d_MoPaper_variable_4 : decode b_MoPaper_variable 4 = .ok (.getfield 71, 3) := by decide +kernel
theorem d_MoPaper_variable_7 : decode b_MoPaper_variable 7 = .ok (.if_icmp .ge 19, 3) := by decide +kernel
theorem d_MoPaper_variable_10 : decode b_MoPaper_variable 10 = .ok (.aload_n 0, 1) := by decide +kernel
theorem d_MoPaper_variable_11 : decode b_MoPaper_variable 11 = .ok (.getfield 22, 3) := by decide +kernel
theorem d_MoPaper_variable_14 : decode b_MoPaper_variable 14 = .ok (.iload_n 2, 1) := by decide +kernel
theorem d_MoPaper_variable_15 : decode b_MoPaper_variable 15 = .ok (.iaload, 1) := by decide +kernel
theorem d_MoPaper_variable_16 : decode b_MoPaper_variable 16 = .ok (.iload_n 1, 1) := by decide +kernel
theorem d_MoPaper_variable_17 : decode b_MoPaper_variable 17 = .ok (.if_icmp .eq 9, 3) := by decide +kernel
theorem d_MoPaper_variable_20 : decode b_MoPaper_variable 20 = .ok (.iinc 2 1, 3) := by decide +kernel
theorem d_MoPaper_variable_23 : decode b_MoPaper_variable 23 = .ok (.goto (-21), 3) := by decide +kernel
theorem d_MoPaper_variable_26 : decode b_MoPaper_variable 26 = .ok (.iload_n 2, 1) := by decide +kernel
theorem d_MoPaper_variable_27 : decode b_MoPaper_variable 27 = .ok (.aload_n 0, 1) := by decide +kernel
theorem d_MoPaper_variable_28 : decode b_MoPaper_variable 28 = .ok (.getfield 71, 3) := by decide +kernel
theorem d_MoPaper_variable_31 : decode b_MoPaper_variable 31 = .ok (.if_icmp .ne 23, 3) := by decide +kernel
theorem d_MoPaper_variable_34 : decode b_MoPaper_variable 34 = .ok (.aload_n 0, 1) := by decide +kernel
theorem d_MoPaper_variable_35 : decode b_MoPaper_variable 35 = .ok (.getfield 22, 3) := by decide +kernel
theorem d_MoPaper_variable_38 : decode b_MoPaper_variable 38 = .ok (.aload_n 0, 1) := by decide +kernel
theorem d_MoPaper_variable_39 : decode b_MoPaper_variable 39 = .ok (.getfield 71, 3) := by decide +kernel
theorem d_MoPaper_variable_42 : decode b_MoPaper_variable 42 = .ok (.iload_n 1, 1) := by decide +kernel
theorem d_MoPaper_variable_43 : decode b_MoPaper_variable 43 = .ok (.iastore, 1) := by decide +kernel
theorem d_MoPaper_variable_44 : decode b_MoPaper_variable 44 = .ok (.aload_n 0, 1) := by decide +kernel
theorem d_MoPaper_variable_45 : decode b_MoPaper_variable 45 = .ok (.dup, 1) := by decide +kernel
theorem d_MoPaper_variable_46 : decode b_MoPaper_variable 46 = .ok (.getfield 71, 3) := by decide +kernel
theorem d_MoPaper_variable_49 : decode b_MoPaper_variable 49 = .ok (.iconst 1, 1) := by decide +kernel
theorem d_MoPaper_variable_50 : decode b_MoPaper_variable 50 = .ok (.iadd, 1) := by decide +kernel
theorem d_MoPaper_variable_51 : decode b_MoPaper_variable 51 = .ok (.putfield 71, 3) := by decide +kernel
theorem d_MoPaper_variable_54 : decode b_MoPaper_variable 54 = .ok (.aload_n 0, 1) := by decide +kernel
theorem d_MoPaper_variable_55 : decode b_MoPaper_variable 55 = .ok (.bipush 95, 2) := by decide +kernel
theorem d_MoPaper_variable_57 : decode b_MoPaper_variable 57 = .ok (.invokevirtual 33, 3) := by decide +kernel
theorem d_MoPaper_variable_60 : decode b_MoPaper_variable 60 = .ok (.aload_n 0, 1) := by decide +kernel
theorem d_MoPaper_variable_61 : decode b_MoPaper_variable 61 = .ok (.iload_n 2, 1) := by decide +kernel
theorem d_MoPaper_variable_62 : decode b_MoPaper_variable 62 = .ok (.i2l, 1) := by decide +kernel
theorem d_MoPaper_variable_63 : decode b_MoPaper_variable 63 = .ok (.invokevirtual 74, 3) := by decide +kernel
theorem d_MoPaper_variable_66 : decode b_MoPaper_variable 66 = .ok (.return_, 1) := by decide +kernel
def p_MoPaper_variable_2 (n : Nat) (v : Int32) (a_n : Int32) (a_over : Int32) (a_order : Int32) (a_out_n : Nat) (a_out_f : Nat → Int32) (a_seen_n : Nat) (a_seen_f : Nat → Int32) (kf1 : Nat) (x2_1 : Int32) : Option (Int32 × Int32 × Int32 × (Nat → Int32) × (Nat → Int32)) := match kf1 with
  | 0 => none
  | kf1 + 1 => if a_order ≤ x2_1 then (if x2_1 = a_order then (ck (ixb a_order a_seen_n) ((p_MoPaper_put (95 : Int32) a_n a_over (a_order + 1) a_out_n a_out_f).bind (fun (a_n_7, a_over_7, a_out_f_7) => (p_MoPaper_number n x2_1.toInt64 a_n_7 a_over_7 (a_order + 1) a_out_n a_out_f_7).bind (fun (a_n_8, a_over_8, a_out_f_8) => some (a_n_8, a_over_8, a_order + 1, a_out_f_8, upd a_seen_f a_order.toNatClampNeg v))))) else ((p_MoPaper_put (95 : Int32) a_n a_over a_order a_out_n a_out_f).bind (fun (a_n_4, a_over_4, a_out_f_4) => (p_MoPaper_number n x2_1.toInt64 a_n_4 a_over_4 a_order a_out_n a_out_f_4).bind (fun (a_n_5, a_over_5, a_out_f_5) => some (a_n_5, a_over_5, a_order, a_out_f_5, a_seen_f))))) else (ck (ixb x2_1 a_seen_n) (if (a_seen_f x2_1.toNatClampNeg) = v then (if x2_1 = a_order then (ck (ixb a_order a_seen_n) ((p_MoPaper_put (95 : Int32) a_n a_over (a_order + 1) a_out_n a_out_f).bind (fun (a_n_15, a_over_15, a_out_f_15) => (p_MoPaper_number n x2_1.toInt64 a_n_15 a_over_15 (a_order + 1) a_out_n a_out_f_15).bind (fun (a_n_16, a_over_16, a_out_f_16) => some (a_n_16, a_over_16, a_order + 1, a_out_f_16, upd a_seen_f a_order.toNatClampNeg v))))) else ((p_MoPaper_put (95 : Int32) a_n a_over a_order a_out_n a_out_f).bind (fun (a_n_12, a_over_12, a_out_f_12) => (p_MoPaper_number n x2_1.toInt64 a_n_12 a_over_12 a_order a_out_n a_out_f_12).bind (fun (a_n_13, a_over_13, a_out_f_13) => some (a_n_13, a_over_13, a_order, a_out_f_13, a_seen_f))))) else (p_MoPaper_variable_2 n v a_n a_over a_order a_out_n a_out_f a_seen_n a_seen_f kf1 (x2_1 + 1))))
def p_MoPaper_variable (n : Nat) (v : Int32) (a_n : Int32) (a_over : Int32) (a_order : Int32) (a_out_n : Nat) (a_out_f : Nat → Int32) (a_seen_n : Nat) (a_seen_f : Nat → Int32) : Option (Int32 × Int32 × Int32 × (Nat → Int32) × (Nat → Int32)) := p_MoPaper_variable_2 n v a_n a_over a_order a_out_n a_out_f a_seen_n a_seen_f n (0 : Int32)
set_option maxHeartbeats 40000000 in
set_option maxRecDepth 100000 in
theorem c_MoPaper_variable (l : Launch) (g : va_G) (cs : Nat → ClassId) (ka : Nat → Nat) (a_walk : Nat) (a_next : Nat) (a a_out a_seen : Nat) (sz : Nat) (n : Nat) (v : Int32) (a_n : Int32) (a_over : Int32) (a_order : Int32) (a_out_n : Nat) (a_out_f : Nat → Int32) (a_seen_n : Nat) (a_seen_f : Nat → Int32) (o_a_n : Int32) (o_a_over : Int32) (o_a_order : Int32) (o_a_out_f : Nat → Int32) (o_a_seen_f : Nat → Int32) (hok : p_MoPaper_variable n v a_n a_over a_order a_out_n a_out_f a_seen_n a_seen_f = some (o_a_n, o_a_over, o_a_order, o_a_out_f, o_a_seen_f)) : Met l y_MoPaper_variable (.code y_MoPaper_variable b_MoPaper_variable 3 none :: GW) { frames := 2, cells := 0, slots := 0, locals := 47 } (va_Pc [.ref a, .int v] (gP g cs ka [(a, .inr (13, [.ref a_out, .ref a_walk, .ref a_next, .ref a_seen, .int a_n, .int a_over, .int a_order])), (a_out, .inl (cs 1, a_out_n, .inl a_out_f)), (a_seen, .inl (cs 0, a_seen_n, .inl a_seen_f))] sz)) (va_Qv (fun _ : Unit => True) (fun _ t => va_P g classes [(a, .inr (13, [.ref a_out, .ref a_walk, .ref a_next, .ref a_seen, .int o_a_n, .int o_a_over, .int o_a_order])), (a_out, .inl (cs 1, a_out_n, .inl o_a_out_f)), (a_seen, .inl (cs 0, a_seen_n, .inl o_a_seen_f))] t.heap ∧ va_D (va_A [(a, .inr (13, [.ref a_out, .ref a_walk, .ref a_next, .ref a_seen, .int a_n, .int a_over, .int a_order])), (a_out, .inl (cs 1, a_out_n, .inl a_out_f)), (a_seen, .inl (cs 0, a_seen_n, .inl a_seen_f))] sz) [(a, .inr (13, [.ref a_out, .ref a_walk, .ref a_next, .ref a_seen, .int o_a_n, .int o_a_over, .int o_a_order])), (a_out, .inl (cs 1, a_out_n, .inl o_a_out_f)), (a_seen, .inl (cs 0, a_seen_n, .inl o_a_seen_f))]) (va_A [(a, .inr (13, [.ref a_out, .ref a_walk, .ref a_next, .ref a_seen, .int a_n, .int a_over, .int a_order])), (a_out, .inl (cs 1, a_out_n, .inl a_out_f)), (a_seen, .inl (cs 0, a_seen_n, .inl a_seen_f))] sz)) 0 0 (va_A [(a, .inr (13, [.ref a_out, .ref a_walk, .ref a_next, .ref a_seen, .int a_n, .int a_over, .int a_order])), (a_out, .inl (cs 1, a_out_n, .inl a_out_f)), (a_seen, .inl (cs 0, a_seen_n, .inl a_seen_f))] sz) := by
  refine Met.ofW (cc := b_MoPaper_variable) (maxL := 3) (ret := none) (by decide) rfl ?_
  intro p e s m args below meth c s₁ B hml hv
  obtain ⟨rfl, hsz, hP, hK, hD0, hgl, hkn, hkr⟩ := hv
  have hx := B.exec
  have hb := B.bytes
  have hr := B.returns
  have hg : ∀ w ∈ GW, w.before ([.ref a, .int v] : List Value).toArray s = true := fun w hw => atoms_spec (ws := .code y_MoPaper_variable b_MoPaper_variable 3 none :: GW) B.pre w (List.mem_cons_of_mem _ hw)
  have hown : s.vm.findClass R_MoPaper = some m.cls := findClass_of_methodNamed B.named
  have hlocks := B.notSynchronized
  subst hsz
  have hD := hD0.self (sz := s.heap.size)
  generalize hAe : va_A [(a, .inr (13, [.ref a_out, .ref a_walk, .ref a_next, .ref a_seen, .int a_n, .int a_over, .int a_order])), (a_out, .inl (cs 1, a_out_n, .inl a_out_f)), (a_seen, .inl (cs 0, a_seen_n, .inl a_seen_f))] s.heap.size = A at hD hkn ⊢
  have hA : ∀ q : Nat, s.heap.size ≤ q → A q := fun q h => by rw [← hAe]; exact Or.inr h
  have hS : va_S A s.heap s.heap [] := va_S.rf
  have hP : va_P g classes [(a, .inr (13, [.ref a_out, .ref a_walk, .ref a_next, .ref a_seen, .int a_n, .int a_over, .int a_order])), (a_out, .inl (cs 1, a_out_n, .inl a_out_f)), (a_seen, .inl (cs 0, a_seen_n, .inl a_seen_f))] s.heap := hP
  have hl := lv_entry ([.ref a, .int v]) (n := 3) (Nat.le_of_ble_eq_true rfl)
  rw [lg_entry_eq]
  generalize (lg_sl ([.ref a, .int v]) ++ List.replicate (3 - (lg_sl ([.ref a, .int v])).length) Slot.unset).toArray = ls at hl ⊢
  have hl : lv_has ls 3 [(0, .ref a), (1, .int v)] := hl
  refine gq (fun Q hQ => ?_)
  obtain ⟨H, hH⟩ : ∃ H : Heap, H = s.heap := ⟨_, rfl⟩
  rw [← hH] at hP
  have hS : va_S A s.heap H [] := by rw [hH]; exact hS
  refine W.eqH hH ?_
  obtain ⟨locs, hlc⟩ : ∃ L : List Loc, L = [] := ⟨_, rfl⟩
  rw [← hlc] at hS ⊢
  unfold p_MoPaper_variable at hok
  refine lv_iconst (v := 0) hx hb d_MoPaper_variable_0 (by decide) ?_
  refine lv_istore_n hx hb d_MoPaper_variable_1 rfl hl (by decide) rfl (fun ls hl => ?_)
  have hl : lv_has ls 3 [(2, .int 0), (0, .ref a), (1, .int v)] := hl
  have J1 : ∀ (kf1 : Nat) (H : Heap) (locs : List Loc) (ls : Array Slot) (x2_1 : Int32), lv_has ls 3 [(2, .int x2_1), (0, .ref a), (1, .int v)] → PD g A H [(a, .inr (13, [.ref a_out, .ref a_walk, .ref a_next, .ref a_seen, .int a_n, .int a_over, .int a_order])), (a_out, .inl (cs 1, a_out_n, .inl a_out_f)), (a_seen, .inl (cs 0, a_seen_n, .inl a_seen_f))] → va_S A s.heap H locs → p_MoPaper_variable_2 n v a_n a_over a_order a_out_n a_out_f a_seen_n a_seen_f kf1 x2_1 = some (o_a_n, o_a_over, o_a_order, o_a_out_f, o_a_seen_f) → W p l e (headSpec (.code y_MoPaper_variable b_MoPaper_variable 3 none :: GW) { frames := 2, cells := 0, slots := 0, locals := 47 }).room s m ([.ref a, .int v] : List Value).toArray below meth c H locs 0 0 Q (F0 m 2 ls []) := by
    intro kf1
    induction kf1 with
    | zero => intro H locs ls x2_1 hl ⟨hP, hD⟩ hS hok; rw [p_MoPaper_variable_2] at hok; cases hok
    | succ kf1 ih1 =>
      intro H locs ls x2_1 hl ⟨hP, hD⟩ hS hok
      rw [p_MoPaper_variable_2] at hok
      refine lv_iload_n hx hb d_MoPaper_variable_2 rfl (lv_at hl 0 rfl) ?_
      refine lv_aload_n hx hb d_MoPaper_variable_3 rfl (lv_at hl 1 rfl) ?_
      refine va_get (D := g) (ci := 13) (v := .int a_order) (C := R_MoPaper) (T := F_MoPaper) (N := 7) hx hb hg ul_MoPaper hown hK hP 0 rfl rfl 6 (by decide) (hg _ wd_760) (fun _ h9 => h9) rfl d_MoPaper_variable_4 ?_
      refine lv_icmp_ge hx hb d_MoPaper_variable_7 rfl (fun h2 => ?_) (fun h2 => ?_)
      · rw [if_pos h2] at hok
        refine lv_iload_n hx hb d_MoPaper_variable_26 rfl (lv_at hl 0 rfl) ?_
        refine lv_aload_n hx hb d_MoPaper_variable_27 rfl (lv_at hl 1 rfl) ?_
        refine va_get (D := g) (ci := 13) (v := .int a_order) (C := R_MoPaper) (T := F_MoPaper) (N := 7) hx hb hg ul_MoPaper hown hK hP 0 rfl rfl 6 (by decide) (hg _ wd_760) (fun _ h9 => h9) rfl d_MoPaper_variable_28 ?_
        refine lv_icmp_ne hx hb d_MoPaper_variable_31 rfl (fun h3 => ?_) (fun h3 => ?_)
        · rw [if_neg h3] at hok
          refine lv_aload_n hx hb d_MoPaper_variable_54 rfl (lv_at hl 1 rfl) ?_
          refine lv_bipush (v := 95) hx hb d_MoPaper_variable_55 (by decide) ?_
          obtain ⟨⟨a_n_4, a_over_4, a_out_f_4⟩, hc4, hok⟩ := bd_some hok
          dsimp only at hok
          obtain ⟨hPc, hDc, hFc⟩ := cut0 (wc := [(a, .inr (13, [.ref a_out, .ref a_walk, .ref a_next, .ref a_seen, .int a_n, .int a_over, .int a_order])), (a_out, .inl (cs 1, a_out_n, .inl a_out_f))]) hP hD hS hA [0, 1] (by decide) rfl
          refine va_callv (va_runV (As := [.int 95]) (rest := []) ⟨hx, hb, hml, hown, hg⟩ (c_MoPaper_put l g cs ka a_walk a_next a_seen a a_out H.size (95 : Int32) a_n a_over a_order a_out_n a_out_f a_n_4 a_over_4 a_out_f_4 hc4) (cwV (C := R_MoPaper) 1 hg (gw_V wd_743 wd_744 wd_745 wd_742 wd_741) rfl rfl rfl (by decide +kernel) ⟨Nat.le_of_ble_eq_true rfl, Nat.le_of_ble_eq_true rfl⟩) ⟨gP_blind, va_recv (q0 := 0) (ci := 13) (q := (R_MoPaper, F_MoPaper, 7)) hK hP rfl rfl, gP_pre hPc hDc hK hgl hkn hkr hS hFc⟩ rfl rfl hl.1 rfl (lv_room (Nat.le_of_ble_eq_true rfl)) d_MoPaper_variable_57 ⟨Nat.le_of_ble_eq_true rfl, Nat.le_of_ble_eq_true rfl⟩) hS (fun q _ h => hFc q h) hFc (fun u t H locs ht hvm hr4 hB hz1 hk1 hS => ?_)
          rw [ht] at hB
          obtain ⟨hP1, hD1⟩ := hB
          obtain ⟨hP, hD⟩ := jn_A hP hD [0, 1] [2] rfl rfl (by decide) (by decide) hk1 hFc hP1 hD1
          obtain ⟨hP, hD⟩ : PD g A H [(a_seen, .inl (cs 0, a_seen_n, .inl a_seen_f)), (a, .inr (13, [.ref a_out, .ref a_walk, .ref a_next, .ref a_seen, .int a_n_4, .int a_over_4, .int a_order])), (a_out, .inl (cs 1, a_out_n, .inl a_out_f_4))] := ⟨hP, hD⟩
          refine lv_aload_n hx hb d_MoPaper_variable_60 rfl (lv_at hl 1 rfl) ?_
          refine lv_iload_n hx hb d_MoPaper_variable_61 rfl (lv_at hl 0 rfl) ?_
          refine lv_i2l hx hb d_MoPaper_variable_62 rfl ?_
          obtain ⟨⟨a_n_5, a_over_5, a_out_f_5⟩, hc5, hok⟩ := bd_some hok
          dsimp only at hok
          obtain ⟨hPc, hDc, hFc⟩ := cut0 (wc := [(a, .inr (13, [.ref a_out, .ref a_walk, .ref a_next, .ref a_seen, .int a_n_4, .int a_over_4, .int a_order])), (a_out, .inl (cs 1, a_out_n, .inl a_out_f_4))]) hP hD hS hA [1, 2] (by decide) rfl
          refine va_callv (va_runV (As := [.long x2_1.toInt64]) (rest := []) ⟨hx, hb, hml, hown, hg⟩ (c_MoPaper_number l g cs ka a_walk a_next a_seen a a_out H.size n x2_1.toInt64 a_n_4 a_over_4 a_order a_out_n a_out_f_4 a_n_5 a_over_5 a_out_f_5 hc5) (cwV (C := R_MoPaper) 1 hg (gw_V wd_762 wd_763 wd_764 wd_742 wd_761) rfl rfl rfl (by decide +kernel) ⟨Nat.le_of_ble_eq_true rfl, Nat.le_of_ble_eq_true rfl⟩) ⟨gP_blind, va_recv (q0 := 1) (ci := 13) (q := (R_MoPaper, F_MoPaper, 7)) hK hP rfl rfl, gP_pre hPc hDc hK hgl hkn hkr hS hFc⟩ rfl rfl hl.1 rfl (lv_room (Nat.le_of_ble_eq_true rfl)) d_MoPaper_variable_63 ⟨Nat.le_of_ble_eq_true rfl, Nat.le_of_ble_eq_true rfl⟩) hS (fun q _ h => hFc q h) hFc (fun u t H locs ht hvm hr5 hB hz1 hk1 hS => ?_)
          rw [ht] at hB
          obtain ⟨hP1, hD1⟩ := hB
          obtain ⟨hP, hD⟩ := jn_A hP hD [1, 2] [0] rfl rfl (by decide) (by decide) hk1 hFc hP1 hD1
          obtain ⟨hP, hD⟩ : PD g A H [(a_seen, .inl (cs 0, a_seen_n, .inl a_seen_f)), (a, .inr (13, [.ref a_out, .ref a_walk, .ref a_next, .ref a_seen, .int a_n_5, .int a_over_5, .int a_order])), (a_out, .inl (cs 1, a_out_n, .inl a_out_f_5))] := ⟨hP, hD⟩
          have hq := Option.some.inj hok
          obtain ⟨hq0, hq⟩ := Prod.mk.inj hq
          obtain ⟨hq1, hq⟩ := Prod.mk.inj hq
          obtain ⟨hq2, hq⟩ := Prod.mk.inj hq
          obtain ⟨hq3, hq⟩ := Prod.mk.inj hq
          have hq4 := hq
          subst hq0
          subst hq1
          subst hq2
          subst hq3
          subst hq4
          obtain ⟨hP9, hD9⟩ := sub2 (ws' := [(a, .inr (13, [.ref a_out, .ref a_walk, .ref a_next, .ref a_seen, .int a_n_5, .int a_over_5, .int a_order])), (a_out, .inl (cs 1, a_out_n, .inl a_out_f_5)), (a_seen, .inl (cs 0, a_seen_n, .inl a_seen_f))]) hP hD [1, 2, 0] rfl (by decide) rfl
          rw [hQ]
          exact W.vret hx hb hr (fun t ht hW => ⟨⟨(), rfl, trivial, by rw [ht]; exact hP9, hD9⟩, hS.F ht⟩) hS.2.2 d_MoPaper_variable_66
        · rw [if_pos h3] at hok
          refine lv_aload_n hx hb d_MoPaper_variable_34 rfl (lv_at hl 1 rfl) ?_
          refine va_get (D := g) (ci := 13) (v := .ref a_seen) (C := R_MoPaper) (T := F_MoPaper) (N := 7) hx hb hg ul_MoPaper hown hK hP 0 rfl rfl 3 (by decide) (hg _ wd_735) (fun _ h9 => h9) rfl d_MoPaper_variable_35 ?_
          refine lv_aload_n hx hb d_MoPaper_variable_38 rfl (lv_at hl 1 rfl) ?_
          refine va_get (D := g) (ci := 13) (v := .int a_order) (C := R_MoPaper) (T := F_MoPaper) (N := 7) hx hb hg ul_MoPaper hown hK hP 0 rfl rfl 6 (by decide) (hg _ wd_760) (fun _ h9 => h9) rfl d_MoPaper_variable_39 ?_
          refine lv_iload_n hx hb d_MoPaper_variable_42 rfl (lv_at hl 2 rfl) ?_
          obtain ⟨hi6, hok⟩ := ck_some hok
          refine va_iast hx hb hK hP hD hS 2 0 rfl rfl (ixb_in hi6) d_MoPaper_variable_43 (fun H locs hP hD hS => ?_)
          obtain ⟨hP, hD⟩ : PD g A H [(a, .inr (13, [.ref a_out, .ref a_walk, .ref a_next, .ref a_seen, .int a_n, .int a_over, .int a_order])), (a_out, .inl (cs 1, a_out_n, .inl a_out_f)), (a_seen, .inl (cs 0, a_seen_n, .inl (upd a_seen_f a_order.toNatClampNeg v)))] := ⟨hP, hD⟩
          refine lv_aload_n hx hb d_MoPaper_variable_44 rfl (lv_at hl 1 rfl) ?_
          refine lv_dup hx hb d_MoPaper_variable_45 rfl ?_
          refine va_get (D := g) (ci := 13) (v := .int a_order) (C := R_MoPaper) (T := F_MoPaper) (N := 7) hx hb hg ul_MoPaper hown hK hP 0 rfl rfl 6 (by decide) (hg _ wd_760) (fun _ h9 => h9) rfl d_MoPaper_variable_46 ?_
          refine lv_iconst (v := 1) hx hb d_MoPaper_variable_49 (by decide) ?_
          refine lv_iadd hx hb d_MoPaper_variable_50 ?_
          refine va_put (D := g) (ci := 13) (v := .int (a_order + 1)) (ty := .int) (C := R_MoPaper) (T := F_MoPaper) (N := 7) hx hb hg ul_MoPaper t_MoPaper tk_MoPaper n_MoPaper hown hK hP hD hS 0 rfl rfl 6 (by decide) (hg _ wd_760) (fun _ h9 => h9) rfl (by decide +kernel) rfl rfl (Nat.le_of_ble_eq_true rfl) d_MoPaper_variable_51 (fun H locs hP hD hS => ?_)
          obtain ⟨hP, hD⟩ : PD g A H [(a, .inr (13, [.ref a_out, .ref a_walk, .ref a_next, .ref a_seen, .int a_n, .int a_over, .int (a_order + 1)])), (a_out, .inl (cs 1, a_out_n, .inl a_out_f)), (a_seen, .inl (cs 0, a_seen_n, .inl (upd a_seen_f a_order.toNatClampNeg v)))] := ⟨hP, hD⟩
          refine lv_aload_n hx hb d_MoPaper_variable_54 rfl (lv_at hl 1 rfl) ?_
          refine lv_bipush (v := 95) hx hb d_MoPaper_variable_55 (by decide) ?_
          obtain ⟨⟨a_n_7, a_over_7, a_out_f_7⟩, hc7, hok⟩ := bd_some hok
          dsimp only at hok
          obtain ⟨hPc, hDc, hFc⟩ := cut0 (wc := [(a, .inr (13, [.ref a_out, .ref a_walk, .ref a_next, .ref a_seen, .int a_n, .int a_over, .int (a_order + 1)])), (a_out, .inl (cs 1, a_out_n, .inl a_out_f))]) hP hD hS hA [0, 1] (by decide) rfl
          refine va_callv (va_runV (As := [.int 95]) (rest := []) ⟨hx, hb, hml, hown, hg⟩ (c_MoPaper_put l g cs ka a_walk a_next a_seen a a_out H.size (95 : Int32) a_n a_over (a_order + 1) a_out_n a_out_f a_n_7 a_over_7 a_out_f_7 hc7) (cwV (C := R_MoPaper) 1 hg (gw_V wd_743 wd_744 wd_745 wd_742 wd_741) rfl rfl rfl (by decide +kernel) ⟨Nat.le_of_ble_eq_true rfl, Nat.le_of_ble_eq_true rfl⟩) ⟨gP_blind, va_recv (q0 := 0) (ci := 13) (q := (R_MoPaper, F_MoPaper, 7)) hK hP rfl rfl, gP_pre hPc hDc hK hgl hkn hkr hS hFc⟩ rfl rfl hl.1 rfl (lv_room (Nat.le_of_ble_eq_true rfl)) d_MoPaper_variable_57 ⟨Nat.le_of_ble_eq_true rfl, Nat.le_of_ble_eq_true rfl⟩) hS (fun q _ h => hFc q h) hFc (fun u t H locs ht hvm hr7 hB hz1 hk1 hS => ?_)
          rw [ht] at hB
          obtain ⟨hP1, hD1⟩ := hB
          obtain ⟨hP, hD⟩ := jn_A hP hD [0, 1] [2] rfl rfl (by decide) (by decide) hk1 hFc hP1 hD1
          obtain ⟨hP, hD⟩ : PD g A H [(a_seen, .inl (cs 0, a_seen_n, .inl (upd a_seen_f a_order.toNatClampNeg v))), (a, .inr (13, [.ref a_out, .ref a_walk, .ref a_next, .ref a_seen, .int a_n_7, .int a_over_7, .int (a_order + 1)])), (a_out, .inl (cs 1, a_out_n, .inl a_out_f_7))] := ⟨hP, hD⟩
          refine lv_aload_n hx hb d_MoPaper_variable_60 rfl (lv_at hl 1 rfl) ?_
          refine lv_iload_n hx hb d_MoPaper_variable_61 rfl (lv_at hl 0 rfl) ?_
          refine lv_i2l hx hb d_MoPaper_variable_62 rfl ?_
          obtain ⟨⟨a_n_8, a_over_8, a_out_f_8⟩, hc8, hok⟩ := bd_some hok
          dsimp only at hok
          obtain ⟨hPc, hDc, hFc⟩ := cut0 (wc := [(a, .inr (13, [.ref a_out, .ref a_walk, .ref a_next, .ref a_seen, .int a_n_7, .int a_over_7, .int (a_order + 1)])), (a_out, .inl (cs 1, a_out_n, .inl a_out_f_7))]) hP hD hS hA [1, 2] (by decide) rfl
          refine va_callv (va_runV (As := [.long x2_1.toInt64]) (rest := []) ⟨hx, hb, hml, hown, hg⟩ (c_MoPaper_number l g cs ka a_walk a_next a_seen a a_out H.size n x2_1.toInt64 a_n_7 a_over_7 (a_order + 1) a_out_n a_out_f_7 a_n_8 a_over_8 a_out_f_8 hc8) (cwV (C := R_MoPaper) 1 hg (gw_V wd_762 wd_763 wd_764 wd_742 wd_761) rfl rfl rfl (by decide +kernel) ⟨Nat.le_of_ble_eq_true rfl, Nat.le_of_ble_eq_true rfl⟩) ⟨gP_blind, va_recv (q0 := 1) (ci := 13) (q := (R_MoPaper, F_MoPaper, 7)) hK hP rfl rfl, gP_pre hPc hDc hK hgl hkn hkr hS hFc⟩ rfl rfl hl.1 rfl (lv_room (Nat.le_of_ble_eq_true rfl)) d_MoPaper_variable_63 ⟨Nat.le_of_ble_eq_true rfl, Nat.le_of_ble_eq_true rfl⟩) hS (fun q _ h => hFc q h) hFc (fun u t H locs ht hvm hr8 hB hz1 hk1 hS => ?_)
          rw [ht] at hB
          obtain ⟨hP1, hD1⟩ := hB
          obtain ⟨hP, hD⟩ := jn_A hP hD [1, 2] [0] rfl rfl (by decide) (by decide) hk1 hFc hP1 hD1
          obtain ⟨hP, hD⟩ : PD g A H [(a_seen, .inl (cs 0, a_seen_n, .inl (upd a_seen_f a_order.toNatClampNeg v))), (a, .inr (13, [.ref a_out, .ref a_walk, .ref a_next, .ref a_seen, .int a_n_8, .int a_over_8, .int (a_order + 1)])), (a_out, .inl (cs 1, a_out_n, .inl a_out_f_8))] := ⟨hP, hD⟩
          have hq := Option.some.inj hok
          obtain ⟨hq0, hq⟩ := Prod.mk.inj hq
          obtain ⟨hq1, hq⟩ := Prod.mk.inj hq
          obtain ⟨hq2, hq⟩ := Prod.mk.inj hq
          obtain ⟨hq3, hq⟩ := Prod.mk.inj hq
          have hq4 := hq
          subst hq0
          subst hq1
          subst hq2
          subst hq3
          subst hq4
          obtain ⟨hP9, hD9⟩ := sub2 (ws' := [(a, .inr (13, [.ref a_out, .ref a_walk, .ref a_next, .ref a_seen, .int a_n_8, .int a_over_8, .int (a_order + 1)])), (a_out, .inl (cs 1, a_out_n, .inl a_out_f_8)), (a_seen, .inl (cs 0, a_seen_n, .inl (upd a_seen_f a_order.toNatClampNeg v)))]) hP hD [1, 2, 0] rfl (by decide) rfl
          rw [hQ]
          exact W.vret hx hb hr (fun t ht hW => ⟨⟨(), rfl, trivial, by rw [ht]; exact hP9, hD9⟩, hS.F ht⟩) hS.2.2 d_MoPaper_variable_66
      · rw [if_neg h2] at hok
        refine lv_aload_n hx hb d_MoPaper_variable_10 rfl (lv_at hl 1 rfl) ?_
        refine va_get (D := g) (ci := 13) (v := .ref a_seen) (C := R_MoPaper) (T := F_MoPaper) (N := 7) hx hb hg ul_MoPaper hown hK hP 0 rfl rfl 3 (by decide) (hg _ wd_735) (fun _ h9 => h9) rfl d_MoPaper_variable_11 ?_
        refine lv_iload_n hx hb d_MoPaper_variable_14 rfl (lv_at hl 0 rfl) ?_
        obtain ⟨hi9, hok⟩ := ck_some hok
        refine va_iald hx hb hK hP 2 0 rfl rfl (ixb_in hi9) d_MoPaper_variable_15 ?_
        refine lv_iload_n hx hb d_MoPaper_variable_16 rfl (lv_at hl 2 rfl) ?_
        refine lv_icmp_eq hx hb d_MoPaper_variable_17 rfl (fun h10 => ?_) (fun h10 => ?_)
        · rw [if_pos h10] at hok
          refine lv_iload_n hx hb d_MoPaper_variable_26 rfl (lv_at hl 0 rfl) ?_
          refine lv_aload_n hx hb d_MoPaper_variable_27 rfl (lv_at hl 1 rfl) ?_
          refine va_get (D := g) (ci := 13) (v := .int a_order) (C := R_MoPaper) (T := F_MoPaper) (N := 7) hx hb hg ul_MoPaper hown hK hP 0 rfl rfl 6 (by decide) (hg _ wd_760) (fun _ h9 => h9) rfl d_MoPaper_variable_28 ?_
          refine lv_icmp_ne hx hb d_MoPaper_variable_31 rfl (fun h11 => ?_) (fun h11 => ?_)
          · rw [if_neg h11] at hok
            refine lv_aload_n hx hb d_MoPaper_variable_54 rfl (lv_at hl 1 rfl) ?_
            refine lv_bipush (v := 95) hx hb d_MoPaper_variable_55 (by decide) ?_
            obtain ⟨⟨a_n_12, a_over_12, a_out_f_12⟩, hc12, hok⟩ := bd_some hok
            dsimp only at hok
            obtain ⟨hPc, hDc, hFc⟩ := cut0 (wc := [(a, .inr (13, [.ref a_out, .ref a_walk, .ref a_next, .ref a_seen, .int a_n, .int a_over, .int a_order])), (a_out, .inl (cs 1, a_out_n, .inl a_out_f))]) hP hD hS hA [0, 1] (by decide) rfl
            refine va_callv (va_runV (As := [.int 95]) (rest := []) ⟨hx, hb, hml, hown, hg⟩ (c_MoPaper_put l g cs ka a_walk a_next a_seen a a_out H.size (95 : Int32) a_n a_over a_order a_out_n a_out_f a_n_12 a_over_12 a_out_f_12 hc12) (cwV (C := R_MoPaper) 1 hg (gw_V wd_743 wd_744 wd_745 wd_742 wd_741) rfl rfl rfl (by decide +kernel) ⟨Nat.le_of_ble_eq_true rfl, Nat.le_of_ble_eq_true rfl⟩) ⟨gP_blind, va_recv (q0 := 0) (ci := 13) (q := (R_MoPaper, F_MoPaper, 7)) hK hP rfl rfl, gP_pre hPc hDc hK hgl hkn hkr hS hFc⟩ rfl rfl hl.1 rfl (lv_room (Nat.le_of_ble_eq_true rfl)) d_MoPaper_variable_57 ⟨Nat.le_of_ble_eq_true rfl, Nat.le_of_ble_eq_true rfl⟩) hS (fun q _ h => hFc q h) hFc (fun u t H locs ht hvm hr12 hB hz1 hk1 hS => ?_)
            rw [ht] at hB
            obtain ⟨hP1, hD1⟩ := hB
            obtain ⟨hP, hD⟩ := jn_A hP hD [0, 1] [2] rfl rfl (by decide) (by decide) hk1 hFc hP1 hD1
            obtain ⟨hP, hD⟩ : PD g A H [(a_seen, .inl (cs 0, a_seen_n, .inl a_seen_f)), (a, .inr (13, [.ref a_out, .ref a_walk, .ref a_next, .ref a_seen, .int a_n_12, .int a_over_12, .int a_order])), (a_out, .inl (cs 1, a_out_n, .inl a_out_f_12))] := ⟨hP, hD⟩
            refine lv_aload_n hx hb d_MoPaper_variable_60 rfl (lv_at hl 1 rfl) ?_
            refine lv_iload_n hx hb d_MoPaper_variable_61 rfl (lv_at hl 0 rfl) ?_
            refine lv_i2l hx hb d_MoPaper_variable_62 rfl ?_
            obtain ⟨⟨a_n_13, a_over_13, a_out_f_13⟩, hc13, hok⟩ := bd_some hok
            dsimp only at hok
            obtain ⟨hPc, hDc, hFc⟩ := cut0 (wc := [(a, .inr (13, [.ref a_out, .ref a_walk, .ref a_next, .ref a_seen, .int a_n_12, .int a_over_12, .int a_order])), (a_out, .inl (cs 1, a_out_n, .inl a_out_f_12))]) hP hD hS hA [1, 2] (by decide) rfl
            refine va_callv (va_runV (As := [.long x2_1.toInt64]) (rest := []) ⟨hx, hb, hml, hown, hg⟩ (c_MoPaper_number l g cs ka a_walk a_next a_seen a a_out H.size n x2_1.toInt64 a_n_12 a_over_12 a_order a_out_n a_out_f_12 a_n_13 a_over_13 a_out_f_13 hc13) (cwV (C := R_MoPaper) 1 hg (gw_V wd_762 wd_763 wd_764 wd_742 wd_761) rfl rfl rfl (by decide +kernel) ⟨Nat.le_of_ble_eq_true rfl, Nat.le_of_ble_eq_true rfl⟩) ⟨gP_blind, va_recv (q0 := 1) (ci := 13) (q := (R_MoPaper, F_MoPaper, 7)) hK hP rfl rfl, gP_pre hPc hDc hK hgl hkn hkr hS hFc⟩ rfl rfl hl.1 rfl (lv_room (Nat.le_of_ble_eq_true rfl)) d_MoPaper_variable_63 ⟨Nat.le_of_ble_eq_true rfl, Nat.le_of_ble_eq_true rfl⟩) hS (fun q _ h => hFc q h) hFc (fun u t H locs ht hvm hr13 hB hz1 hk1 hS => ?_)
            rw [ht] at hB
            obtain ⟨hP1, hD1⟩ := hB
            obtain ⟨hP, hD⟩ := jn_A hP hD [1, 2] [0] rfl rfl (by decide) (by decide) hk1 hFc hP1 hD1
            obtain ⟨hP, hD⟩ : PD g A H [(a_seen, .inl (cs 0, a_seen_n, .inl a_seen_f)), (a, .inr (13, [.ref a_out, .ref a_walk, .ref a_next, .ref a_seen, .int a_n_13, .int a_over_13, .int a_order])), (a_out, .inl (cs 1, a_out_n, .inl a_out_f_13))] := ⟨hP, hD⟩
            have hq := Option.some.inj hok
            obtain ⟨hq0, hq⟩ := Prod.mk.inj hq
            obtain ⟨hq1, hq⟩ := Prod.mk.inj hq
            obtain ⟨hq2, hq⟩ := Prod.mk.inj hq
            obtain ⟨hq3, hq⟩ := Prod.mk.inj hq
            have hq4 := hq
            subst hq0
            subst hq1
            subst hq2
            subst hq3
            subst hq4
            obtain ⟨hP9, hD9⟩ := sub2 (ws' := [(a, .inr (13, [.ref a_out, .ref a_walk, .ref a_next, .ref a_seen, .int a_n_13, .int a_over_13, .int a_order])), (a_out, .inl (cs 1, a_out_n, .inl a_out_f_13)), (a_seen, .inl (cs 0, a_seen_n, .inl a_seen_f))]) hP hD [1, 2, 0] rfl (by decide) rfl
            rw [hQ]
            exact W.vret hx hb hr (fun t ht hW => ⟨⟨(), rfl, trivial, by rw [ht]; exact hP9, hD9⟩, hS.F ht⟩) hS.2.2 d_MoPaper_variable_66
          · rw [if_pos h11] at hok
            refine lv_aload_n hx hb d_MoPaper_variable_34 rfl (lv_at hl 1 rfl) ?_
            refine va_get (D := g) (ci := 13) (v := .ref a_seen) (C := R_MoPaper) (T := F_MoPaper) (N := 7) hx hb hg ul_MoPaper hown hK hP 0 rfl rfl 3 (by decide) (hg _ wd_735) (fun _ h9 => h9) rfl d_MoPaper_variable_35 ?_
            refine lv_aload_n hx hb d_MoPaper_variable_38 rfl (lv_at hl 1 rfl) ?_
            refine va_get (D := g) (ci := 13) (v := .int a_order) (C := R_MoPaper) (T := F_MoPaper) (N := 7) hx hb hg ul_MoPaper hown hK hP 0 rfl rfl 6 (by decide) (hg _ wd_760) (fun _ h9 => h9) rfl d_MoPaper_variable_39 ?_
            refine lv_iload_n hx hb d_MoPaper_variable_42 rfl (lv_at hl 2 rfl) ?_
            obtain ⟨hi14, hok⟩ := ck_some hok
            refine va_iast hx hb hK hP hD hS 2 0 rfl rfl (ixb_in hi14) d_MoPaper_variable_43 (fun H locs hP hD hS => ?_)
            obtain ⟨hP, hD⟩ : PD g A H [(a, .inr (13, [.ref a_out, .ref a_walk, .ref a_next, .ref a_seen, .int a_n, .int a_over, .int a_order])), (a_out, .inl (cs 1, a_out_n, .inl a_out_f)), (a_seen, .inl (cs 0, a_seen_n, .inl (upd a_seen_f a_order.toNatClampNeg v)))] := ⟨hP, hD⟩
            refine lv_aload_n hx hb d_MoPaper_variable_44 rfl (lv_at hl 1 rfl) ?_
            refine lv_dup hx hb d_MoPaper_variable_45 rfl ?_
            refine va_get (D := g) (ci := 13) (v := .int a_order) (C := R_MoPaper) (T := F_MoPaper) (N := 7) hx hb hg ul_MoPaper hown hK hP 0 rfl rfl 6 (by decide) (hg _ wd_760) (fun _ h9 => h9) rfl d_MoPaper_variable_46 ?_
            refine lv_iconst (v := 1) hx hb d_MoPaper_variable_49 (by decide) ?_
            refine lv_iadd hx hb d_MoPaper_variable_50 ?_
            refine va_put (D := g) (ci := 13) (v := .int (a_order + 1)) (ty := .int) (C := R_MoPaper) (T := F_MoPaper) (N := 7) hx hb hg ul_MoPaper t_MoPaper tk_MoPaper n_MoPaper hown hK hP hD hS 0 rfl rfl 6 (by decide) (hg _ wd_760) (fun _ h9 => h9) rfl (by decide +kernel) rfl rfl (Nat.le_of_ble_eq_true rfl) d_MoPaper_variable_51 (fun H locs hP hD hS => ?_)
            obtain ⟨hP, hD⟩ : PD g A H [(a, .inr (13, [.ref a_out, .ref a_walk, .ref a_next, .ref a_seen, .int a_n, .int a_over, .int (a_order + 1)])), (a_out, .inl (cs 1, a_out_n, .inl a_out_f)), (a_seen, .inl (cs 0, a_seen_n, .inl (upd a_seen_f a_order.toNatClampNeg v)))] := ⟨hP, hD⟩
            refine lv_aload_n hx hb d_MoPaper_variable_54 rfl (lv_at hl 1 rfl) ?_
            refine lv_bipush (v := 95) hx hb d_MoPaper_variable_55 (by decide) ?_
            obtain ⟨⟨a_n_15, a_over_15, a_out_f_15⟩, hc15, hok⟩ := bd_some hok
            dsimp only at hok
            obtain ⟨hPc, hDc, hFc⟩ := cut0 (wc := [(a, .inr (13, [.ref a_out, .ref a_walk, .ref a_next, .ref a_seen, .int a_n, .int a_over, .int (a_order + 1)])), (a_out, .inl (cs 1, a_out_n, .inl a_out_f))]) hP hD hS hA [0, 1] (by decide) rfl
            refine va_callv (va_runV (As := [.int 95]) (rest := []) ⟨hx, hb, hml, hown, hg⟩ (c_MoPaper_put l g cs ka a_walk a_next a_seen a a_out H.size (95 : Int32) a_n a_over (a_order + 1) a_out_n a_out_f a_n_15 a_over_15 a_out_f_15 hc15) (cwV (C := R_MoPaper) 1 hg (gw_V wd_743 wd_744 wd_745 wd_742 wd_741) rfl rfl rfl (by decide +kernel) ⟨Nat.le_of_ble_eq_true rfl, Nat.le_of_ble_eq_true rfl⟩) ⟨gP_blind, va_recv (q0 := 0) (ci := 13) (q := (R_MoPaper, F_MoPaper, 7)) hK hP rfl rfl, gP_pre hPc hDc hK hgl hkn hkr hS hFc⟩ rfl rfl hl.1 rfl (lv_room (Nat.le_of_ble_eq_true rfl)) d_MoPaper_variable_57 ⟨Nat.le_of_ble_eq_true rfl, Nat.le_of_ble_eq_true rfl⟩) hS (fun q _ h => hFc q h) hFc (fun u t H locs ht hvm hr15 hB hz1 hk1 hS => ?_)
            rw [ht] at hB
            obtain ⟨hP1, hD1⟩ := hB
            obtain ⟨hP, hD⟩ := jn_A hP hD [0, 1] [2] rfl rfl (by decide) (by decide) hk1 hFc hP1 hD1
            obtain ⟨hP, hD⟩ : PD g A H [(a_seen, .inl (cs 0, a_seen_n, .inl (upd a_seen_f a_order.toNatClampNeg v))), (a, .inr (13, [.ref a_out, .ref a_walk, .ref a_next, .ref a_seen, .int a_n_15, .int a_over_15, .int (a_order + 1)])), (a_out, .inl (cs 1, a_out_n, .inl a_out_f_15))] := ⟨hP, hD⟩
            refine lv_aload_n hx hb d_MoPaper_variable_60 rfl (lv_at hl 1 rfl) ?_
            refine lv_iload_n hx hb d_MoPaper_variable_61 rfl (lv_at hl 0 rfl) ?_
            refine lv_i2l hx hb d_MoPaper_variable_62 rfl ?_
            obtain ⟨⟨a_n_16, a_over_16, a_out_f_16⟩, hc16, hok⟩ := bd_some hok
            dsimp only at hok
            obtain ⟨hPc, hDc, hFc⟩ := cut0 (wc := [(a, .inr (13, [.ref a_out, .ref a_walk, .ref a_next, .ref a_seen, .int a_n_15, .int a_over_15, .int (a_order + 1)])), (a_out, .inl (cs 1, a_out_n, .inl a_out_f_15))]) hP hD hS hA [1, 2] (by decide) rfl
            refine va_callv (va_runV (As := [.long x2_1.toInt64]) (rest := []) ⟨hx, hb, hml, hown, hg⟩ (c_MoPaper_number l g cs ka a_walk a_next a_seen a a_out H.size n x2_1.toInt64 a_n_15 a_over_15 (a_order + 1) a_out_n a_out_f_15 a_n_16 a_over_16 a_out_f_16 hc16) (cwV (C := R_MoPaper) 1 hg (gw_V wd_762 wd_763 wd_764 wd_742 wd_761) rfl rfl rfl (by decide +kernel) ⟨Nat.le_of_ble_eq_true rfl, Nat.le_of_ble_eq_true rfl⟩) ⟨gP_blind, va_recv (q0 := 1) (ci := 13) (q := (R_MoPaper, F_MoPaper, 7)) hK hP rfl rfl, gP_pre hPc hDc hK hgl hkn hkr hS hFc⟩ rfl rfl hl.1 rfl (lv_room (Nat.le_of_ble_eq_true rfl)) d_MoPaper_variable_63 ⟨Nat.le_of_ble_eq_true rfl, Nat.le_of_ble_eq_true rfl⟩) hS (fun q _ h => hFc q h) hFc (fun u t H locs ht hvm hr16 hB hz1 hk1 hS => ?_)
            rw [ht] at hB
            obtain ⟨hP1, hD1⟩ := hB
            obtain ⟨hP, hD⟩ := jn_A hP hD [1, 2] [0] rfl rfl (by decide) (by decide) hk1 hFc hP1 hD1
            obtain ⟨hP, hD⟩ : PD g A H [(a_seen, .inl (cs 0, a_seen_n, .inl (upd a_seen_f a_order.toNatClampNeg v))), (a, .inr (13, [.ref a_out, .ref a_walk, .ref a_next, .ref a_seen, .int a_n_16, .int a_over_16, .int (a_order + 1)])), (a_out, .inl (cs 1, a_out_n, .inl a_out_f_16))] := ⟨hP, hD⟩
            have hq := Option.some.inj hok
            obtain ⟨hq0, hq⟩ := Prod.mk.inj hq
            obtain ⟨hq1, hq⟩ := Prod.mk.inj hq
            obtain ⟨hq2, hq⟩ := Prod.mk.inj hq
            obtain ⟨hq3, hq⟩ := Prod.mk.inj hq
            have hq4 := hq
            subst hq0
            subst hq1
            subst hq2
            subst hq3
            subst hq4
            obtain ⟨hP9, hD9⟩ := sub2 (ws' := [(a, .inr (13, [.ref a_out, .ref a_walk, .ref a_next, .ref a_seen, .int a_n_16, .int a_over_16, .int (a_order + 1)])), (a_out, .inl (cs 1, a_out_n, .inl a_out_f_16)), (a_seen, .inl (cs 0, a_seen_n, .inl (upd a_seen_f a_order.toNatClampNeg v)))]) hP hD [1, 2, 0] rfl (by decide) rfl
            rw [hQ]
            exact W.vret hx hb hr (fun t ht hW => ⟨⟨(), rfl, trivial, by rw [ht]; exact hP9, hD9⟩, hS.F ht⟩) hS.2.2 d_MoPaper_variable_66
        · rw [if_neg h10] at hok
          refine lv_iinc (k := 0) (v := x2_1 + 1) hx hb d_MoPaper_variable_20 hl rfl rfl (by decide) rfl (fun ls hl => ?_)
          have hl : lv_has ls 3 [(2, .int (x2_1 + 1)), (0, .ref a), (1, .int v)] := hl
          refine lv_goto hx hb d_MoPaper_variable_23 rfl ?_
          exact ih1 _ _ _ (x2_1 + 1) (lv_sub hl [0, 1, 2] rfl) (sub3 hP hD [0, 1, 2] (by decide)) hS hok
  exact J1 n H locs ls (0 : Int32) hl ⟨hP, hD⟩ hS hok

theorem d_MoPaper_compound_0 : decode b_MoPaper_compound 0 = .ok (.iload 4, 2) := by decide +kernel
theorem d_MoPaper_compound_2 : decode b_MoPaper_compound 2 = .ok (.ifCond .ne 14, 3) := by decide +kernel
theorem d_MoPaper_compound_5 : decode b_MoPaper_compound 5 = .ok (.aload_n 0, 1) := by decide +kernel
theorem d_MoPaper_compound_6 : decode b_MoPaper_compound 6 = .ok (.aload_n 2, 1) := by decide +kernel
theorem d_MoPaper_compound_7 : decode b_MoPaper_compound 7 = .ok (.aload_n 1, 1) := by decide +kernel
theorem d_MoPaper_compound_8 : decode b_MoPaper_compound 8 = .ok (.getfield 83, 3) := by decide +kernel
theorem d_MoPaper_compound_11 : decode b_MoPaper_compound 11 = .ok (.iload_n 3, 1) := by decide +kernel
theorem d_MoPaper_compound_12 : decode b_MoPaper_compound 12 = .ok (.iaload, 1) := by decide +kernel
theorem d_MoPaper_compound_13 : decode b_MoPaper_compound 13 = .ok (.invokevirtual 102, 3) := by decide +kernel
theorem d_MoPaper_compound_16 : decode b_MoPaper_compound 16 = .ok (.aload_n 1, 1) := by decide +kernel
theorem d_MoPaper_compound_17 : decode b_MoPaper_compound 17 = .ok (.getfield 92, 3) := by decide +kernel
theorem d_MoPaper_compound_20 : decode b_MoPaper_compound 20 = .ok (.iload_n 3, 1) := by decide +kernel
theorem d_MoPaper_compound_21 : decode b_MoPaper_compound 21 = .ok (.iaload, 1) := by decide +kernel
theorem d_MoPaper_compound_22 : decode b_MoPaper_compound 22 = .ok (.ifCond .ne 8, 3) := by decide +kernel
theorem d_MoPaper_compound_25 : decode b_MoPaper_compound 25 = .ok (.iload 5, 2) := by decide +kernel
theorem d_MoPaper_compound_27 : decode b_MoPaper_compound 27 = .ok (.iconst 1, 1) := by decide +kernel
theorem d_MoPaper_compound_28 : decode b_MoPaper_compound 28 = .ok (.isub, 1) := by decide +kernel
theorem d_MoPaper_compound_29 : decode b_MoPaper_compound 29 = .ok (.ireturn, 1) := by decide +kernel
theorem d_MoPaper_compound_30 : decode b_MoPaper_compound 30 = .ok (.iload 4, 2) := by decide +kernel
theorem d_MoPaper_compound_32 : decode b_MoPaper_compound 32 = .ok (.aload_n 1, 1) := by decide +kernel
theorem d_MoPaper_compound_33 : decode b_MoPaper_compound 33 = .ok (.getfield 92, 3) := by decide +kernel
theorem d_MoPaper_compound_36 : decode b_MoPaper_compound 36 = .ok (.iload_n 3, 1) := by decide +kernel
theorem d_MoPaper_compound_37 : decode b_MoPaper_compound 37 = .ok (.iaload, 1) := by decide +kernel
theorem d_MoPaper_compound_38 : decode b_MoPaper_compound 38 = .ok (.if_icmp .ne 14, 3) := by decide +kernel
theorem d_MoPaper_compound_41 : decode b_MoPaper_compound 41 = .ok (.aload_n 0, 1) := by decide +kernel
theorem d_MoPaper_compound_42 : decode b_MoPaper_compound 42 = .ok (.bipush 41, 2) := by decide +kernel
theorem d_MoPaper_compound_44 : decode b_MoPaper_compound 44 = .ok (.invokevirtual 33, 3) := by decide +kernel
theorem d_MoPaper_compound_47 : decode b_MoPaper_compound 47 = .ok (.iload 5, 2) := by decide +kernel
theorem d_MoPaper_compound_49 : decode b_MoPaper_compound 49 = .ok (.iconst 1, 1) := by decide +kernel
theorem d_MoPaper_compound_50 : decode b_MoPaper_compound 50 = .ok (.isub, 1) := by decide +kernel
theorem d_MoPaper_compound_51 : decode b_MoPaper_compound 51 = .ok (.ireturn, 1) := by decide +kernel
theorem d_MoPaper_compound_52 : decode b_MoPaper_compound 52 = .ok (.aload_n 0, 1) := by decide +kernel
theorem d_MoPaper_compound_53 : decode b_MoPaper_compound 53 = .ok (.iload 4, 2) := by decide +kernel
theorem d_MoPaper_compound_55 : decode b_MoPaper_compound 55 = .ok (.ifCond .ne 8, 3) := by decide +kernel
theorem d_MoPaper_compound_58 : decode b_MoPaper_compound 58 = .ok (.bipush 40, 2) := by decide +kernel
theorem d_MoPaper_compound_60 : decode b_MoPaper_compound 60 = .ok (.goto 5, 3) := by decide +kernel
theorem d_MoPaper_compound_63 : decode b_MoPaper_compound 63 = .ok (.bipush 44, 2) := by decide +kernel
theorem d_MoPaper_compound_65 : decode b_MoPaper_compound 65 = .ok (.invokevirtual 33, 3) := by decide +kernel
theorem d_MoPaper_compound_68 : decode b_MoPaper_compound 68 = .ok (.aload_n 0, 1) := by decide +kernel
theorem d_MoPaper_compound_69 : decode b_MoPaper_compound 69 = .ok (.getfield 19, 3) := by decide +kernel
theorem d_MoPaper_compound_72 : decode b_MoPaper_compound 72 = .ok (.iload 5, 2) := by decide +kernel
theorem d_MoPaper_compound_74 : decode b_MoPaper_compound 74 = .ok (.iload 4, 2) := by decide +kernel
theorem d_MoPaper_compound_76 : decode b_MoPaper_compound 76 = .ok (.iconst 1, 1) := by decide +kernel
theorem d_MoPaper_compound_77 : decode b_MoPaper_compound 77 = .ok (.iadd, 1) := by decide +kernel
theorem d_MoPaper_compound_78 : decode b_MoPaper_compound 78 = .ok (.iastore, 1) := by decide +kernel
theorem d_MoPaper_compound_79 : decode b_MoPaper_compound 79 = .ok (.aload_n 0, 1) := by decide +kernel
theorem d_MoPaper_compound_80 : decode b_MoPaper_compound 80 = .ok (.getfield 15, 3) := by decide +kernel
theorem d_MoPaper_compound_83 : decode b_MoPaper_compound 83 = .ok (.iload 5, 2) := by decide +kernel
theorem d_MoPaper_compound_85 : decode b_MoPaper_compound 85 = .ok (.iconst 1, 1) := by decide +kernel
theorem d_MoPaper_compound_86 : decode b_MoPaper_compound 86 = .ok (.iadd, 1) := by decide +kernel
theorem d_MoPaper_compound_87 : decode b_MoPaper_compound 87 = .ok (.aload_n 1, 1) := by decide +kernel
theorem d_MoPaper_compound_88 : decode b_MoPaper_compound 88 = .ok (.iload_n 3, 1) := by decide +kernel
theorem d_MoPaper_compound_89 : decode b_MoPaper_compound 89 = .ok (.iload 4, 2) := by decide +kernel
theorem d_MoPaper_compound_91 : decode b_MoPaper_compound 91 = .ok (.invokevirtual 95, 3) := by decide +kernel
theorem d_MoPaper_compound_94 : decode b_MoPaper_compound 94 = .ok (.iastore, 1) := by decide +kernel
theorem d_MoPaper_compound_95 : decode b_MoPaper_compound 95 = .ok (.aload_n 0, 1) := by decide +kernel
theorem d_MoPaper_compound_96 : decode b_MoPaper_compound 96 = .ok (.getfield 19, 3) := by decide +kernel
theorem d_MoPaper_compound_99 : decode b_MoPaper_compound 99 = .ok (.iload 5, 2) := by decide +kernel
theorem d_MoPaper_compound_101 : decode b_MoPaper_compound 101 = .ok (.iconst 1, 1) := by decide +kernel
theorem d_MoPaper_compound_102 : decode b_MoPaper_compound 102 = .ok (.iadd, 1) := by decide +kernel
theorem d_MoPaper_compound_103 : decode b_MoPaper_compound 103 = .ok (.iconst 0, 1) := by decide +kernel
theorem d_MoPaper_compound_104 : decode b_MoPaper_compound 104 = .ok (.iastore, 1) := by decide +kernel
theorem d_MoPaper_compound_105 : decode b_MoPaper_compound 105 = .ok (.iload 5, 2) := by decide +kernel
theorem d_MoPaper_compound_107 : decode b_MoPaper_compound 107 = .ok (.iconst 1, 1) := by decide +kernel
theorem d_MoPaper_compound_108 : decode b_MoPaper_compound 108 = .ok (.iadd, 1) := by decide +kernel
theorem d_MoPaper_compound_109 : decode b_MoPaper_compound 109 = .ok (.ireturn, 1) := by decide +kernel
def p_MoPaper_compound (n : Nat) (tm : Int32) (i : Int32) (dp : Int32) (a_n : Int32) (a_over : Int32) (a_order : Int32) (a_out_n : Nat) (a_out_f : Nat → Int32) (a_walk_n : Nat) (a_walk_f : Nat → Int32) (a_next_n : Nat) (a_next_f : Nat → Int32) (tms_size : Int32) (tms_parts : Int32) (tms_name_n : Nat) (tms_name_f : Nat → Int32) (tms_first_n : Nat) (tms_first_f : Nat → Int32) (tms_many_n : Nat) (tms_many_f : Nat → Int32) (tms_part_n : Nat) (tms_part_f : Nat → Int32) (nms_size : Int32) (nms_texted : Int32) (nms_text_n : Nat) (nms_text_f : Nat → Int32) (nms_from_n : Nat) (nms_from_f : Nat → Int32) : Option (Int32 × Int32 × Int32 × (Nat → Int32) × (Nat → Int32) × (Nat → Int32)) := if i = 0 then (ck (ixb tm tms_name_n) ((p_MoPaper_name n (tms_name_f tm.toNatClampNeg) a_n a_over a_order a_out_n a_out_f nms_size nms_texted nms_text_n nms_text_f nms_from_n nms_from_f).bind (fun (a_n_19, a_over_19, a_out_f_19) => ck (ixb tm tms_many_n) (if (tms_many_f tm.toNatClampNeg) = 0 then (some (dp - 1, a_n_19, a_over_19, a_out_f_19, a_walk_f, a_next_f)) else (ck (ixb tm tms_many_n) (if i = (tms_many_f tm.toNatClampNeg) then ((p_MoPaper_put (41 : Int32) a_n_19 a_over_19 a_order a_out_n a_out_f_19).bind (fun (a_n_35, a_over_35, a_out_f_35) => some (dp - 1, a_n_35, a_over_35, a_out_f_35, a_walk_f, a_next_f))) else (if i = 0 then ((p_MoPaper_put (40 : Int32) a_n_19 a_over_19 a_order a_out_n a_out_f_19).bind (fun (a_n_30, a_over_30, a_out_f_30) => ck (ixb dp a_next_n) ((p_MoTerms_part tm i tms_size tms_parts tms_first_n tms_first_f tms_part_n tms_part_f).bind (fun r32 => ck (ixb (dp + 1) a_walk_n) (ck (ixb (dp + 1) a_next_n) (some (dp + 1, a_n_30, a_over_30, a_out_f_30, upd a_walk_f (dp + 1).toNatClampNeg r32, upd (upd a_next_f dp.toNatClampNeg (i + 1)) (dp + 1).toNatClampNeg 0))))))) else ((p_MoPaper_put (44 : Int32) a_n_19 a_over_19 a_order a_out_n a_out_f_19).bind (fun (a_n_25, a_over_25, a_out_f_25) => ck (ixb dp a_next_n) ((p_MoTerms_part tm i tms_size tms_parts tms_first_n tms_first_f tms_part_n tms_part_f).bind (fun r27 => ck (ixb (dp + 1) a_walk_n) (ck (ixb (dp + 1) a_next_n) (some (dp + 1, a_n_25, a_over_25, a_out_f_25, upd a_walk_f (dp + 1).toNatClampNeg r27, upd (upd a_next_f dp.toNatClampNeg (i + 1)) (dp + 1).toNatClampNeg 0)))))))))))))) else (ck (ixb tm tms_many_n) (if (tms_many_f tm.toNatClampNeg) = 0 then (some (dp - 1, a_n, a_over, a_out_f, a_walk_f, a_next_f)) else (ck (ixb tm tms_many_n) (if i = (tms_many_f tm.toNatClampNeg) then ((p_MoPaper_put (41 : Int32) a_n a_over a_order a_out_n a_out_f).bind (fun (a_n_17, a_over_17, a_out_f_17) => some (dp - 1, a_n_17, a_over_17, a_out_f_17, a_walk_f, a_next_f))) else (if i = 0 then ((p_MoPaper_put (40 : Int32) a_n a_over a_order a_out_n a_out_f).bind (fun (a_n_12, a_over_12, a_out_f_12) => ck (ixb dp a_next_n) ((p_MoTerms_part tm i tms_size tms_parts tms_first_n tms_first_f tms_part_n tms_part_f).bind (fun r14 => ck (ixb (dp + 1) a_walk_n) (ck (ixb (dp + 1) a_next_n) (some (dp + 1, a_n_12, a_over_12, a_out_f_12, upd a_walk_f (dp + 1).toNatClampNeg r14, upd (upd a_next_f dp.toNatClampNeg (i + 1)) (dp + 1).toNatClampNeg 0))))))) else ((p_MoPaper_put (44 : Int32) a_n a_over a_order a_out_n a_out_f).bind (fun (a_n_7, a_over_7, a_out_f_7) => ck (ixb dp a_next_n) ((p_MoTerms_part tm i tms_size tms_parts tms_first_n tms_first_f tms_part_n tms_part_f).bind (fun r9 => ck (ixb (dp + 1) a_walk_n) (ck (ixb (dp + 1) a_next_n) (some (dp + 1, a_n_7, a_over_7, a_out_f_7, upd a_walk_f (dp + 1).toNatClampNeg r9, upd (upd a_next_f dp.toNatClampNeg (i + 1)) (dp + 1).toNatClampNeg 0))))))))))))
set_option maxHeartbeats 40000000 in
set_option maxRecDepth 100000 in
theorem c_MoPaper_compound (l : Launch) (g : va_G) (cs : Nat → ClassId) (ka : Nat → Nat) (a_seen : Nat) (tms_kind : Nat) (tms_number : Nat) (nms_next : Nat) (nms_first : Nat) (a a_out a_walk a_next tms tms_name tms_first tms_many tms_part nms nms_text nms_from : Nat) (sz : Nat) (n : Nat) (tm : Int32) (i : Int32) (dp : Int32) (a_n : Int32) (a_over : Int32) (a_order : Int32) (a_out_n : Nat) (a_out_f : Nat → Int32) (a_walk_n : Nat) (a_walk_f : Nat → Int32) (a_next_n : Nat) (a_next_f : Nat → Int32) (tms_size : Int32) (tms_parts : Int32) (tms_name_n : Nat) (tms_name_f : Nat → Int32) (tms_first_n : Nat) (tms_first_f : Nat → Int32) (tms_many_n : Nat) (tms_many_f : Nat → Int32) (tms_part_n : Nat) (tms_part_f : Nat → Int32) (nms_size : Int32) (nms_texted : Int32) (nms_text_n : Nat) (nms_text_f : Nat → Int32) (nms_from_n : Nat) (nms_from_f : Nat → Int32) (r : Int32) (o_a_n : Int32) (o_a_over : Int32) (o_a_out_f : Nat → Int32) (o_a_walk_f : Nat → Int32) (o_a_next_f : Nat → Int32) (hok : p_MoPaper_compound n tm i dp a_n a_over a_order a_out_n a_out_f a_walk_n a_walk_f a_next_n a_next_f tms_size tms_parts tms_name_n tms_name_f tms_first_n tms_first_f tms_many_n tms_many_f tms_part_n tms_part_f nms_size nms_texted nms_text_n nms_text_f nms_from_n nms_from_f = some (r, o_a_n, o_a_over, o_a_out_f, o_a_walk_f, o_a_next_f)) : Met l y_MoPaper_compound (.code y_MoPaper_compound b_MoPaper_compound 6 (some .int) :: GW) { frames := 7, cells := 0, slots := 0, locals := 162 } (va_Pc [.ref a, .ref tms, .ref nms, .int tm, .int i, .int dp] (gP g cs ka [(a, .inr (13, [.ref a_out, .ref a_walk, .ref a_next, .ref a_seen, .int a_n, .int a_over, .int a_order])), (a_out, .inl (cs 1, a_out_n, .inl a_out_f)), (a_walk, .inl (cs 0, a_walk_n, .inl a_walk_f)), (a_next, .inl (cs 0, a_next_n, .inl a_next_f)), (tms, .inr (11, [.ref tms_kind, .ref tms_name, .ref tms_first, .ref tms_many, .ref tms_part, .ref tms_number, .int tms_size, .int tms_parts])), (tms_name, .inl (cs 0, tms_name_n, .inl tms_name_f)), (tms_first, .inl (cs 0, tms_first_n, .inl tms_first_f)), (tms_many, .inl (cs 0, tms_many_n, .inl tms_many_f)), (tms_part, .inl (cs 0, tms_part_n, .inl tms_part_f)), (nms, .inr (10, [.ref nms_text, .ref nms_from, .ref nms_next, .ref nms_first, .int nms_size, .int nms_texted])), (nms_text, .inl (cs 1, nms_text_n, .inl nms_text_f)), (nms_from, .inl (cs 0, nms_from_n, .inl nms_from_f))] sz)) (va_Qi (fun (r' : Int32) (_ : Unit) => r = r') (fun _ t => va_P g classes [(a, .inr (13, [.ref a_out, .ref a_walk, .ref a_next, .ref a_seen, .int o_a_n, .int o_a_over, .int a_order])), (a_out, .inl (cs 1, a_out_n, .inl o_a_out_f)), (a_walk, .inl (cs 0, a_walk_n, .inl o_a_walk_f)), (a_next, .inl (cs 0, a_next_n, .inl o_a_next_f)), (tms, .inr (11, [.ref tms_kind, .ref tms_name, .ref tms_first, .ref tms_many, .ref tms_part, .ref tms_number, .int tms_size, .int tms_parts])), (tms_name, .inl (cs 0, tms_name_n, .inl tms_name_f)), (tms_first, .inl (cs 0, tms_first_n, .inl tms_first_f)), (tms_many, .inl (cs 0, tms_many_n, .inl tms_many_f)), (tms_part, .inl (cs 0, tms_part_n, .inl tms_part_f)), (nms, .inr (10, [.ref nms_text, .ref nms_from, .ref nms_next, .ref nms_first, .int nms_size, .int nms_texted])), (nms_text, .inl (cs 1, nms_text_n, .inl nms_text_f)), (nms_from, .inl (cs 0, nms_from_n, .inl nms_from_f))] t.heap ∧ va_D (va_A [(a, .inr (13, [.ref a_out, .ref a_walk, .ref a_next, .ref a_seen, .int a_n, .int a_over, .int a_order])), (a_out, .inl (cs 1, a_out_n, .inl a_out_f)), (a_walk, .inl (cs 0, a_walk_n, .inl a_walk_f)), (a_next, .inl (cs 0, a_next_n, .inl a_next_f)), (tms, .inr (11, [.ref tms_kind, .ref tms_name, .ref tms_first, .ref tms_many, .ref tms_part, .ref tms_number, .int tms_size, .int tms_parts])), (tms_name, .inl (cs 0, tms_name_n, .inl tms_name_f)), (tms_first, .inl (cs 0, tms_first_n, .inl tms_first_f)), (tms_many, .inl (cs 0, tms_many_n, .inl tms_many_f)), (tms_part, .inl (cs 0, tms_part_n, .inl tms_part_f)), (nms, .inr (10, [.ref nms_text, .ref nms_from, .ref nms_next, .ref nms_first, .int nms_size, .int nms_texted])), (nms_text, .inl (cs 1, nms_text_n, .inl nms_text_f)), (nms_from, .inl (cs 0, nms_from_n, .inl nms_from_f))] sz) [(a, .inr (13, [.ref a_out, .ref a_walk, .ref a_next, .ref a_seen, .int o_a_n, .int o_a_over, .int a_order])), (a_out, .inl (cs 1, a_out_n, .inl o_a_out_f)), (a_walk, .inl (cs 0, a_walk_n, .inl o_a_walk_f)), (a_next, .inl (cs 0, a_next_n, .inl o_a_next_f)), (tms, .inr (11, [.ref tms_kind, .ref tms_name, .ref tms_first, .ref tms_many, .ref tms_part, .ref tms_number, .int tms_size, .int tms_parts])), (tms_name, .inl (cs 0, tms_name_n, .inl tms_name_f)), (tms_first, .inl (cs 0, tms_first_n, .inl tms_first_f)), (tms_many, .inl (cs 0, tms_many_n, .inl tms_many_f)), (tms_part, .inl (cs 0, tms_part_n, .inl tms_part_f)), (nms, .inr (10, [.ref nms_text, .ref nms_from, .ref nms_next, .ref nms_first, .int nms_size, .int nms_texted])), (nms_text, .inl (cs 1, nms_text_n, .inl nms_text_f)), (nms_from, .inl (cs 0, nms_from_n, .inl nms_from_f))]) (va_A [(a, .inr (13, [.ref a_out, .ref a_walk, .ref a_next, .ref a_seen, .int a_n, .int a_over, .int a_order])), (a_out, .inl (cs 1, a_out_n, .inl a_out_f)), (a_walk, .inl (cs 0, a_walk_n, .inl a_walk_f)), (a_next, .inl (cs 0, a_next_n, .inl a_next_f)), (tms, .inr (11, [.ref tms_kind, .ref tms_name, .ref tms_first, .ref tms_many, .ref tms_part, .ref tms_number, .int tms_size, .int tms_parts])), (tms_name, .inl (cs 0, tms_name_n, .inl tms_name_f)), (tms_first, .inl (cs 0, tms_first_n, .inl tms_first_f)), (tms_many, .inl (cs 0, tms_many_n, .inl tms_many_f)), (tms_part, .inl (cs 0, tms_part_n, .inl tms_part_f)), (nms, .inr (10, [.ref nms_text, .ref nms_from, .ref nms_next, .ref nms_first, .int nms_size, .int nms_texted])), (nms_text, .inl (cs 1, nms_text_n, .inl nms_text_f)), (nms_from, .inl (cs 0, nms_from_n, .inl nms_from_f))] sz)) 0 0 (va_A [(a, .inr (13, [.ref a_out, .ref a_walk, .ref a_next, .ref a_seen, .int a_n, .int a_over, .int a_order])), (a_out, .inl (cs 1, a_out_n, .inl a_out_f)), (a_walk, .inl (cs 0, a_walk_n, .inl a_walk_f)), (a_next, .inl (cs 0, a_next_n, .inl a_next_f)), (tms, .inr (11, [.ref tms_kind, .ref tms_name, .ref tms_first, .ref tms_many, .ref tms_part, .ref tms_number, .int tms_size, .int tms_parts])), (tms_name, .inl (cs 0, tms_name_n, .inl tms_name_f)), (tms_first, .inl (cs 0, tms_first_n, .inl tms_first_f)), (tms_many, .inl (cs 0, tms_many_n, .inl tms_many_f)), (tms_part, .inl (cs 0, tms_part_n, .inl tms_part_f)), (nms, .inr (10, [.ref nms_text, .ref nms_from, .ref nms_next, .ref nms_first, .int nms_size, .int nms_texted])), (nms_text, .inl (cs 1, nms_text_n, .inl nms_text_f)), (nms_from, .inl (cs 0, nms_from_n, .inl nms_from_f))] sz) := by
  refine Met.ofW (cc := b_MoPaper_compound) (maxL := 6) (ret := (some .int)) (by decide) rfl ?_
  intro p e s m args below meth c s₁ B hml hv
  obtain ⟨rfl, hsz, hP, hK, hD0, hgl, hkn, hkr⟩ := hv
  have hx := B.exec
  have hb := B.bytes
  have hr := B.returns
  have hg : ∀ w ∈ GW, w.before ([.ref a, .ref tms, .ref nms, .int tm, .int i, .int dp] : List Value).toArray s = true := fun w hw => atoms_spec (ws := .code y_MoPaper_compound b_MoPaper_compound 6 (some .int) :: GW) B.pre w (List.mem_cons_of_mem _ hw)
  have hown : s.vm.findClass R_MoPaper = some m.cls := findClass_of_methodNamed B.named
  have hlocks := B.notSynchronized
  subst hsz
  have hD := hD0.self (sz := s.heap.size)
  generalize hAe : va_A [(a, .inr (13, [.ref a_out, .ref a_walk, .ref a_next, .ref a_seen, .int a_n, .int a_over, .int a_order])), (a_out, .inl (cs 1, a_out_n, .inl a_out_f)), (a_walk, .inl (cs 0, a_walk_n, .inl a_walk_f)), (a_next, .inl (cs 0, a_next_n, .inl a_next_f)), (tms, .inr (11, [.ref tms_kind, .ref tms_name, .ref tms_first, .ref tms_many, .ref tms_part, .ref tms_number, .int tms_size, .int tms_parts])), (tms_name, .inl (cs 0, tms_name_n, .inl tms_name_f)), (tms_first, .inl (cs 0, tms_first_n, .inl tms_first_f)), (tms_many, .inl (cs 0, tms_many_n, .inl tms_many_f)), (tms_part, .inl (cs 0, tms_part_n, .inl tms_part_f)), (nms, .inr (10, [.ref nms_text, .ref nms_from, .ref nms_next, .ref nms_first, .int nms_size, .int nms_texted])), (nms_text, .inl (cs 1, nms_text_n, .inl nms_text_f)), (nms_from, .inl (cs 0, nms_from_n, .inl nms_from_f))] s.heap.size = A at hD hkn ⊢
  have hA : ∀ q : Nat, s.heap.size ≤ q → A q := fun q h => by rw [← hAe]; exact Or.inr h
  have hS : va_S A s.heap s.heap [] := va_S.rf
  have hP : va_P g classes [(a, .inr (13, [.ref a_out, .ref a_walk, .ref a_next, .ref a_seen, .int a_n, .int a_over, .int a_order])), (a_out, .inl (cs 1, a_out_n, .inl a_out_f)), (a_walk, .inl (cs 0, a_walk_n, .inl a_walk_f)), (a_next, .inl (cs 0, a_next_n, .inl a_next_f)), (tms, .inr (11, [.ref tms_kind, .ref tms_name, .ref tms_first, .ref tms_many, .ref tms_part, .ref tms_number, .int tms_size, .int tms_parts])), (tms_name, .inl (cs 0, tms_name_n, .inl tms_name_f)), (tms_first, .inl (cs 0, tms_first_n, .inl tms_first_f)), (tms_many, .inl (cs 0, tms_many_n, .inl tms_many_f)), (tms_part, .inl (cs 0, tms_part_n, .inl tms_part_f)), (nms, .inr (10, [.ref nms_text, .ref nms_from, .ref nms_next, .ref nms_first, .int nms_size, .int nms_texted])), (nms_text, .inl (cs 1, nms_text_n, .inl nms_text_f)), (nms_from, .inl (cs 0, nms_from_n, .inl nms_from_f))] s.heap := hP
  have hl := lv_entry ([.ref a, .ref tms, .ref nms, .int tm, .int i, .int dp]) (n := 6) (Nat.le_of_ble_eq_true rfl)
  rw [lg_entry_eq]
  generalize (lg_sl ([.ref a, .ref tms, .ref nms, .int tm, .int i, .int dp]) ++ List.replicate (6 - (lg_sl ([.ref a, .ref tms, .ref nms, .int tm, .int i, .int dp])).length) Slot.unset).toArray = ls at hl ⊢
  have hl : lv_has ls 6 [(0, .ref a), (1, .ref tms), (2, .ref nms), (3, .int tm), (4, .int i), (5, .int dp)] := hl
  refine gq (fun Q hQ => ?_)
  obtain ⟨H, hH⟩ : ∃ H : Heap, H = s.heap := ⟨_, rfl⟩
  rw [← hH] at hP
  have hS : va_S A s.heap H [] := by rw [hH]; exact hS
  refine W.eqH hH ?_
  obtain ⟨locs, hlc⟩ : ∃ L : List Loc, L = [] := ⟨_, rfl⟩
  rw [← hlc] at hS ⊢
  unfold p_MoPaper_compound at hok
  refine lv_iload hx hb d_MoPaper_compound_0 (lv_at hl 4 rfl) ?_
  refine lv_if_ne hx hb d_MoPaper_compound_2 rfl (fun h1 => ?_) (fun h1 => ?_)
  · rw [if_neg h1] at hok
    refine lv_aload_n hx hb d_MoPaper_compound_16 rfl (lv_at hl 1 rfl) ?_
    refine va_get (D := g) (ci := 11) (v := .ref tms_many) (C := R_MoTerms) (T := F_MoTerms) (N := 8) hx hb hg ul_MoTerms hown hK hP 4 rfl rfl 3 (by decide) (hg _ wd_765) (fun _ h9 => h9) rfl d_MoPaper_compound_17 ?_
    refine lv_iload_n hx hb d_MoPaper_compound_20 rfl (lv_at hl 3 rfl) ?_
    obtain ⟨hi2, hok⟩ := ck_some hok
    refine va_iald hx hb hK hP 7 0 rfl rfl (ixb_in hi2) d_MoPaper_compound_21 ?_
    refine lv_if_ne hx hb d_MoPaper_compound_22 rfl (fun h3 => ?_) (fun h3 => ?_)
    · rw [if_neg h3] at hok
      refine lv_iload hx hb d_MoPaper_compound_30 (lv_at hl 4 rfl) ?_
      refine lv_aload_n hx hb d_MoPaper_compound_32 rfl (lv_at hl 1 rfl) ?_
      refine va_get (D := g) (ci := 11) (v := .ref tms_many) (C := R_MoTerms) (T := F_MoTerms) (N := 8) hx hb hg ul_MoTerms hown hK hP 4 rfl rfl 3 (by decide) (hg _ wd_765) (fun _ h9 => h9) rfl d_MoPaper_compound_33 ?_
      refine lv_iload_n hx hb d_MoPaper_compound_36 rfl (lv_at hl 3 rfl) ?_
      obtain ⟨hi4, hok⟩ := ck_some hok
      refine va_iald hx hb hK hP 7 0 rfl rfl (ixb_in hi4) d_MoPaper_compound_37 ?_
      refine lv_icmp_ne hx hb d_MoPaper_compound_38 rfl (fun h5 => ?_) (fun h5 => ?_)
      · rw [if_neg h5] at hok
        refine lv_aload_n hx hb d_MoPaper_compound_52 rfl (lv_at hl 0 rfl) ?_
        refine lv_iload hx hb d_MoPaper_compound_53 (lv_at hl 4 rfl) ?_
        refine lv_if_ne hx hb d_MoPaper_compound_55 rfl (fun h6 => ?_) (fun h6 => ?_)
        · rw [if_neg h6] at hok
          refine lv_bipush (v := 44) hx hb d_MoPaper_compound_63 (by decide) ?_
          obtain ⟨⟨a_n_7, a_over_7, a_out_f_7⟩, hc7, hok⟩ := bd_some hok
          dsimp only at hok
          obtain ⟨hPc, hDc, hFc⟩ := cut0 (wc := [(a, .inr (13, [.ref a_out, .ref a_walk, .ref a_next, .ref a_seen, .int a_n, .int a_over, .int a_order])), (a_out, .inl (cs 1, a_out_n, .inl a_out_f))]) hP hD hS hA [0, 1] (by decide) rfl
          refine va_callv (va_runV (As := [.int 44]) (rest := []) ⟨hx, hb, hml, hown, hg⟩ (c_MoPaper_put l g cs ka a_walk a_next a_seen a a_out H.size (44 : Int32) a_n a_over a_order a_out_n a_out_f a_n_7 a_over_7 a_out_f_7 hc7) (cwV (C := R_MoPaper) 1 hg (gw_V wd_743 wd_744 wd_745 wd_742 wd_741) rfl rfl rfl (by decide +kernel) ⟨Nat.le_of_ble_eq_true rfl, Nat.le_of_ble_eq_true rfl⟩) ⟨gP_blind, va_recv (q0 := 0) (ci := 13) (q := (R_MoPaper, F_MoPaper, 7)) hK hP rfl rfl, gP_pre hPc hDc hK hgl hkn hkr hS hFc⟩ rfl rfl hl.1 rfl (lv_room (Nat.le_of_ble_eq_true rfl)) d_MoPaper_compound_65 ⟨Nat.le_of_ble_eq_true rfl, Nat.le_of_ble_eq_true rfl⟩) hS (fun q _ h => hFc q h) hFc (fun u t H locs ht hvm hr7 hB hz1 hk1 hS => ?_)
          rw [ht] at hB
          obtain ⟨hP1, hD1⟩ := hB
          obtain ⟨hP, hD⟩ := jn_A hP hD [0, 1] [2, 3, 4, 5, 6, 7, 8, 9, 10, 11] rfl rfl (by decide) (by decide) hk1 hFc hP1 hD1
          obtain ⟨hP, hD⟩ : PD g A H [(a_walk, .inl (cs 0, a_walk_n, .inl a_walk_f)), (a_next, .inl (cs 0, a_next_n, .inl a_next_f)), (tms, .inr (11, [.ref tms_kind, .ref tms_name, .ref tms_first, .ref tms_many, .ref tms_part, .ref tms_number, .int tms_size, .int tms_parts])), (tms_name, .inl (cs 0, tms_name_n, .inl tms_name_f)), (tms_first, .inl (cs 0, tms_first_n, .inl tms_first_f)), (tms_many, .inl (cs 0, tms_many_n, .inl tms_many_f)), (tms_part, .inl (cs 0, tms_part_n, .inl tms_part_f)), (nms, .inr (10, [.ref nms_text, .ref nms_from, .ref nms_next, .ref nms_first, .int nms_size, .int nms_texted])), (nms_text, .inl (cs 1, nms_text_n, .inl nms_text_f)), (nms_from, .inl (cs 0, nms_from_n, .inl nms_from_f)), (a, .inr (13, [.ref a_out, .ref a_walk, .ref a_next, .ref a_seen, .int a_n_7, .int a_over_7, .int a_order])), (a_out, .inl (cs 1, a_out_n, .inl a_out_f_7))] := ⟨hP, hD⟩
          refine lv_aload_n hx hb d_MoPaper_compound_68 rfl (lv_at hl 0 rfl) ?_
          refine va_get (D := g) (ci := 13) (v := .ref a_next) (C := R_MoPaper) (T := F_MoPaper) (N := 7) hx hb hg ul_MoPaper hown hK hP 10 rfl rfl 2 (by decide) (hg _ wd_734) (fun _ h9 => h9) rfl d_MoPaper_compound_69 ?_
          refine lv_iload hx hb d_MoPaper_compound_72 (lv_at hl 5 rfl) ?_
          refine lv_iload hx hb d_MoPaper_compound_74 (lv_at hl 4 rfl) ?_
          refine lv_iconst (v := 1) hx hb d_MoPaper_compound_76 (by decide) ?_
          refine lv_iadd hx hb d_MoPaper_compound_77 ?_
          obtain ⟨hi8, hok⟩ := ck_some hok
          refine va_iast hx hb hK hP hD hS 1 0 rfl rfl (ixb_in hi8) d_MoPaper_compound_78 (fun H locs hP hD hS => ?_)
          obtain ⟨hP, hD⟩ : PD g A H [(a_walk, .inl (cs 0, a_walk_n, .inl a_walk_f)), (a_next, .inl (cs 0, a_next_n, .inl (upd a_next_f dp.toNatClampNeg (i + 1)))), (tms, .inr (11, [.ref tms_kind, .ref tms_name, .ref tms_first, .ref tms_many, .ref tms_part, .ref tms_number, .int tms_size, .int tms_parts])), (tms_name, .inl (cs 0, tms_name_n, .inl tms_name_f)), (tms_first, .inl (cs 0, tms_first_n, .inl tms_first_f)), (tms_many, .inl (cs 0, tms_many_n, .inl tms_many_f)), (tms_part, .inl (cs 0, tms_part_n, .inl tms_part_f)), (nms, .inr (10, [.ref nms_text, .ref nms_from, .ref nms_next, .ref nms_first, .int nms_size, .int nms_texted])), (nms_text, .inl (cs 1, nms_text_n, .inl nms_text_f)), (nms_from, .inl (cs 0, nms_from_n, .inl nms_from_f)), (a, .inr (13, [.ref a_out, .ref a_walk, .ref a_next, .ref a_seen, .int a_n_7, .int a_over_7, .int a_order])), (a_out, .inl (cs 1, a_out_n, .inl a_out_f_7))] := ⟨hP, hD⟩
          refine lv_aload_n hx hb d_MoPaper_compound_79 rfl (lv_at hl 0 rfl) ?_
          refine va_get (D := g) (ci := 13) (v := .ref a_walk) (C := R_MoPaper) (T := F_MoPaper) (N := 7) hx hb hg ul_MoPaper hown hK hP 10 rfl rfl 1 (by decide) (hg _ wd_733) (fun _ h9 => h9) rfl d_MoPaper_compound_80 ?_
          refine lv_iload hx hb d_MoPaper_compound_83 (lv_at hl 5 rfl) ?_
          refine lv_iconst (v := 1) hx hb d_MoPaper_compound_85 (by decide) ?_
          refine lv_iadd hx hb d_MoPaper_compound_86 ?_
          refine lv_aload_n hx hb d_MoPaper_compound_87 rfl (lv_at hl 1 rfl) ?_
          refine lv_iload_n hx hb d_MoPaper_compound_88 rfl (lv_at hl 3 rfl) ?_
          refine lv_iload hx hb d_MoPaper_compound_89 (lv_at hl 4 rfl) ?_
          obtain ⟨r9, hc9, hok⟩ := bd_some hok
          obtain ⟨hPc, hDc, hFc⟩ := cut0 (wc := [(tms, .inr (11, [.ref tms_kind, .ref tms_name, .ref tms_first, .ref tms_many, .ref tms_part, .ref tms_number, .int tms_size, .int tms_parts])), (tms_first, .inl (cs 0, tms_first_n, .inl tms_first_f)), (tms_part, .inl (cs 0, tms_part_n, .inl tms_part_f))]) hP hD hS hA [2, 4, 6] (by decide) rfl
          refine va_calli (va_runV (As := [.int tm, .int i]) (rest := [.int (dp + 1), .ref a_walk]) ⟨hx, hb, hml, hown, hg⟩ (c_MoTerms_part l g cs ka tms_kind tms_name tms_many tms_number tms tms_first tms_part H.size tm i tms_size tms_parts tms_first_n tms_first_f tms_part_n tms_part_f r9 hc9) (cwV (C := R_MoTerms) 2 hg (gw_V wd_768 wd_769 wd_770 wd_767 wd_766) rfl rfl rfl (by decide +kernel) ⟨Nat.le_of_ble_eq_true rfl, Nat.le_of_ble_eq_true rfl⟩) ⟨gP_blind, va_recv (q0 := 2) (ci := 11) (q := (R_MoTerms, F_MoTerms, 8)) hK hP rfl rfl, gP_pre hPc hDc hK hgl hkn hkr hS hFc⟩ rfl rfl hl.1 rfl (lv_room (Nat.le_of_ble_eq_true rfl)) d_MoPaper_compound_91 ⟨Nat.le_of_ble_eq_true rfl, Nat.le_of_ble_eq_true rfl⟩) hS (fun q _ h => hFc q h) hFc (fun r9' u t H locs ht hvm hr9 hB hz1 hk1 hS => ?_)
          subst hr9
          rw [ht] at hB
          obtain ⟨hP1, hD1⟩ := hB
          obtain ⟨hP, hD⟩ := jn_A hP hD [2, 4, 6] [0, 1, 3, 5, 7, 8, 9, 10, 11] rfl rfl (by decide) (by decide) hk1 hFc hP1 hD1
          obtain ⟨hP, hD⟩ : PD g A H [(a_walk, .inl (cs 0, a_walk_n, .inl a_walk_f)), (a_next, .inl (cs 0, a_next_n, .inl (upd a_next_f dp.toNatClampNeg (i + 1)))), (tms_name, .inl (cs 0, tms_name_n, .inl tms_name_f)), (tms_many, .inl (cs 0, tms_many_n, .inl tms_many_f)), (nms, .inr (10, [.ref nms_text, .ref nms_from, .ref nms_next, .ref nms_first, .int nms_size, .int nms_texted])), (nms_text, .inl (cs 1, nms_text_n, .inl nms_text_f)), (nms_from, .inl (cs 0, nms_from_n, .inl nms_from_f)), (a, .inr (13, [.ref a_out, .ref a_walk, .ref a_next, .ref a_seen, .int a_n_7, .int a_over_7, .int a_order])), (a_out, .inl (cs 1, a_out_n, .inl a_out_f_7)), (tms, .inr (11, [.ref tms_kind, .ref tms_name, .ref tms_first, .ref tms_many, .ref tms_part, .ref tms_number, .int tms_size, .int tms_parts])), (tms_first, .inl (cs 0, tms_first_n, .inl tms_first_f)), (tms_part, .inl (cs 0, tms_part_n, .inl tms_part_f))] := ⟨hP, hD⟩
          obtain ⟨hi10, hok⟩ := ck_some hok
          refine va_iast hx hb hK hP hD hS 0 0 rfl rfl (ixb_in hi10) d_MoPaper_compound_94 (fun H locs hP hD hS => ?_)
          obtain ⟨hP, hD⟩ : PD g A H [(a_walk, .inl (cs 0, a_walk_n, .inl (upd a_walk_f (dp + 1).toNatClampNeg r9))), (a_next, .inl (cs 0, a_next_n, .inl (upd a_next_f dp.toNatClampNeg (i + 1)))), (tms_name, .inl (cs 0, tms_name_n, .inl tms_name_f)), (tms_many, .inl (cs 0, tms_many_n, .inl tms_many_f)), (nms, .inr (10, [.ref nms_text, .ref nms_from, .ref nms_next, .ref nms_first, .int nms_size, .int nms_texted])), (nms_text, .inl (cs 1, nms_text_n, .inl nms_text_f)), (nms_from, .inl (cs 0, nms_from_n, .inl nms_from_f)), (a, .inr (13, [.ref a_out, .ref a_walk, .ref a_next, .ref a_seen, .int a_n_7, .int a_over_7, .int a_order])), (a_out, .inl (cs 1, a_out_n, .inl a_out_f_7)), (tms, .inr (11, [.ref tms_kind, .ref tms_name, .ref tms_first, .ref tms_many, .ref tms_part, .ref tms_number, .int tms_size, .int tms_parts])), (tms_first, .inl (cs 0, tms_first_n, .inl tms_first_f)), (tms_part, .inl (cs 0, tms_part_n, .inl tms_part_f))] := ⟨hP, hD⟩
          refine lv_aload_n hx hb d_MoPaper_compound_95 rfl (lv_at hl 0 rfl) ?_
          refine va_get (D := g) (ci := 13) (v := .ref a_next) (C := R_MoPaper) (T := F_MoPaper) (N := 7) hx hb hg ul_MoPaper hown hK hP 7 rfl rfl 2 (by decide) (hg _ wd_734) (fun _ h9 => h9) rfl d_MoPaper_compound_96 ?_
          refine lv_iload hx hb d_MoPaper_compound_99 (lv_at hl 5 rfl) ?_
          refine lv_iconst (v := 1) hx hb d_MoPaper_compound_101 (by decide) ?_
          refine lv_iadd hx hb d_MoPaper_compound_102 ?_
          refine lv_iconst (v := 0) hx hb d_MoPaper_compound_103 (by decide) ?_
          obtain ⟨hi11, hok⟩ := ck_some hok
          refine va_iast hx hb hK hP hD hS 1 0 rfl rfl (ixb_in hi11) d_MoPaper_compound_104 (fun H locs hP hD hS => ?_)
          obtain ⟨hP, hD⟩ : PD g A H [(a_walk, .inl (cs 0, a_walk_n, .inl (upd a_walk_f (dp + 1).toNatClampNeg r9))), (a_next, .inl (cs 0, a_next_n, .inl (upd (upd a_next_f dp.toNatClampNeg (i + 1)) (dp + 1).toNatClampNeg 0))), (tms_name, .inl (cs 0, tms_name_n, .inl tms_name_f)), (tms_many, .inl (cs 0, tms_many_n, .inl tms_many_f)), (nms, .inr (10, [.ref nms_text, .ref nms_from, .ref nms_next, .ref nms_first, .int nms_size, .int nms_texted])), (nms_text, .inl (cs 1, nms_text_n, .inl nms_text_f)), (nms_from, .inl (cs 0, nms_from_n, .inl nms_from_f)), (a, .inr (13, [.ref a_out, .ref a_walk, .ref a_next, .ref a_seen, .int a_n_7, .int a_over_7, .int a_order])), (a_out, .inl (cs 1, a_out_n, .inl a_out_f_7)), (tms, .inr (11, [.ref tms_kind, .ref tms_name, .ref tms_first, .ref tms_many, .ref tms_part, .ref tms_number, .int tms_size, .int tms_parts])), (tms_first, .inl (cs 0, tms_first_n, .inl tms_first_f)), (tms_part, .inl (cs 0, tms_part_n, .inl tms_part_f))] := ⟨hP, hD⟩
          refine lv_iload hx hb d_MoPaper_compound_105 (lv_at hl 5 rfl) ?_
          refine lv_iconst (v := 1) hx hb d_MoPaper_compound_107 (by decide) ?_
          refine lv_iadd hx hb d_MoPaper_compound_108 ?_
          have hq := Option.some.inj hok
          obtain ⟨hq0, hq⟩ := Prod.mk.inj hq
          obtain ⟨hq1, hq⟩ := Prod.mk.inj hq
          obtain ⟨hq2, hq⟩ := Prod.mk.inj hq
          obtain ⟨hq3, hq⟩ := Prod.mk.inj hq
          obtain ⟨hq4, hq⟩ := Prod.mk.inj hq
          have hq5 := hq
          subst hq0
          subst hq1
          subst hq2
          subst hq3
          subst hq4
          subst hq5
          obtain ⟨hP9, hD9⟩ := sub2 (ws' := [(a, .inr (13, [.ref a_out, .ref a_walk, .ref a_next, .ref a_seen, .int a_n_7, .int a_over_7, .int a_order])), (a_out, .inl (cs 1, a_out_n, .inl a_out_f_7)), (a_walk, .inl (cs 0, a_walk_n, .inl (upd a_walk_f (dp + 1).toNatClampNeg r9))), (a_next, .inl (cs 0, a_next_n, .inl (upd (upd a_next_f dp.toNatClampNeg (i + 1)) (dp + 1).toNatClampNeg 0))), (tms, .inr (11, [.ref tms_kind, .ref tms_name, .ref tms_first, .ref tms_many, .ref tms_part, .ref tms_number, .int tms_size, .int tms_parts])), (tms_name, .inl (cs 0, tms_name_n, .inl tms_name_f)), (tms_first, .inl (cs 0, tms_first_n, .inl tms_first_f)), (tms_many, .inl (cs 0, tms_many_n, .inl tms_many_f)), (tms_part, .inl (cs 0, tms_part_n, .inl tms_part_f)), (nms, .inr (10, [.ref nms_text, .ref nms_from, .ref nms_next, .ref nms_first, .int nms_size, .int nms_texted])), (nms_text, .inl (cs 1, nms_text_n, .inl nms_text_f)), (nms_from, .inl (cs 0, nms_from_n, .inl nms_from_f))]) hP hD [7, 8, 0, 1, 9, 2, 10, 3, 11, 4, 5, 6] rfl (by decide) rfl
          rw [hQ]
          exact W.iret (v := dp + 1) hx hb hr (fun t ht hW => ⟨⟨_, (), rfl, rfl, by rw [ht]; exact hP9, hD9⟩, hS.F ht⟩) hS.2.2 d_MoPaper_compound_109
        · rw [if_pos h6] at hok
          refine lv_bipush (v := 40) hx hb d_MoPaper_compound_58 (by decide) ?_
          refine lv_goto hx hb d_MoPaper_compound_60 rfl ?_
          obtain ⟨⟨a_n_12, a_over_12, a_out_f_12⟩, hc12, hok⟩ := bd_some hok
          dsimp only at hok
          obtain ⟨hPc, hDc, hFc⟩ := cut0 (wc := [(a, .inr (13, [.ref a_out, .ref a_walk, .ref a_next, .ref a_seen, .int a_n, .int a_over, .int a_order])), (a_out, .inl (cs 1, a_out_n, .inl a_out_f))]) hP hD hS hA [0, 1] (by decide) rfl
          refine va_callv (va_runV (As := [.int 40]) (rest := []) ⟨hx, hb, hml, hown, hg⟩ (c_MoPaper_put l g cs ka a_walk a_next a_seen a a_out H.size (40 : Int32) a_n a_over a_order a_out_n a_out_f a_n_12 a_over_12 a_out_f_12 hc12) (cwV (C := R_MoPaper) 1 hg (gw_V wd_743 wd_744 wd_745 wd_742 wd_741) rfl rfl rfl (by decide +kernel) ⟨Nat.le_of_ble_eq_true rfl, Nat.le_of_ble_eq_true rfl⟩) ⟨gP_blind, va_recv (q0 := 0) (ci := 13) (q := (R_MoPaper, F_MoPaper, 7)) hK hP rfl rfl, gP_pre hPc hDc hK hgl hkn hkr hS hFc⟩ rfl rfl hl.1 rfl (lv_room (Nat.le_of_ble_eq_true rfl)) d_MoPaper_compound_65 ⟨Nat.le_of_ble_eq_true rfl, Nat.le_of_ble_eq_true rfl⟩) hS (fun q _ h => hFc q h) hFc (fun u t H locs ht hvm hr12 hB hz1 hk1 hS => ?_)
          rw [ht] at hB
          obtain ⟨hP1, hD1⟩ := hB
          obtain ⟨hP, hD⟩ := jn_A hP hD [0, 1] [2, 3, 4, 5, 6, 7, 8, 9, 10, 11] rfl rfl (by decide) (by decide) hk1 hFc hP1 hD1
          obtain ⟨hP, hD⟩ : PD g A H [(a_walk, .inl (cs 0, a_walk_n, .inl a_walk_f)), (a_next, .inl (cs 0, a_next_n, .inl a_next_f)), (tms, .inr (11, [.ref tms_kind, .ref tms_name, .ref tms_first, .ref tms_many, .ref tms_part, .ref tms_number, .int tms_size, .int tms_parts])), (tms_name, .inl (cs 0, tms_name_n, .inl tms_name_f)), (tms_first, .inl (cs 0, tms_first_n, .inl tms_first_f)), (tms_many, .inl (cs 0, tms_many_n, .inl tms_many_f)), (tms_part, .inl (cs 0, tms_part_n, .inl tms_part_f)), (nms, .inr (10, [.ref nms_text, .ref nms_from, .ref nms_next, .ref nms_first, .int nms_size, .int nms_texted])), (nms_text, .inl (cs 1, nms_text_n, .inl nms_text_f)), (nms_from, .inl (cs 0, nms_from_n, .inl nms_from_f)), (a, .inr (13, [.ref a_out, .ref a_walk, .ref a_next, .ref a_seen, .int a_n_12, .int a_over_12, .int a_order])), (a_out, .inl (cs 1, a_out_n, .inl a_out_f_12))] := ⟨hP, hD⟩
          refine lv_aload_n hx hb d_MoPaper_compound_68 rfl (lv_at hl 0 rfl) ?_
          refine va_get (D := g) (ci := 13) (v := .ref a_next) (C := R_MoPaper) (T := F_MoPaper) (N := 7) hx hb hg ul_MoPaper hown hK hP 10 rfl rfl 2 (by decide) (hg _ wd_734) (fun _ h9 => h9) rfl d_MoPaper_compound_69 ?_
          refine lv_iload hx hb d_MoPaper_compound_72 (lv_at hl 5 rfl) ?_
          refine lv_iload hx hb d_MoPaper_compound_74 (lv_at hl 4 rfl) ?_
          refine lv_iconst (v := 1) hx hb d_MoPaper_compound_76 (by decide) ?_
          refine lv_iadd hx hb d_MoPaper_compound_77 ?_
          obtain ⟨hi13, hok⟩ := ck_some hok
          refine va_iast hx hb hK hP hD hS 1 0 rfl rfl (ixb_in hi13) d_MoPaper_compound_78 (fun H locs hP hD hS => ?_)
          obtain ⟨hP, hD⟩ : PD g A H [(a_walk, .inl (cs 0, a_walk_n, .inl a_walk_f)), (a_next, .inl (cs 0, a_next_n, .inl (upd a_next_f dp.toNatClampNeg (i + 1)))), (tms, .inr (11, [.ref tms_kind, .ref tms_name, .ref tms_first, .ref tms_many, .ref tms_part, .ref tms_number, .int tms_size, .int tms_parts])), (tms_name, .inl (cs 0, tms_name_n, .inl tms_name_f)), (tms_first, .inl (cs 0, tms_first_n, .inl tms_first_f)), (tms_many, .inl (cs 0, tms_many_n, .inl tms_many_f)), (tms_part, .inl (cs 0, tms_part_n, .inl tms_part_f)), (nms, .inr (10, [.ref nms_text, .ref nms_from, .ref nms_next, .ref nms_first, .int nms_size, .int nms_texted])), (nms_text, .inl (cs 1, nms_text_n, .inl nms_text_f)), (nms_from, .inl (cs 0, nms_from_n, .inl nms_from_f)), (a, .inr (13, [.ref a_out, .ref a_walk, .ref a_next, .ref a_seen, .int a_n_12, .int a_over_12, .int a_order])), (a_out, .inl (cs 1, a_out_n, .inl a_out_f_12))] := ⟨hP, hD⟩
          refine lv_aload_n hx hb d_MoPaper_compound_79 rfl (lv_at hl 0 rfl) ?_
          refine va_get (D := g) (ci := 13) (v := .ref a_walk) (C := R_MoPaper) (T := F_MoPaper) (N := 7) hx hb hg ul_MoPaper hown hK hP 10 rfl rfl 1 (by decide) (hg _ wd_733) (fun _ h9 => h9) rfl d_MoPaper_compound_80 ?_
          refine lv_iload hx hb d_MoPaper_compound_83 (lv_at hl 5 rfl) ?_
          refine lv_iconst (v := 1) hx hb d_MoPaper_compound_85 (by decide) ?_
          refine lv_iadd hx hb d_MoPaper_compound_86 ?_
          refine lv_aload_n hx hb d_MoPaper_compound_87 rfl (lv_at hl 1 rfl) ?_
          refine lv_iload_n hx hb d_MoPaper_compound_88 rfl (lv_at hl 3 rfl) ?_
          refine lv_iload hx hb d_MoPaper_compound_89 (lv_at hl 4 rfl) ?_
          obtain ⟨r14, hc14, hok⟩ := bd_some hok
          obtain ⟨hPc, hDc, hFc⟩ := cut0 (wc := [(tms, .inr (11, [.ref tms_kind, .ref tms_name, .ref tms_first, .ref tms_many, .ref tms_part, .ref tms_number, .int tms_size, .int tms_parts])), (tms_first, .inl (cs 0, tms_first_n, .inl tms_first_f)), (tms_part, .inl (cs 0, tms_part_n, .inl tms_part_f))]) hP hD hS hA [2, 4, 6] (by decide) rfl
          refine va_calli (va_runV (As := [.int tm, .int i]) (rest := [.int (dp + 1), .ref a_walk]) ⟨hx, hb, hml, hown, hg⟩ (c_MoTerms_part l g cs ka tms_kind tms_name tms_many tms_number tms tms_first tms_part H.size tm i tms_size tms_parts tms_first_n tms_first_f tms_part_n tms_part_f r14 hc14) (cwV (C := R_MoTerms) 2 hg (gw_V wd_768 wd_769 wd_770 wd_767 wd_766) rfl rfl rfl (by decide +kernel) ⟨Nat.le_of_ble_eq_true rfl, Nat.le_of_ble_eq_true rfl⟩) ⟨gP_blind, va_recv (q0 := 2) (ci := 11) (q := (R_MoTerms, F_MoTerms, 8)) hK hP rfl rfl, gP_pre hPc hDc hK hgl hkn hkr hS hFc⟩ rfl rfl hl.1 rfl (lv_room (Nat.le_of_ble_eq_true rfl)) d_MoPaper_compound_91 ⟨Nat.le_of_ble_eq_true rfl, Nat.le_of_ble_eq_true rfl⟩) hS (fun q _ h => hFc q h) hFc (fun r14' u t H locs ht hvm hr14 hB hz1 hk1 hS => ?_)
          subst hr14
          rw [ht] at hB
          obtain ⟨hP1, hD1⟩ := hB
          obtain ⟨hP, hD⟩ := jn_A hP hD [2, 4, 6] [0, 1, 3, 5, 7, 8, 9, 10, 11] rfl rfl (by decide) (by decide) hk1 hFc hP1 hD1
          obtain ⟨hP, hD⟩ : PD g A H [(a_walk, .inl (cs 0, a_walk_n, .inl a_walk_f)), (a_next, .inl (cs 0, a_next_n, .inl (upd a_next_f dp.toNatClampNeg (i + 1)))), (tms_name, .inl (cs 0, tms_name_n, .inl tms_name_f)), (tms_many, .inl (cs 0, tms_many_n, .inl tms_many_f)), (nms, .inr (10, [.ref nms_text, .ref nms_from, .ref nms_next, .ref nms_first, .int nms_size, .int nms_texted])), (nms_text, .inl (cs 1, nms_text_n, .inl nms_text_f)), (nms_from, .inl (cs 0, nms_from_n, .inl nms_from_f)), (a, .inr (13, [.ref a_out, .ref a_walk, .ref a_next, .ref a_seen, .int a_n_12, .int a_over_12, .int a_order])), (a_out, .inl (cs 1, a_out_n, .inl a_out_f_12)), (tms, .inr (11, [.ref tms_kind, .ref tms_name, .ref tms_first, .ref tms_many, .ref tms_part, .ref tms_number, .int tms_size, .int tms_parts])), (tms_first, .inl (cs 0, tms_first_n, .inl tms_first_f)), (tms_part, .inl (cs 0, tms_part_n, .inl tms_part_f))] := ⟨hP, hD⟩
          obtain ⟨hi15, hok⟩ := ck_some hok
          refine va_iast hx hb hK hP hD hS 0 0 rfl rfl (ixb_in hi15) d_MoPaper_compound_94 (fun H locs hP hD hS => ?_)
          obtain ⟨hP, hD⟩ : PD g A H [(a_walk, .inl (cs 0, a_walk_n, .inl (upd a_walk_f (dp + 1).toNatClampNeg r14))), (a_next, .inl (cs 0, a_next_n, .inl (upd a_next_f dp.toNatClampNeg (i + 1)))), (tms_name, .inl (cs 0, tms_name_n, .inl tms_name_f)), (tms_many, .inl (cs 0, tms_many_n, .inl tms_many_f)), (nms, .inr (10, [.ref nms_text, .ref nms_from, .ref nms_next, .ref nms_first, .int nms_size, .int nms_texted])), (nms_text, .inl (cs 1, nms_text_n, .inl nms_text_f)), (nms_from, .inl (cs 0, nms_from_n, .inl nms_from_f)), (a, .inr (13, [.ref a_out, .ref a_walk, .ref a_next, .ref a_seen, .int a_n_12, .int a_over_12, .int a_order])), (a_out, .inl (cs 1, a_out_n, .inl a_out_f_12)), (tms, .inr (11, [.ref tms_kind, .ref tms_name, .ref tms_first, .ref tms_many, .ref tms_part, .ref tms_number, .int tms_size, .int tms_parts])), (tms_first, .inl (cs 0, tms_first_n, .inl tms_first_f)), (tms_part, .inl (cs 0, tms_part_n, .inl tms_part_f))] := ⟨hP, hD⟩
          refine lv_aload_n hx hb d_MoPaper_compound_95 rfl (lv_at hl 0 rfl) ?_
          refine va_get (D := g) (ci := 13) (v := .ref a_next) (C := R_MoPaper) (T := F_MoPaper) (N := 7) hx hb hg ul_MoPaper hown hK hP 7 rfl rfl 2 (by decide) (hg _ wd_734) (fun _ h9 => h9) rfl d_MoPaper_compound_96 ?_
          refine lv_iload hx hb d_MoPaper_compound_99 (lv_at hl 5 rfl) ?_
          refine lv_iconst (v := 1) hx hb d_MoPaper_compound_101 (by decide) ?_
          refine lv_iadd hx hb d_MoPaper_compound_102 ?_
          refine lv_iconst (v := 0) hx hb d_MoPaper_compound_103 (by decide) ?_
          obtain ⟨hi16, hok⟩ := ck_some hok
          refine va_iast hx hb hK hP hD hS 1 0 rfl rfl (ixb_in hi16) d_MoPaper_compound_104 (fun H locs hP hD hS => ?_)
          obtain ⟨hP, hD⟩ : PD g A H [(a_walk, .inl (cs 0, a_walk_n, .inl (upd a_walk_f (dp + 1).toNatClampNeg r14))), (a_next, .inl (cs 0, a_next_n, .inl (upd (upd a_next_f dp.toNatClampNeg (i + 1)) (dp + 1).toNatClampNeg 0))), (tms_name, .inl (cs 0, tms_name_n, .inl tms_name_f)), (tms_many, .inl (cs 0, tms_many_n, .inl tms_many_f)), (nms, .inr (10, [.ref nms_text, .ref nms_from, .ref nms_next, .ref nms_first, .int nms_size, .int nms_texted])), (nms_text, .inl (cs 1, nms_text_n, .inl nms_text_f)), (nms_from, .inl (cs 0, nms_from_n, .inl nms_from_f)), (a, .inr (13, [.ref a_out, .ref a_walk, .ref a_next, .ref a_seen, .int a_n_12, .int a_over_12, .int a_order])), (a_out, .inl (cs 1, a_out_n, .inl a_out_f_12)), (tms, .inr (11, [.ref tms_kind, .ref tms_name, .ref tms_first, .ref tms_many, .ref tms_part, .ref tms_number, .int tms_size, .int tms_parts])), (tms_first, .inl (cs 0, tms_first_n, .inl tms_first_f)), (tms_part, .inl (cs 0, tms_part_n, .inl tms_part_f))] := ⟨hP, hD⟩
          refine lv_iload hx hb d_MoPaper_compound_105 (lv_at hl 5 rfl) ?_
          refine lv_iconst (v := 1) hx hb d_MoPaper_compound_107 (by decide) ?_
          refine lv_iadd hx hb d_MoPaper_compound_108 ?_
          have hq := Option.some.inj hok
          obtain ⟨hq0, hq⟩ := Prod.mk.inj hq
          obtain ⟨hq1, hq⟩ := Prod.mk.inj hq
          obtain ⟨hq2, hq⟩ := Prod.mk.inj hq
          obtain ⟨hq3, hq⟩ := Prod.mk.inj hq
          obtain ⟨hq4, hq⟩ := Prod.mk.inj hq
          have hq5 := hq
          subst hq0
          subst hq1
          subst hq2
          subst hq3
          subst hq4
          subst hq5
          obtain ⟨hP9, hD9⟩ := sub2 (ws' := [(a, .inr (13, [.ref a_out, .ref a_walk, .ref a_next, .ref a_seen, .int a_n_12, .int a_over_12, .int a_order])), (a_out, .inl (cs 1, a_out_n, .inl a_out_f_12)), (a_walk, .inl (cs 0, a_walk_n, .inl (upd a_walk_f (dp + 1).toNatClampNeg r14))), (a_next, .inl (cs 0, a_next_n, .inl (upd (upd a_next_f dp.toNatClampNeg (i + 1)) (dp + 1).toNatClampNeg 0))), (tms, .inr (11, [.ref tms_kind, .ref tms_name, .ref tms_first, .ref tms_many, .ref tms_part, .ref tms_number, .int tms_size, .int tms_parts])), (tms_name, .inl (cs 0, tms_name_n, .inl tms_name_f)), (tms_first, .inl (cs 0, tms_first_n, .inl tms_first_f)), (tms_many, .inl (cs 0, tms_many_n, .inl tms_many_f)), (tms_part, .inl (cs 0, tms_part_n, .inl tms_part_f)), (nms, .inr (10, [.ref nms_text, .ref nms_from, .ref nms_next, .ref nms_first, .int nms_size, .int nms_texted])), (nms_text, .inl (cs 1, nms_text_n, .inl nms_text_f)), (nms_from, .inl (cs 0, nms_from_n, .inl nms_from_f))]) hP hD [7, 8, 0, 1, 9, 2, 10, 3, 11, 4, 5, 6] rfl (by decide) rfl
          rw [hQ]
          exact W.iret (v := dp + 1) hx hb hr (fun t ht hW => ⟨⟨_, (), rfl, rfl, by rw [ht]; exact hP9, hD9⟩, hS.F ht⟩) hS.2.2 d_MoPaper_compound_109
      · rw [if_pos h5] at hok
        refine lv_aload_n hx hb d_MoPaper_compound_41 rfl (lv_at hl 0 rfl) ?_
        refine lv_bipush (v := 41) hx hb d_MoPaper_compound_42 (by decide) ?_
        obtain ⟨⟨a_n_17, a_over_17, a_out_f_17⟩, hc17, hok⟩ := bd_some hok
        dsimp only at hok
        obtain ⟨hPc, hDc, hFc⟩ := cut0 (wc := [(a, .inr (13, [.ref a_out, .ref a_walk, .ref a_next, .ref a_seen, .int a_n, .int a_over, .int a_order])), (a_out, .inl (cs 1, a_out_n, .inl a_out_f))]) hP hD hS hA [0, 1] (by decide) rfl
        refine va_callv (va_runV (As := [.int 41]) (rest := []) ⟨hx, hb, hml, hown, hg⟩ (c_MoPaper_put l g cs ka a_walk a_next a_seen a a_out H.size (41 : Int32) a_n a_over a_order a_out_n a_out_f a_n_17 a_over_17 a_out_f_17 hc17) (cwV (C := R_MoPaper) 1 hg (gw_V wd_743 wd_744 wd_745 wd_742 wd_741) rfl rfl rfl (by decide +kernel) ⟨Nat.le_of_ble_eq_true rfl, Nat.le_of_ble_eq_true rfl⟩) ⟨gP_blind, va_recv (q0 := 0) (ci := 13) (q := (R_MoPaper, F_MoPaper, 7)) hK hP rfl rfl, gP_pre hPc hDc hK hgl hkn hkr hS hFc⟩ rfl rfl hl.1 rfl (lv_room (Nat.le_of_ble_eq_true rfl)) d_MoPaper_compound_44 ⟨Nat.le_of_ble_eq_true rfl, Nat.le_of_ble_eq_true rfl⟩) hS (fun q _ h => hFc q h) hFc (fun u t H locs ht hvm hr17 hB hz1 hk1 hS => ?_)
        rw [ht] at hB
        obtain ⟨hP1, hD1⟩ := hB
        obtain ⟨hP, hD⟩ := jn_A hP hD [0, 1] [2, 3, 4, 5, 6, 7, 8, 9, 10, 11] rfl rfl (by decide) (by decide) hk1 hFc hP1 hD1
        obtain ⟨hP, hD⟩ : PD g A H [(a_walk, .inl (cs 0, a_walk_n, .inl a_walk_f)), (a_next, .inl (cs 0, a_next_n, .inl a_next_f)), (tms, .inr (11, [.ref tms_kind, .ref tms_name, .ref tms_first, .ref tms_many, .ref tms_part, .ref tms_number, .int tms_size, .int tms_parts])), (tms_name, .inl (cs 0, tms_name_n, .inl tms_name_f)), (tms_first, .inl (cs 0, tms_first_n, .inl tms_first_f)), (tms_many, .inl (cs 0, tms_many_n, .inl tms_many_f)), (tms_part, .inl (cs 0, tms_part_n, .inl tms_part_f)), (nms, .inr (10, [.ref nms_text, .ref nms_from, .ref nms_next, .ref nms_first, .int nms_size, .int nms_texted])), (nms_text, .inl (cs 1, nms_text_n, .inl nms_text_f)), (nms_from, .inl (cs 0, nms_from_n, .inl nms_from_f)), (a, .inr (13, [.ref a_out, .ref a_walk, .ref a_next, .ref a_seen, .int a_n_17, .int a_over_17, .int a_order])), (a_out, .inl (cs 1, a_out_n, .inl a_out_f_17))] := ⟨hP, hD⟩
        refine lv_iload hx hb d_MoPaper_compound_47 (lv_at hl 5 rfl) ?_
        refine lv_iconst (v := 1) hx hb d_MoPaper_compound_49 (by decide) ?_
        refine lv_isub hx hb d_MoPaper_compound_50 ?_
        have hq := Option.some.inj hok
        obtain ⟨hq0, hq⟩ := Prod.mk.inj hq
        obtain ⟨hq1, hq⟩ := Prod.mk.inj hq
        obtain ⟨hq2, hq⟩ := Prod.mk.inj hq
        obtain ⟨hq3, hq⟩ := Prod.mk.inj hq
        obtain ⟨hq4, hq⟩ := Prod.mk.inj hq
        have hq5 := hq
        subst hq0
        subst hq1
        subst hq2
        subst hq3
        subst hq4
        subst hq5
        obtain ⟨hP9, hD9⟩ := sub2 (ws' := [(a, .inr (13, [.ref a_out, .ref a_walk, .ref a_next, .ref a_seen, .int a_n_17, .int a_over_17, .int a_order])), (a_out, .inl (cs 1, a_out_n, .inl a_out_f_17)), (a_walk, .inl (cs 0, a_walk_n, .inl a_walk_f)), (a_next, .inl (cs 0, a_next_n, .inl a_next_f)), (tms, .inr (11, [.ref tms_kind, .ref tms_name, .ref tms_first, .ref tms_many, .ref tms_part, .ref tms_number, .int tms_size, .int tms_parts])), (tms_name, .inl (cs 0, tms_name_n, .inl tms_name_f)), (tms_first, .inl (cs 0, tms_first_n, .inl tms_first_f)), (tms_many, .inl (cs 0, tms_many_n, .inl tms_many_f)), (tms_part, .inl (cs 0, tms_part_n, .inl tms_part_f)), (nms, .inr (10, [.ref nms_text, .ref nms_from, .ref nms_next, .ref nms_first, .int nms_size, .int nms_texted])), (nms_text, .inl (cs 1, nms_text_n, .inl nms_text_f)), (nms_from, .inl (cs 0, nms_from_n, .inl nms_from_f))]) hP hD [10, 11, 0, 1, 2, 3, 4, 5, 6, 7, 8, 9] rfl (by decide) rfl
        rw [hQ]
        exact W.iret (v := dp - 1) hx hb hr (fun t ht hW => ⟨⟨_, (), rfl, rfl, by rw [ht]; exact hP9, hD9⟩, hS.F ht⟩) hS.2.2 d_MoPaper_compound_51
    · rw [if_pos h3] at hok
      refine lv_iload hx hb d_MoPaper_compound_25 (lv_at hl 5 rfl) ?_
      refine lv_iconst (v := 1) hx hb d_MoPaper_compound_27 (by decide) ?_
      refine lv_isub hx hb d_MoPaper_compound_28 ?_
      have hq := Option.some.inj hok
      obtain ⟨hq0, hq⟩ := Prod.mk.inj hq
      obtain ⟨hq1, hq⟩ := Prod.mk.inj hq
      obtain ⟨hq2, hq⟩ := Prod.mk.inj hq
      obtain ⟨hq3, hq⟩ := Prod.mk.inj hq
      obtain ⟨hq4, hq⟩ := Prod.mk.inj hq
      have hq5 := hq
      subst hq0
      subst hq1
      subst hq2
      subst hq3
      subst hq4
      subst hq5
      obtain ⟨hP9, hD9⟩ := sub2 (ws' := [(a, .inr (13, [.ref a_out, .ref a_walk, .ref a_next, .ref a_seen, .int a_n, .int a_over, .int a_order])), (a_out, .inl (cs 1, a_out_n, .inl a_out_f)), (a_walk, .inl (cs 0, a_walk_n, .inl a_walk_f)), (a_next, .inl (cs 0, a_next_n, .inl a_next_f)), (tms, .inr (11, [.ref tms_kind, .ref tms_name, .ref tms_first, .ref tms_many, .ref tms_part, .ref tms_number, .int tms_size, .int tms_parts])), (tms_name, .inl (cs 0, tms_name_n, .inl tms_name_f)), (tms_first, .inl (cs 0, tms_first_n, .inl tms_first_f)), (tms_many, .inl (cs 0, tms_many_n, .inl tms_many_f)), (tms_part, .inl (cs 0, tms_part_n, .inl tms_part_f)), (nms, .inr (10, [.ref nms_text, .ref nms_from, .ref nms_next, .ref nms_first, .int nms_size, .int nms_texted])), (nms_text, .inl (cs 1, nms_text_n, .inl nms_text_f)), (nms_from, .inl (cs 0, nms_from_n, .inl nms_from_f))]) hP hD [0, 1, 2, 3, 4, 5, 6, 7, 8, 9, 10, 11] rfl (by decide) rfl
      rw [hQ]
      exact W.iret (v := dp - 1) hx hb hr (fun t ht hW => ⟨⟨_, (), rfl, rfl, by rw [ht]; exact hP9, hD9⟩, hS.F ht⟩) hS.2.2 d_MoPaper_compound_29
  · rw [if_pos h1] at hok
    refine lv_aload_n hx hb d_MoPaper_compound_5 rfl (lv_at hl 0 rfl) ?_
    refine lv_aload_n hx hb d_MoPaper_compound_6 rfl (lv_at hl 2 rfl) ?_
    refine lv_aload_n hx hb d_MoPaper_compound_7 rfl (lv_at hl 1 rfl) ?_
    refine va_get (D := g) (ci := 11) (v := .ref tms_name) (C := R_MoTerms) (T := F_MoTerms) (N := 8) hx hb hg ul_MoTerms hown hK hP 4 rfl rfl 1 (by decide) (hg _ wd_771) (fun _ h9 => h9) rfl d_MoPaper_compound_8 ?_
    refine lv_iload_n hx hb d_MoPaper_compound_11 rfl (lv_at hl 3 rfl) ?_
    obtain ⟨hi18, hok⟩ := ck_some hok
    refine va_iald hx hb hK hP 5 0 rfl rfl (ixb_in hi18) d_MoPaper_compound_12 ?_
    obtain ⟨⟨a_n_19, a_over_19, a_out_f_19⟩, hc19, hok⟩ := bd_some hok
    dsimp only at hok
    obtain ⟨hPc, hDc, hFc⟩ := cut0 (wc := [(a, .inr (13, [.ref a_out, .ref a_walk, .ref a_next, .ref a_seen, .int a_n, .int a_over, .int a_order])), (a_out, .inl (cs 1, a_out_n, .inl a_out_f)), (nms, .inr (10, [.ref nms_text, .ref nms_from, .ref nms_next, .ref nms_first, .int nms_size, .int nms_texted])), (nms_text, .inl (cs 1, nms_text_n, .inl nms_text_f)), (nms_from, .inl (cs 0, nms_from_n, .inl nms_from_f))]) hP hD hS hA [0, 1, 9, 10, 11] (by decide) rfl
    refine va_callv (va_runV (As := [.ref nms, .int (tms_name_f tm.toNatClampNeg)]) (rest := []) ⟨hx, hb, hml, hown, hg⟩ (c_MoPaper_name l g cs ka a_walk a_next a_seen nms_next nms_first a a_out nms nms_text nms_from H.size n (tms_name_f tm.toNatClampNeg) a_n a_over a_order a_out_n a_out_f nms_size nms_texted nms_text_n nms_text_f nms_from_n nms_from_f a_n_19 a_over_19 a_out_f_19 hc19) (cwV (C := R_MoPaper) 2 hg (gw_V wd_773 wd_774 wd_775 wd_742 wd_772) rfl rfl rfl (by decide +kernel) ⟨Nat.le_of_ble_eq_true rfl, Nat.le_of_ble_eq_true rfl⟩) ⟨gP_blind, va_recv (q0 := 0) (ci := 13) (q := (R_MoPaper, F_MoPaper, 7)) hK hP rfl rfl, gP_pre hPc hDc hK hgl hkn hkr hS hFc⟩ rfl rfl hl.1 rfl (lv_room (Nat.le_of_ble_eq_true rfl)) d_MoPaper_compound_13 ⟨Nat.le_of_ble_eq_true rfl, Nat.le_of_ble_eq_true rfl⟩) hS (fun q _ h => hFc q h) hFc (fun u t H locs ht hvm hr19 hB hz1 hk1 hS => ?_)
    rw [ht] at hB
    obtain ⟨hP1, hD1⟩ := hB
    obtain ⟨hP, hD⟩ := jn_A hP hD [0, 1, 9, 10, 11] [2, 3, 4, 5, 6, 7, 8] rfl rfl (by decide) (by decide) hk1 hFc hP1 hD1
    obtain ⟨hP, hD⟩ : PD g A H [(a_walk, .inl (cs 0, a_walk_n, .inl a_walk_f)), (a_next, .inl (cs 0, a_next_n, .inl a_next_f)), (tms, .inr (11, [.ref tms_kind, .ref tms_name, .ref tms_first, .ref tms_many, .ref tms_part, .ref tms_number, .int tms_size, .int tms_parts])), (tms_name, .inl (cs 0, tms_name_n, .inl tms_name_f)), (tms_first, .inl (cs 0, tms_first_n, .inl tms_first_f)), (tms_many, .inl (cs 0, tms_many_n, .inl tms_many_f)), (tms_part, .inl (cs 0, tms_part_n, .inl tms_part_f)), (a, .inr (13, [.ref a_out, .ref a_walk, .ref a_next, .ref a_seen, .int a_n_19, .int a_over_19, .int a_order])), (a_out, .inl (cs 1, a_out_n, .inl a_out_f_19)), (nms, .inr (10, [.ref nms_text, .ref nms_from, .ref nms_next, .ref nms_first, .int nms_size, .int nms_texted])), (nms_text, .inl (cs 1, nms_text_n, .inl nms_text_f)), (nms_from, .inl (cs 0, nms_from_n, .inl nms_from_f))] := ⟨hP, hD⟩
    refine lv_aload_n hx hb d_MoPaper_compound_16 rfl (lv_at hl 1 rfl) ?_
    refine va_get (D := g) (ci := 11) (v := .ref tms_many) (C := R_MoTerms) (T := F_MoTerms) (N := 8) hx hb hg ul_MoTerms hown hK hP 2 rfl rfl 3 (by decide) (hg _ wd_765) (fun _ h9 => h9) rfl d_MoPaper_compound_17 ?_
    refine lv_iload_n hx hb d_MoPaper_compound_20 rfl (lv_at hl 3 rfl) ?_
    obtain ⟨hi20, hok⟩ := ck_some hok
    refine va_iald hx hb hK hP 5 0 rfl rfl (ixb_in hi20) d_MoPaper_compound_21 ?_
    refine lv_if_ne hx hb d_MoPaper_compound_22 rfl (fun h21 => ?_) (fun h21 => ?_)
    · rw [if_neg h21] at hok
      refine lv_iload hx hb d_MoPaper_compound_30 (lv_at hl 4 rfl) ?_
      refine lv_aload_n hx hb d_MoPaper_compound_32 rfl (lv_at hl 1 rfl) ?_
      refine va_get (D := g) (ci := 11) (v := .ref tms_many) (C := R_MoTerms) (T := F_MoTerms) (N := 8) hx hb hg ul_MoTerms hown hK hP 2 rfl rfl 3 (by decide) (hg _ wd_765) (fun _ h9 => h9) rfl d_MoPaper_compound_33 ?_
      refine lv_iload_n hx hb d_MoPaper_compound_36 rfl (lv_at hl 3 rfl) ?_
      obtain ⟨hi22, hok⟩ := ck_some hok
      refine va_iald hx hb hK hP 5 0 rfl rfl (ixb_in hi22) d_MoPaper_compound_37 ?_
      refine lv_icmp_ne hx hb d_MoPaper_compound_38 rfl (fun h23 => ?_) (fun h23 => ?_)
      · rw [if_neg h23] at hok
        refine lv_aload_n hx hb d_MoPaper_compound_52 rfl (lv_at hl 0 rfl) ?_
        refine lv_iload hx hb d_MoPaper_compound_53 (lv_at hl 4 rfl) ?_
        refine lv_if_ne hx hb d_MoPaper_compound_55 rfl (fun h24 => ?_) (fun h24 => ?_)
        · rw [if_neg h24] at hok
          refine lv_bipush (v := 44) hx hb d_MoPaper_compound_63 (by decide) ?_
          obtain ⟨⟨a_n_25, a_over_25, a_out_f_25⟩, hc25, hok⟩ := bd_some hok
          dsimp only at hok
          obtain ⟨hPc, hDc, hFc⟩ := cut0 (wc := [(a, .inr (13, [.ref a_out, .ref a_walk, .ref a_next, .ref a_seen, .int a_n_19, .int a_over_19, .int a_order])), (a_out, .inl (cs 1, a_out_n, .inl a_out_f_19))]) hP hD hS hA [7, 8] (by decide) rfl
          refine va_callv (va_runV (As := [.int 44]) (rest := []) ⟨hx, hb, hml, hown, hg⟩ (c_MoPaper_put l g cs ka a_walk a_next a_seen a a_out H.size (44 : Int32) a_n_19 a_over_19 a_order a_out_n a_out_f_19 a_n_25 a_over_25 a_out_f_25 hc25) (cwV (C := R_MoPaper) 1 hg (gw_V wd_743 wd_744 wd_745 wd_742 wd_741) rfl rfl rfl (by decide +kernel) ⟨Nat.le_of_ble_eq_true rfl, Nat.le_of_ble_eq_true rfl⟩) ⟨gP_blind, va_recv (q0 := 7) (ci := 13) (q := (R_MoPaper, F_MoPaper, 7)) hK hP rfl rfl, gP_pre hPc hDc hK hgl hkn hkr hS hFc⟩ rfl rfl hl.1 rfl (lv_room (Nat.le_of_ble_eq_true rfl)) d_MoPaper_compound_65 ⟨Nat.le_of_ble_eq_true rfl, Nat.le_of_ble_eq_true rfl⟩) hS (fun q _ h => hFc q h) hFc (fun u t H locs ht hvm hr25 hB hz1 hk1 hS => ?_)
          rw [ht] at hB
          obtain ⟨hP1, hD1⟩ := hB
          obtain ⟨hP, hD⟩ := jn_A hP hD [7, 8] [0, 1, 2, 3, 4, 5, 6, 9, 10, 11] rfl rfl (by decide) (by decide) hk1 hFc hP1 hD1
          obtain ⟨hP, hD⟩ : PD g A H [(a_walk, .inl (cs 0, a_walk_n, .inl a_walk_f)), (a_next, .inl (cs 0, a_next_n, .inl a_next_f)), (tms, .inr (11, [.ref tms_kind, .ref tms_name, .ref tms_first, .ref tms_many, .ref tms_part, .ref tms_number, .int tms_size, .int tms_parts])), (tms_name, .inl (cs 0, tms_name_n, .inl tms_name_f)), (tms_first, .inl (cs 0, tms_first_n, .inl tms_first_f)), (tms_many, .inl (cs 0, tms_many_n, .inl tms_many_f)), (tms_part, .inl (cs 0, tms_part_n, .inl tms_part_f)), (nms, .inr (10, [.ref nms_text, .ref nms_from, .ref nms_next, .ref nms_first, .int nms_size, .int nms_texted])), (nms_text, .inl (cs 1, nms_text_n, .inl nms_text_f)), (nms_from, .inl (cs 0, nms_from_n, .inl nms_from_f)), (a, .inr (13, [.ref a_out, .ref a_walk, .ref a_next, .ref a_seen, .int a_n_25, .int a_over_25, .int a_order])), (a_out, .inl (cs 1, a_out_n, .inl a_out_f_25))] := ⟨hP, hD⟩
          refine lv_aload_n hx hb d_MoPaper_compound_68 rfl (lv_at hl 0 rfl) ?_
          refine va_get (D := g) (ci := 13) (v := .ref a_next) (C := R_MoPaper) (T := F_MoPaper) (N := 7) hx hb hg ul_MoPaper hown hK hP 10 rfl rfl 2 (by decide) (hg _ wd_734) (fun _ h9 => h9) rfl d_MoPaper_compound_69 ?_
          refine lv_iload hx hb d_MoPaper_compound_72 (lv_at hl 5 rfl) ?_
          refine lv_iload hx hb d_MoPaper_compound_74 (lv_at hl 4 rfl) ?_
          refine lv_iconst (v := 1) hx hb d_MoPaper_compound_76 (by decide) ?_
          refine lv_iadd hx hb d_MoPaper_compound_77 ?_
          obtain ⟨hi26, hok⟩ := ck_some hok
          refine va_iast hx hb hK hP hD hS 1 0 rfl rfl (ixb_in hi26) d_MoPaper_compound_78 (fun H locs hP hD hS => ?_)
          obtain ⟨hP, hD⟩ : PD g A H [(a_walk, .inl (cs 0, a_walk_n, .inl a_walk_f)), (a_next, .inl (cs 0, a_next_n, .inl (upd a_next_f dp.toNatClampNeg (i + 1)))), (tms, .inr (11, [.ref tms_kind, .ref tms_name, .ref tms_first, .ref tms_many, .ref tms_part, .ref tms_number, .int tms_size, .int tms_parts])), (tms_name, .inl (cs 0, tms_name_n, .inl tms_name_f)), (tms_first, .inl (cs 0, tms_first_n, .inl tms_first_f)), (tms_many, .inl (cs 0, tms_many_n, .inl tms_many_f)), (tms_part, .inl (cs 0, tms_part_n, .inl tms_part_f)), (nms, .inr (10, [.ref nms_text, .ref nms_from, .ref nms_next, .ref nms_first, .int nms_size, .int nms_texted])), (nms_text, .inl (cs 1, nms_text_n, .inl nms_text_f)), (nms_from, .inl (cs 0, nms_from_n, .inl nms_from_f)), (a, .inr (13, [.ref a_out, .ref a_walk, .ref a_next, .ref a_seen, .int a_n_25, .int a_over_25, .int a_order])), (a_out, .inl (cs 1, a_out_n, .inl a_out_f_25))] := ⟨hP, hD⟩
          refine lv_aload_n hx hb d_MoPaper_compound_79 rfl (lv_at hl 0 rfl) ?_
          refine va_get (D := g) (ci := 13) (v := .ref a_walk) (C := R_MoPaper) (T := F_MoPaper) (N := 7) hx hb hg ul_MoPaper hown hK hP 10 rfl rfl 1 (by decide) (hg _ wd_733) (fun _ h9 => h9) rfl d_MoPaper_compound_80 ?_
          refine lv_iload hx hb d_MoPaper_compound_83 (lv_at hl 5 rfl) ?_
          refine lv_iconst (v := 1) hx hb d_MoPaper_compound_85 (by decide) ?_
          refine lv_iadd hx hb d_MoPaper_compound_86 ?_
          refine lv_aload_n hx hb d_MoPaper_compound_87 rfl (lv_at hl 1 rfl) ?_
          refine lv_iload_n hx hb d_MoPaper_compound_88 rfl (lv_at hl 3 rfl) ?_
          refine lv_iload hx hb d_MoPaper_compound_89 (lv_at hl 4 rfl) ?_
          obtain ⟨r27, hc27, hok⟩ := bd_some hok
          obtain ⟨hPc, hDc, hFc⟩ := cut0 (wc := [(tms, .inr (11, [.ref tms_kind, .ref tms_name, .ref tms_first, .ref tms_many, .ref tms_part, .ref tms_number, .int tms_size, .int tms_parts])), (tms_first, .inl (cs 0, tms_first_n, .inl tms_first_f)), (tms_part, .inl (cs 0, tms_part_n, .inl tms_part_f))]) hP hD hS hA [2, 4, 6] (by decide) rfl
          refine va_calli (va_runV (As := [.int tm, .int i]) (rest := [.int (dp + 1), .ref a_walk]) ⟨hx, hb, hml, hown, hg⟩ (c_MoTerms_part l g cs ka tms_kind tms_name tms_many tms_number tms tms_first tms_part H.size tm i tms_size tms_parts tms_first_n tms_first_f tms_part_n tms_part_f r27 hc27) (cwV (C := R_MoTerms) 2 hg (gw_V wd_768 wd_769 wd_770 wd_767 wd_766) rfl rfl rfl (by decide +kernel) ⟨Nat.le_of_ble_eq_true rfl, Nat.le_of_ble_eq_true rfl⟩) ⟨gP_blind, va_recv (q0 := 2) (ci := 11) (q := (R_MoTerms, F_MoTerms, 8)) hK hP rfl rfl, gP_pre hPc hDc hK hgl hkn hkr hS hFc⟩ rfl rfl hl.1 rfl (lv_room (Nat.le_of_ble_eq_true rfl)) d_MoPaper_compound_91 ⟨Nat.le_of_ble_eq_true rfl, Nat.le_of_ble_eq_true rfl⟩) hS (fun q _ h => hFc q h) hFc (fun r27' u t H locs ht hvm hr27 hB hz1 hk1 hS => ?_)
          subst hr27
          rw [ht] at hB
          obtain ⟨hP1, hD1⟩ := hB
          obtain ⟨hP, hD⟩ := jn_A hP hD [2, 4, 6] [0, 1, 3, 5, 7, 8, 9, 10, 11] rfl rfl (by decide) (by decide) hk1 hFc hP1 hD1
          obtain ⟨hP, hD⟩ : PD g A H [(a_walk, .inl (cs 0, a_walk_n, .inl a_walk_f)), (a_next, .inl (cs 0, a_next_n, .inl (upd a_next_f dp.toNatClampNeg (i + 1)))), (tms_name, .inl (cs 0, tms_name_n, .inl tms_name_f)), (tms_many, .inl (cs 0, tms_many_n, .inl tms_many_f)), (nms, .inr (10, [.ref nms_text, .ref nms_from, .ref nms_next, .ref nms_first, .int nms_size, .int nms_texted])), (nms_text, .inl (cs 1, nms_text_n, .inl nms_text_f)), (nms_from, .inl (cs 0, nms_from_n, .inl nms_from_f)), (a, .inr (13, [.ref a_out, .ref a_walk, .ref a_next, .ref a_seen, .int a_n_25, .int a_over_25, .int a_order])), (a_out, .inl (cs 1, a_out_n, .inl a_out_f_25)), (tms, .inr (11, [.ref tms_kind, .ref tms_name, .ref tms_first, .ref tms_many, .ref tms_part, .ref tms_number, .int tms_size, .int tms_parts])), (tms_first, .inl (cs 0, tms_first_n, .inl tms_first_f)), (tms_part, .inl (cs 0, tms_part_n, .inl tms_part_f))] := ⟨hP, hD⟩
          obtain ⟨hi28, hok⟩ := ck_some hok
          refine va_iast hx hb hK hP hD hS 0 0 rfl rfl (ixb_in hi28) d_MoPaper_compound_94 (fun H locs hP hD hS => ?_)
          obtain ⟨hP, hD⟩ : PD g A H [(a_walk, .inl (cs 0, a_walk_n, .inl (upd a_walk_f (dp + 1).toNatClampNeg r27))), (a_next, .inl (cs 0, a_next_n, .inl (upd a_next_f dp.toNatClampNeg (i + 1)))), (tms_name, .inl (cs 0, tms_name_n, .inl tms_name_f)), (tms_many, .inl (cs 0, tms_many_n, .inl tms_many_f)), (nms, .inr (10, [.ref nms_text, .ref nms_from, .ref nms_next, .ref nms_first, .int nms_size, .int nms_texted])), (nms_text, .inl (cs 1, nms_text_n, .inl nms_text_f)), (nms_from, .inl (cs 0, nms_from_n, .inl nms_from_f)), (a, .inr (13, [.ref a_out, .ref a_walk, .ref a_next, .ref a_seen, .int a_n_25, .int a_over_25, .int a_order])), (a_out, .inl (cs 1, a_out_n, .inl a_out_f_25)), (tms, .inr (11, [.ref tms_kind, .ref tms_name, .ref tms_first, .ref tms_many, .ref tms_part, .ref tms_number, .int tms_size, .int tms_parts])), (tms_first, .inl (cs 0, tms_first_n, .inl tms_first_f)), (tms_part, .inl (cs 0, tms_part_n, .inl tms_part_f))] := ⟨hP, hD⟩
          refine lv_aload_n hx hb d_MoPaper_compound_95 rfl (lv_at hl 0 rfl) ?_
          refine va_get (D := g) (ci := 13) (v := .ref a_next) (C := R_MoPaper) (T := F_MoPaper) (N := 7) hx hb hg ul_MoPaper hown hK hP 7 rfl rfl 2 (by decide) (hg _ wd_734) (fun _ h9 => h9) rfl d_MoPaper_compound_96 ?_
          refine lv_iload hx hb d_MoPaper_compound_99 (lv_at hl 5 rfl) ?_
          refine lv_iconst (v := 1) hx hb d_MoPaper_compound_101 (by decide) ?_
          refine lv_iadd hx hb d_MoPaper_compound_102 ?_
          refine lv_iconst (v := 0) hx hb d_MoPaper_compound_103 (by decide) ?_
          obtain ⟨hi29, hok⟩ := ck_some hok
          refine va_iast hx hb hK hP hD hS 1 0 rfl rfl (ixb_in hi29) d_MoPaper_compound_104 (fun H locs hP hD hS => ?_)
          obtain ⟨hP, hD⟩ : PD g A H [(a_walk, .inl (cs 0, a_walk_n, .inl (upd a_walk_f (dp + 1).toNatClampNeg r27))), (a_next, .inl (cs 0, a_next_n, .inl (upd (upd a_next_f dp.toNatClampNeg (i + 1)) (dp + 1).toNatClampNeg 0))), (tms_name, .inl (cs 0, tms_name_n, .inl tms_name_f)), (tms_many, .inl (cs 0, tms_many_n, .inl tms_many_f)), (nms, .inr (10, [.ref nms_text, .ref nms_from, .ref nms_next, .ref nms_first, .int nms_size, .int nms_texted])), (nms_text, .inl (cs 1, nms_text_n, .inl nms_text_f)), (nms_from, .inl (cs 0, nms_from_n, .inl nms_from_f)), (a, .inr (13, [.ref a_out, .ref a_walk, .ref a_next, .ref a_seen, .int a_n_25, .int a_over_25, .int a_order])), (a_out, .inl (cs 1, a_out_n, .inl a_out_f_25)), (tms, .inr (11, [.ref tms_kind, .ref tms_name, .ref tms_first, .ref tms_many, .ref tms_part, .ref tms_number, .int tms_size, .int tms_parts])), (tms_first, .inl (cs 0, tms_first_n, .inl tms_first_f)), (tms_part, .inl (cs 0, tms_part_n, .inl tms_part_f))] := ⟨hP, hD⟩
          refine lv_iload hx hb d_MoPaper_compound_105 (lv_at hl 5 rfl) ?_
          refine lv_iconst (v := 1) hx hb d_MoPaper_compound_107 (by decide) ?_
          refine lv_iadd hx hb d_MoPaper_compound_108 ?_
          have hq := Option.some.inj hok
          obtain ⟨hq0, hq⟩ := Prod.mk.inj hq
          obtain ⟨hq1, hq⟩ := Prod.mk.inj hq
          obtain ⟨hq2, hq⟩ := Prod.mk.inj hq
          obtain ⟨hq3, hq⟩ := Prod.mk.inj hq
          obtain ⟨hq4, hq⟩ := Prod.mk.inj hq
          have hq5 := hq
          subst hq0
          subst hq1
          subst hq2
          subst hq3
          subst hq4
          subst hq5
          obtain ⟨hP9, hD9⟩ := sub2 (ws' := [(a, .inr (13, [.ref a_out, .ref a_walk, .ref a_next, .ref a_seen, .int a_n_25, .int a_over_25, .int a_order])), (a_out, .inl (cs 1, a_out_n, .inl a_out_f_25)), (a_walk, .inl (cs 0, a_walk_n, .inl (upd a_walk_f (dp + 1).toNatClampNeg r27))), (a_next, .inl (cs 0, a_next_n, .inl (upd (upd a_next_f dp.toNatClampNeg (i + 1)) (dp + 1).toNatClampNeg 0))), (tms, .inr (11, [.ref tms_kind, .ref tms_name, .ref tms_first, .ref tms_many, .ref tms_part, .ref tms_number, .int tms_size, .int tms_parts])), (tms_name, .inl (cs 0, tms_name_n, .inl tms_name_f)), (tms_first, .inl (cs 0, tms_first_n, .inl tms_first_f)), (tms_many, .inl (cs 0, tms_many_n, .inl tms_many_f)), (tms_part, .inl (cs 0, tms_part_n, .inl tms_part_f)), (nms, .inr (10, [.ref nms_text, .ref nms_from, .ref nms_next, .ref nms_first, .int nms_size, .int nms_texted])), (nms_text, .inl (cs 1, nms_text_n, .inl nms_text_f)), (nms_from, .inl (cs 0, nms_from_n, .inl nms_from_f))]) hP hD [7, 8, 0, 1, 9, 2, 10, 3, 11, 4, 5, 6] rfl (by decide) rfl
          rw [hQ]
          exact W.iret (v := dp + 1) hx hb hr (fun t ht hW => ⟨⟨_, (), rfl, rfl, by rw [ht]; exact hP9, hD9⟩, hS.F ht⟩) hS.2.2 d_MoPaper_compound_109
        · rw [if_pos h24] at hok
          refine lv_bipush (v := 40) hx hb d_MoPaper_compound_58 (by decide) ?_
          refine lv_goto hx hb d_MoPaper_compound_60 rfl ?_
          obtain ⟨⟨a_n_30, a_over_30, a_out_f_30⟩, hc30, hok⟩ := bd_some hok
          dsimp only at hok
          obtain ⟨hPc, hDc, hFc⟩ := cut0 (wc := [(a, .inr (13, [.ref a_out, .ref a_walk, .ref a_next, .ref a_seen, .int a_n_19, .int a_over_19, .int a_order])), (a_out, .inl (cs 1, a_out_n, .inl a_out_f_19))]) hP hD hS hA [7, 8] (by decide) rfl
          refine va_callv (va_runV (As := [.int 40]) (rest := []) ⟨hx, hb, hml, hown, hg⟩ (c_MoPaper_put l g cs ka a_walk a_next a_seen a a_out H.size (40 : Int32) a_n_19 a_over_19 a_order a_out_n a_out_f_19 a_n_30 a_over_30 a_out_f_30 hc30) (cwV (C := R_MoPaper) 1 hg (gw_V wd_743 wd_744 wd_745 wd_742 wd_741) rfl rfl rfl (by decide +kernel) ⟨Nat.le_of_ble_eq_true rfl, Nat.le_of_ble_eq_true rfl⟩) ⟨gP_blind, va_recv (q0 := 7) (ci := 13) (q := (R_MoPaper, F_MoPaper, 7)) hK hP rfl rfl, gP_pre hPc hDc hK hgl hkn hkr hS hFc⟩ rfl rfl hl.1 rfl (lv_room (Nat.le_of_ble_eq_true rfl)) d_MoPaper_compound_65 ⟨Nat.le_of_ble_eq_true rfl, Nat.le_of_ble_eq_true rfl⟩) hS (fun q _ h => hFc q h) hFc (fun u t H locs ht hvm hr30 hB hz1 hk1 hS => ?_)
          rw [ht] at hB
          obtain ⟨hP1, hD1⟩ := hB
          obtain ⟨hP, hD⟩ := jn_A hP hD [7, 8] [0, 1, 2, 3, 4, 5, 6, 9, 10, 11] rfl rfl (by decide) (by decide) hk1 hFc hP1 hD1
          obtain ⟨hP, hD⟩ : PD g A H [(a_walk, .inl (cs 0, a_walk_n, .inl a_walk_f)), (a_next, .inl (cs 0, a_next_n, .inl a_next_f)), (tms, .inr (11, [.ref tms_kind, .ref tms_name, .ref tms_first, .ref tms_many, .ref tms_part, .ref tms_number, .int tms_size, .int tms_parts])), (tms_name, .inl (cs 0, tms_name_n, .inl tms_name_f)), (tms_first, .inl (cs 0, tms_first_n, .inl tms_first_f)), (tms_many, .inl (cs 0, tms_many_n, .inl tms_many_f)), (tms_part, .inl (cs 0, tms_part_n, .inl tms_part_f)), (nms, .inr (10, [.ref nms_text, .ref nms_from, .ref nms_next, .ref nms_first, .int nms_size, .int nms_texted])), (nms_text, .inl (cs 1, nms_text_n, .inl nms_text_f)), (nms_from, .inl (cs 0, nms_from_n, .inl nms_from_f)), (a, .inr (13, [.ref a_out, .ref a_walk, .ref a_next, .ref a_seen, .int a_n_30, .int a_over_30, .int a_order])), (a_out, .inl (cs 1, a_out_n, .inl a_out_f_30))] := ⟨hP, hD⟩
          refine lv_aload_n hx hb d_MoPaper_compound_68 rfl (lv_at hl 0 rfl) ?_
          refine va_get (D := g) (ci := 13) (v := .ref a_next) (C := R_MoPaper) (T := F_MoPaper) (N := 7) hx hb hg ul_MoPaper hown hK hP 10 rfl rfl 2 (by decide) (hg _ wd_734) (fun _ h9 => h9) rfl d_MoPaper_compound_69 ?_
          refine lv_iload hx hb d_MoPaper_compound_72 (lv_at hl 5 rfl) ?_
          refine lv_iload hx hb d_MoPaper_compound_74 (lv_at hl 4 rfl) ?_
          refine lv_iconst (v := 1) hx hb d_MoPaper_compound_76 (by decide) ?_
          refine lv_iadd hx hb d_MoPaper_compound_77 ?_
          obtain ⟨hi31, hok⟩ := ck_some hok
          refine va_iast hx hb hK hP hD hS 1 0 rfl rfl (ixb_in hi31) d_MoPaper_compound_78 (fun H locs hP hD hS => ?_)
          obtain ⟨hP, hD⟩ : PD g A H [(a_walk, .inl (cs 0, a_walk_n, .inl a_walk_f)), (a_next, .inl (cs 0, a_next_n, .inl (upd a_next_f dp.toNatClampNeg (i + 1)))), (tms, .inr (11, [.ref tms_kind, .ref tms_name, .ref tms_first, .ref tms_many, .ref tms_part, .ref tms_number, .int tms_size, .int tms_parts])), (tms_name, .inl (cs 0, tms_name_n, .inl tms_name_f)), (tms_first, .inl (cs 0, tms_first_n, .inl tms_first_f)), (tms_many, .inl (cs 0, tms_many_n, .inl tms_many_f)), (tms_part, .inl (cs 0, tms_part_n, .inl tms_part_f)), (nms, .inr (10, [.ref nms_text, .ref nms_from, .ref nms_next, .ref nms_first, .int nms_size, .int nms_texted])), (nms_text, .inl (cs 1, nms_text_n, .inl nms_text_f)), (nms_from, .inl (cs 0, nms_from_n, .inl nms_from_f)), (a, .inr (13, [.ref a_out, .ref a_walk, .ref a_next, .ref a_seen, .int a_n_30, .int a_over_30, .int a_order])), (a_out, .inl (cs 1, a_out_n, .inl a_out_f_30))] := ⟨hP, hD⟩
          refine lv_aload_n hx hb d_MoPaper_compound_79 rfl (lv_at hl 0 rfl) ?_
          refine va_get (D := g) (ci := 13) (v := .ref a_walk) (C := R_MoPaper) (T := F_MoPaper) (N := 7) hx hb hg ul_MoPaper hown hK hP 10 rfl rfl 1 (by decide) (hg _ wd_733) (fun _ h9 => h9) rfl d_MoPaper_compound_80 ?_
          refine lv_iload hx hb d_MoPaper_compound_83 (lv_at hl 5 rfl) ?_
          refine lv_iconst (v := 1) hx hb d_MoPaper_compound_85 (by decide) ?_
          refine lv_iadd hx hb d_MoPaper_compound_86 ?_
          refine lv_aload_n hx hb d_MoPaper_compound_87 rfl (lv_at hl 1 rfl) ?_
          refine lv_iload_n hx hb d_MoPaper_compound_88 rfl (lv_at hl 3 rfl) ?_
          refine lv_iload hx hb d_MoPaper_compound_89 (lv_at hl 4 rfl) ?_
          obtain ⟨r32, hc32, hok⟩ := bd_some hok
          obtain ⟨hPc, hDc, hFc⟩ := cut0 (wc := [(tms, .inr (11, [.ref tms_kind, .ref tms_name, .ref tms_first, .ref tms_many, .ref tms_part, .ref tms_number, .int tms_size, .int tms_parts])), (tms_first, .inl (cs 0, tms_first_n, .inl tms_first_f)), (tms_part, .inl (cs 0, tms_part_n, .inl tms_part_f))]) hP hD hS hA [2, 4, 6] (by decide) rfl
          refine va_calli (va_runV (As := [.int tm, .int i]) (rest := [.int (dp + 1), .ref a_walk]) ⟨hx, hb, hml, hown, hg⟩ (c_MoTerms_part l g cs ka tms_kind tms_name tms_many tms_number tms tms_first tms_part H.size tm i tms_size tms_parts tms_first_n tms_first_f tms_part_n tms_part_f r32 hc32) (cwV (C := R_MoTerms) 2 hg (gw_V wd_768 wd_769 wd_770 wd_767 wd_766) rfl rfl rfl (by decide +kernel) ⟨Nat.le_of_ble_eq_true rfl, Nat.le_of_ble_eq_true rfl⟩) ⟨gP_blind, va_recv (q0 := 2) (ci := 11) (q := (R_MoTerms, F_MoTerms, 8)) hK hP rfl rfl, gP_pre hPc hDc hK hgl hkn hkr hS hFc⟩ rfl rfl hl.1 rfl (lv_room (Nat.le_of_ble_eq_true rfl)) d_MoPaper_compound_91 ⟨Nat.le_of_ble_eq_true rfl, Nat.le_of_ble_eq_true rfl⟩) hS (fun q _ h => hFc q h) hFc (fun r32' u t H locs ht hvm hr32 hB hz1 hk1 hS => ?_)
          subst hr32
          rw [ht] at hB
          obtain ⟨hP1, hD1⟩ := hB
          obtain ⟨hP, hD⟩ := jn_A hP hD [2, 4, 6] [0, 1, 3, 5, 7, 8, 9, 10, 11] rfl rfl (by decide) (by decide) hk1 hFc hP1 hD1
          obtain ⟨hP, hD⟩ : PD g A H [(a_walk, .inl (cs 0, a_walk_n, .inl a_walk_f)), (a_next, .inl (cs 0, a_next_n, .inl (upd a_next_f dp.toNatClampNeg (i + 1)))), (tms_name, .inl (cs 0, tms_name_n, .inl tms_name_f)), (tms_many, .inl (cs 0, tms_many_n, .inl tms_many_f)), (nms, .inr (10, [.ref nms_text, .ref nms_from, .ref nms_next, .ref nms_first, .int nms_size, .int nms_texted])), (nms_text, .inl (cs 1, nms_text_n, .inl nms_text_f)), (nms_from, .inl (cs 0, nms_from_n, .inl nms_from_f)), (a, .inr (13, [.ref a_out, .ref a_walk, .ref a_next, .ref a_seen, .int a_n_30, .int a_over_30, .int a_order])), (a_out, .inl (cs 1, a_out_n, .inl a_out_f_30)), (tms, .inr (11, [.ref tms_kind, .ref tms_name, .ref tms_first, .ref tms_many, .ref tms_part, .ref tms_number, .int tms_size, .int tms_parts])), (tms_first, .inl (cs 0, tms_first_n, .inl tms_first_f)), (tms_part, .inl (cs 0, tms_part_n, .inl tms_part_f))] := ⟨hP, hD⟩
          obtain ⟨hi33, hok⟩ := ck_some hok
          refine va_iast hx hb hK hP hD hS 0 0 rfl rfl (ixb_in hi33) d_MoPaper_compound_94 (fun H locs hP hD hS => ?_)
          obtain ⟨hP, hD⟩ : PD g A H [(a_walk, .inl (cs 0, a_walk_n, .inl (upd a_walk_f (dp + 1).toNatClampNeg r32))), (a_next, .inl (cs 0, a_next_n, .inl (upd a_next_f dp.toNatClampNeg (i + 1)))), (tms_name, .inl (cs 0, tms_name_n, .inl tms_name_f)), (tms_many, .inl (cs 0, tms_many_n, .inl tms_many_f)), (nms, .inr (10, [.ref nms_text, .ref nms_from, .ref nms_next, .ref nms_first, .int nms_size, .int nms_texted])), (nms_text, .inl (cs 1, nms_text_n, .inl nms_text_f)), (nms_from, .inl (cs 0, nms_from_n, .inl nms_from_f)), (a, .inr (13, [.ref a_out, .ref a_walk, .ref a_next, .ref a_seen, .int a_n_30, .int a_over_30, .int a_order])), (a_out, .inl (cs 1, a_out_n, .inl a_out_f_30)), (tms, .inr (11, [.ref tms_kind, .ref tms_name, .ref tms_first, .ref tms_many, .ref tms_part, .ref tms_number, .int tms_size, .int tms_parts])), (tms_first, .inl (cs 0, tms_first_n, .inl tms_first_f)), (tms_part, .inl (cs 0, tms_part_n, .inl tms_part_f))] := ⟨hP, hD⟩
          refine lv_aload_n hx hb d_MoPaper_compound_95 rfl (lv_at hl 0 rfl) ?_
          refine va_get (D := g) (ci := 13) (v := .ref a_next) (C := R_MoPaper) (T := F_MoPaper) (N := 7) hx hb hg ul_MoPaper hown hK hP 7 rfl rfl 2 (by decide) (hg _ wd_734) (fun _ h9 => h9) rfl d_MoPaper_compound_96 ?_
          refine lv_iload hx hb d_MoPaper_compound_99 (lv_at hl 5 rfl) ?_
          refine lv_iconst (v := 1) hx hb d_MoPaper_compound_101 (by decide) ?_
          refine lv_iadd hx hb d_MoPaper_compound_102 ?_
          refine lv_iconst (v := 0) hx hb d_MoPaper_compound_103 (by decide) ?_
          obtain ⟨hi34, hok⟩ := ck_some hok
          refine va_iast hx hb hK hP hD hS 1 0 rfl rfl (ixb_in hi34) d_MoPaper_compound_104 (fun H locs hP hD hS => ?_)
          obtain ⟨hP, hD⟩ : PD g A H [(a_walk, .inl (cs 0, a_walk_n, .inl (upd a_walk_f (dp + 1).toNatClampNeg r32))), (a_next, .inl (cs 0, a_next_n, .inl (upd (upd a_next_f dp.toNatClampNeg (i + 1)) (dp + 1).toNatClampNeg 0))), (tms_name, .inl (cs 0, tms_name_n, .inl tms_name_f)), (tms_many, .inl (cs 0, tms_many_n, .inl tms_many_f)), (nms, .inr (10, [.ref nms_text, .ref nms_from, .ref nms_next, .ref nms_first, .int nms_size, .int nms_texted])), (nms_text, .inl (cs 1, nms_text_n, .inl nms_text_f)), (nms_from, .inl (cs 0, nms_from_n, .inl nms_from_f)), (a, .inr (13, [.ref a_out, .ref a_walk, .ref a_next, .ref a_seen, .int a_n_30, .int a_over_30, .int a_order])), (a_out, .inl (cs 1, a_out_n, .inl a_out_f_30)), (tms, .inr (11, [.ref tms_kind, .ref tms_name, .ref tms_first, .ref tms_many, .ref tms_part, .ref tms_number, .int tms_size, .int tms_parts])), (tms_first, .inl (cs 0, tms_first_n, .inl tms_first_f)), (tms_part, .inl (cs 0, tms_part_n, .inl tms_part_f))] := ⟨hP, hD⟩
          refine lv_iload hx hb d_MoPaper_compound_105 (lv_at hl 5 rfl) ?_
          refine lv_iconst (v := 1) hx hb d_MoPaper_compound_107 (by decide) ?_
          refine lv_iadd hx hb d_MoPaper_compound_108 ?_
          have hq := Option.some.inj hok
          obtain ⟨hq0, hq⟩ := Prod.mk.inj hq
          obtain ⟨hq1, hq⟩ := Prod.mk.inj hq
          obtain ⟨hq2, hq⟩ := Prod.mk.inj hq
          obtain ⟨hq3, hq⟩ := Prod.mk.inj hq
          obtain ⟨hq4, hq⟩ := Prod.mk.inj hq
          have hq5 := hq
          subst hq0
          subst hq1
          subst hq2
          subst hq3
          subst hq4
          subst hq5
          obtain ⟨hP9, hD9⟩ := sub2 (ws' := [(a, .inr (13, [.ref a_out, .ref a_walk, .ref a_next, .ref a_seen, .int a_n_30, .int a_over_30, .int a_order])), (a_out, .inl (cs 1, a_out_n, .inl a_out_f_30)), (a_walk, .inl (cs 0, a_walk_n, .inl (upd a_walk_f (dp + 1).toNatClampNeg r32))), (a_next, .inl (cs 0, a_next_n, .inl (upd (upd a_next_f dp.toNatClampNeg (i + 1)) (dp + 1).toNatClampNeg 0))), (tms, .inr (11, [.ref tms_kind, .ref tms_name, .ref tms_first, .ref tms_many, .ref tms_part, .ref tms_number, .int tms_size, .int tms_parts])), (tms_name, .inl (cs 0, tms_name_n, .inl tms_name_f)), (tms_first, .inl (cs 0, tms_first_n, .inl tms_first_f)), (tms_many, .inl (cs 0, tms_many_n, .inl tms_many_f)), (tms_part, .inl (cs 0, tms_part_n, .inl tms_part_f)), (nms, .inr (10, [.ref nms_text, .ref nms_from, .ref nms_next, .ref nms_first, .int nms_size, .int nms_texted])), (nms_text, .inl (cs 1, nms_text_n, .inl nms_text_f)), (nms_from, .inl (cs 0, nms_from_n, .inl nms_from_f))]) hP hD [7, 8, 0, 1, 9, 2, 10, 3, 11, 4, 5, 6] rfl (by decide) rfl
          rw [hQ]
          exact W.iret (v := dp + 1) hx hb hr (fun t ht hW => ⟨⟨_, (), rfl, rfl, by rw [ht]; exact hP9, hD9⟩, hS.F ht⟩) hS.2.2 d_MoPaper_compound_109
      · rw [if_pos h23] at hok
        refine lv_aload_n hx hb d_MoPaper_compound_41 rfl (lv_at hl 0 rfl) ?_
        refine lv_bipush (v := 41) hx hb d_MoPaper_compound_42 (by decide) ?_
        obtain ⟨⟨a_n_35, a_over_35, a_out_f_35⟩, hc35, hok⟩ := bd_some hok
        dsimp only at hok
        obtain ⟨hPc, hDc, hFc⟩ := cut0 (wc := [(a, .inr (13, [.ref a_out, .ref a_walk, .ref a_next, .ref a_seen, .int a_n_19, .int a_over_19, .int a_order])), (a_out, .inl (cs 1, a_out_n, .inl a_out_f_19))]) hP hD hS hA [7, 8] (by decide) rfl
        refine va_callv (va_runV (As := [.int 41]) (rest := []) ⟨hx, hb, hml, hown, hg⟩ (c_MoPaper_put l g cs ka a_walk a_next a_seen a a_out H.size (41 : Int32) a_n_19 a_over_19 a_order a_out_n a_out_f_19 a_n_35 a_over_35 a_out_f_35 hc35) (cwV (C := R_MoPaper) 1 hg (gw_V wd_743 wd_744 wd_745 wd_742 wd_741) rfl rfl rfl (by decide +kernel) ⟨Nat.le_of_ble_eq_true rfl, Nat.le_of_ble_eq_true rfl⟩) ⟨gP_blind, va_recv (q0 := 7) (ci := 13) (q := (R_MoPaper, F_MoPaper, 7)) hK hP rfl rfl, gP_pre hPc hDc hK hgl hkn hkr hS hFc⟩ rfl rfl hl.1 rfl (lv_room (Nat.le_of_ble_eq_true rfl)) d_MoPaper_compound_44 ⟨Nat.le_of_ble_eq_true rfl, Nat.le_of_ble_eq_true rfl⟩) hS (fun q _ h => hFc q h) hFc (fun u t H locs ht hvm hr35 hB hz1 hk1 hS => ?_)
        rw [ht] at hB
        obtain ⟨hP1, hD1⟩ := hB
        obtain ⟨hP, hD⟩ := jn_A hP hD [7, 8] [0, 1, 2, 3, 4, 5, 6, 9, 10, 11] rfl rfl (by decide) (by decide) hk1 hFc hP1 hD1
        obtain ⟨hP, hD⟩ : PD g A H [(a_walk, .inl (cs 0, a_walk_n, .inl a_walk_f)), (a_next, .inl (cs 0, a_next_n, .inl a_next_f)), (tms, .inr (11, [.ref tms_kind, .ref tms_name, .ref tms_first, .ref tms_many, .ref tms_part, .ref tms_number, .int tms_size, .int tms_parts])), (tms_name, .inl (cs 0, tms_name_n, .inl tms_name_f)), (tms_first, .inl (cs 0, tms_first_n, .inl tms_first_f)), (tms_many, .inl (cs 0, tms_many_n, .inl tms_many_f)), (tms_part, .inl (cs 0, tms_part_n, .inl tms_part_f)), (nms, .inr (10, [.ref nms_text, .ref nms_from, .ref nms_next, .ref nms_first, .int nms_size, .int nms_texted])), (nms_text, .inl (cs 1, nms_text_n, .inl nms_text_f)), (nms_from, .inl (cs 0, nms_from_n, .inl nms_from_f)), (a, .inr (13, [.ref a_out, .ref a_walk, .ref a_next, .ref a_seen, .int a_n_35, .int a_over_35, .int a_order])), (a_out, .inl (cs 1, a_out_n, .inl a_out_f_35))] := ⟨hP, hD⟩
        refine lv_iload hx hb d_MoPaper_compound_47 (lv_at hl 5 rfl) ?_
        refine lv_iconst (v := 1) hx hb d_MoPaper_compound_49 (by decide) ?_
        refine lv_isub hx hb d_MoPaper_compound_50 ?_
        have hq := Option.some.inj hok
        obtain ⟨hq0, hq⟩ := Prod.mk.inj hq
        obtain ⟨hq1, hq⟩ := Prod.mk.inj hq
        obtain ⟨hq2, hq⟩ := Prod.mk.inj hq
        obtain ⟨hq3, hq⟩ := Prod.mk.inj hq
        obtain ⟨hq4, hq⟩ := Prod.mk.inj hq
        have hq5 := hq
        subst hq0
        subst hq1
        subst hq2
        subst hq3
        subst hq4
        subst hq5
        obtain ⟨hP9, hD9⟩ := sub2 (ws' := [(a, .inr (13, [.ref a_out, .ref a_walk, .ref a_next, .ref a_seen, .int a_n_35, .int a_over_35, .int a_order])), (a_out, .inl (cs 1, a_out_n, .inl a_out_f_35)), (a_walk, .inl (cs 0, a_walk_n, .inl a_walk_f)), (a_next, .inl (cs 0, a_next_n, .inl a_next_f)), (tms, .inr (11, [.ref tms_kind, .ref tms_name, .ref tms_first, .ref tms_many, .ref tms_part, .ref tms_number, .int tms_size, .int tms_parts])), (tms_name, .inl (cs 0, tms_name_n, .inl tms_name_f)), (tms_first, .inl (cs 0, tms_first_n, .inl tms_first_f)), (tms_many, .inl (cs 0, tms_many_n, .inl tms_many_f)), (tms_part, .inl (cs 0, tms_part_n, .inl tms_part_f)), (nms, .inr (10, [.ref nms_text, .ref nms_from, .ref nms_next, .ref nms_first, .int nms_size, .int nms_texted])), (nms_text, .inl (cs 1, nms_text_n, .inl nms_text_f)), (nms_from, .inl (cs 0, nms_from_n, .inl nms_from_f))]) hP hD [10, 11, 0, 1, 2, 3, 4, 5, 6, 7, 8, 9] rfl (by decide) rfl
        rw [hQ]
        exact W.iret (v := dp - 1) hx hb hr (fun t ht hW => ⟨⟨_, (), rfl, rfl, by rw [ht]; exact hP9, hD9⟩, hS.F ht⟩) hS.2.2 d_MoPaper_compound_51
    · rw [if_pos h21] at hok
      refine lv_iload hx hb d_MoPaper_compound_25 (lv_at hl 5 rfl) ?_
      refine lv_iconst (v := 1) hx hb d_MoPaper_compound_27 (by decide) ?_
      refine lv_isub hx hb d_MoPaper_compound_28 ?_
      have hq := Option.some.inj hok
      obtain ⟨hq0, hq⟩ := Prod.mk.inj hq
      obtain ⟨hq1, hq⟩ := Prod.mk.inj hq
      obtain ⟨hq2, hq⟩ := Prod.mk.inj hq
      obtain ⟨hq3, hq⟩ := Prod.mk.inj hq
      obtain ⟨hq4, hq⟩ := Prod.mk.inj hq
      have hq5 := hq
      subst hq0
      subst hq1
      subst hq2
      subst hq3
      subst hq4
      subst hq5
      obtain ⟨hP9, hD9⟩ := sub2 (ws' := [(a, .inr (13, [.ref a_out, .ref a_walk, .ref a_next, .ref a_seen, .int a_n_19, .int a_over_19, .int a_order])), (a_out, .inl (cs 1, a_out_n, .inl a_out_f_19)), (a_walk, .inl (cs 0, a_walk_n, .inl a_walk_f)), (a_next, .inl (cs 0, a_next_n, .inl a_next_f)), (tms, .inr (11, [.ref tms_kind, .ref tms_name, .ref tms_first, .ref tms_many, .ref tms_part, .ref tms_number, .int tms_size, .int tms_parts])), (tms_name, .inl (cs 0, tms_name_n, .inl tms_name_f)), (tms_first, .inl (cs 0, tms_first_n, .inl tms_first_f)), (tms_many, .inl (cs 0, tms_many_n, .inl tms_many_f)), (tms_part, .inl (cs 0, tms_part_n, .inl tms_part_f)), (nms, .inr (10, [.ref nms_text, .ref nms_from, .ref nms_next, .ref nms_first, .int nms_size, .int nms_texted])), (nms_text, .inl (cs 1, nms_text_n, .inl nms_text_f)), (nms_from, .inl (cs 0, nms_from_n, .inl nms_from_f))]) hP hD [7, 8, 0, 1, 2, 3, 4, 5, 6, 9, 10, 11] rfl (by decide) rfl
      rw [hQ]
      exact W.iret (v := dp - 1) hx hb hr (fun t ht hW => ⟨⟨_, (), rfl, rfl, by rw [ht]; exact hP9, hD9⟩, hS.F ht⟩) hS.2.2 d_MoPaper_compound_29
