theorem wd_731 : ((.methodLink "UnifyBenchModel$Paper" 3 y_Object_init) : Cond) ∈ GW := gw_7 28 (by decide +kernel) rfl
theorem wd_732 : ((.fieldLink "UnifyBenchModel$Paper" 9 "UnifyBenchModel$Paper" "out" "[B") : Cond) ∈ GW := gw_7 29 (by decide +kernel) rfl
theorem wd_733 : ((.fieldLink "UnifyBenchModel$Paper" 15 "UnifyBenchModel$Paper" "walk" "[I") : Cond) ∈ GW := gw_7 31 (by decide +kernel) rfl
theorem wd_734 : ((.fieldLink "UnifyBenchModel$Paper" 19 "UnifyBenchModel$Paper" "next" "[I") : Cond) ∈ GW := gw_7 32 (by decide +kernel) rfl
theorem wd_735 : ((.fieldLink "UnifyBenchModel$Paper" 22 "UnifyBenchModel$Paper" "seen" "[I") : Cond) ∈ GW := gw_7 33 (by decide +kernel) rfl
theorem wd_736 : ((.fieldLink "UnifyBenchModel$Paper" 25 "UnifyBenchModel$Paper" "n" "I") : Cond) ∈ GW := gw_7 34 (by decide +kernel) rfl
theorem wd_737 : ((.fieldLink "UnifyBenchModel$Paper" 29 "UnifyBenchModel$Paper" "over" "Z") : Cond) ∈ GW := gw_7 36 (by decide +kernel) rfl
theorem wd_738 : ((.constantLong "UnifyBenchModel$Paper" 37 9) : Cond) ∈ GW := gw_8 134 (by decide +kernel) rfl
theorem wd_739 : ((.constantLong "UnifyBenchModel$Paper" 41 48) : Cond) ∈ GW := gw_8 136 (by decide +kernel) rfl
theorem wd_740 : ((.constantLong "UnifyBenchModel$Paper" 39 10) : Cond) ∈ GW := gw_8 135 (by decide +kernel) rfl
theorem wd_741 : ((.code y_MoPaper_put prog_16_method_2_code 2 none) : Cond) ∈ GW := gw_8 125 (by decide +kernel) rfl
theorem wd_742 : ((.initialized "UnifyBenchModel$Paper") : Cond) ∈ GW := gw_1 28 (by decide +kernel) rfl
theorem wd_743 : ((.methodLink "UnifyBenchModel$Paper" 33 y_MoPaper_put) : Cond) ∈ GW := gw_8 122 (by decide +kernel) rfl
theorem wd_744 : ((.instanceMethod y_MoPaper_put) : Cond) ∈ GW := gw_8 124 (by decide +kernel) rfl
theorem wd_745 : (.selects R_MoPaper y_MoPaper_put y_MoPaper_put : Cond) ∈ GW := gw_pr 84 (by decide +kernel) rfl
theorem wd_746 : ((.methodLink "UnifyBenchModel$Reader" 132 y_String_indexOf_I) : Cond) ∈ GW := gw_7 223 (by decide +kernel) rfl
theorem wd_747 : ((.methodLink "UnifyBenchModel$Paper" 43 y_MoNames_length) : Cond) ∈ GW := gw_8 165 (by decide +kernel) rfl
theorem wd_748 : ((.methodLink "UnifyBenchModel$Paper" 49 y_MoNames_at) : Cond) ∈ GW := gw_8 166 (by decide +kernel) rfl
theorem wd_749 : ((.code y_MoNames_spells prog_15_method_7_code 4 (some .boolean)) : Cond) ∈ GW := gw_8 141 (by decide +kernel) rfl
theorem wd_750 : ((.methodLink "UnifyBenchModel$Paper" 55 y_MoNames_spells) : Cond) ∈ GW := gw_8 138 (by decide +kernel) rfl
theorem wd_751 : ((.instanceMethod y_MoNames_spells) : Cond) ∈ GW := gw_8 139 (by decide +kernel) rfl
theorem wd_752 : ((.selects "UnifyBenchModel$Names" y_MoNames_spells y_MoNames_spells) : Cond) ∈ GW := gw_8 140 (by decide +kernel) rfl
theorem wd_753 : ((.code y_MoReader_symbol prog_17_method_9_code 1 (some .boolean)) : Cond) ∈ GW := gw_7 221 (by decide +kernel) rfl
theorem wd_754 : ((.initialized "UnifyBenchModel$Reader") : Cond) ∈ GW := gw_1 23 (by decide +kernel) rfl
theorem wd_755 : ((.methodLink "UnifyBenchModel$Paper" 61 y_MoReader_symbol) : Cond) ∈ GW := gw_8 167 (by decide +kernel) rfl
theorem wd_756 : ((.static y_MoReader_symbol) : Cond) ∈ GW := gw_7 220 (by decide +kernel) rfl
theorem wd_757 : ((.code y_MoPaper_plain prog_16_method_4_code 8 (some .boolean)) : Cond) ∈ GW := gw_8 164 (by decide +kernel) rfl
theorem wd_758 : ((.methodLink "UnifyBenchModel$Paper" 67 y_MoPaper_plain) : Cond) ∈ GW := gw_8 162 (by decide +kernel) rfl
theorem wd_759 : ((.static y_MoPaper_plain) : Cond) ∈ GW := gw_8 163 (by decide +kernel) rfl
theorem wd_760 : ((.fieldLink "UnifyBenchModel$Paper" 71 "UnifyBenchModel$Paper" "order" "I") : Cond) ∈ GW := gw_7 38 (by decide +kernel) rfl
theorem wd_761 : ((.code y_MoPaper_number prog_16_method_3_code 7 none) : Cond) ∈ GW := gw_8 133 (by decide +kernel) rfl
theorem wd_762 : ((.methodLink "UnifyBenchModel$Paper" 74 y_MoPaper_number) : Cond) ∈ GW := gw_8 130 (by decide +kernel) rfl
theorem wd_763 : ((.instanceMethod y_MoPaper_number) : Cond) ∈ GW := gw_8 132 (by decide +kernel) rfl
theorem wd_764 : (.selects R_MoPaper y_MoPaper_number y_MoPaper_number : Cond) ∈ GW := gw_pr 86 (by decide +kernel) rfl
theorem wd_765 : ((.fieldLink "UnifyBenchModel$Paper" 92 "UnifyBenchModel$Terms" "many" "[I") : Cond) ∈ GW := gw_6 96 (by decide +kernel) rfl
theorem wd_766 : ((.code y_MoTerms_part prog_18_method_6_code 3 (some .int)) : Cond) ∈ GW := gw_8 85 (by decide +kernel) rfl
theorem wd_767 : ((.initialized "UnifyBenchModel$Terms") : Cond) ∈ GW := gw_1 21 (by decide +kernel) rfl
theorem wd_768 : ((.methodLink "UnifyBenchModel$Paper" 95 y_MoTerms_part) : Cond) ∈ GW := gw_8 152 (by decide +kernel) rfl
theorem wd_769 : ((.instanceMethod y_MoTerms_part) : Cond) ∈ GW := gw_8 83 (by decide +kernel) rfl
theorem wd_770 : ((.selects "UnifyBenchModel$Terms" y_MoTerms_part y_MoTerms_part) : Cond) ∈ GW := gw_8 84 (by decide +kernel) rfl
theorem wd_771 : ((.fieldLink "UnifyBenchModel$Paper" 83 "UnifyBenchModel$Terms" "name" "[I") : Cond) ∈ GW := gw_6 92 (by decide +kernel) rfl
theorem wd_772 : ((.code y_MoPaper_name prog_16_method_5_code 5 none) : Cond) ∈ GW := gw_8 161 (by decide +kernel) rfl
theorem wd_773 : ((.methodLink "UnifyBenchModel$Paper" 102 y_MoPaper_name) : Cond) ∈ GW := gw_8 158 (by decide +kernel) rfl
theorem wd_774 : ((.instanceMethod y_MoPaper_name) : Cond) ∈ GW := gw_8 160 (by decide +kernel) rfl
theorem wd_775 : (.selects R_MoPaper y_MoPaper_name y_MoPaper_name : Cond) ∈ GW := gw_pr 88 (by decide +kernel) rfl
theorem d_MoPaper_init_0 : decode b_MoPaper_init 0 = .ok (.aload_n 0, 1) := by decide +kernel
theorem d_MoPaper_init_1 : decode b_MoPaper_init 1 = .ok (.invokespecial 3, 3) := by decide +kernel
theorem d_MoPaper_init_4 : decode b_MoPaper_init 4 = .ok (.aload_n 0, 1) := by decide +kernel
theorem d_MoPaper_init_5 : decode b_MoPaper_init 5 = .ok (.sipush 4096, 3) := by decide +kernel
theorem d_MoPaper_init_8 : decode b_MoPaper_init 8 = .ok (.newarray .byte, 2) := by decide +kernel
theorem d_MoPaper_init_10 : decode b_MoPaper_init 10 = .ok (.putfield 9, 3) := by decide +kernel
theorem d_MoPaper_init_13 : decode b_MoPaper_init 13 = .ok (.aload_n 0, 1) := by decide +kernel
theorem d_MoPaper_init_14 : decode b_MoPaper_init 14 = .ok (.sipush 9000, 3) := by decide +kernel
theorem d_MoPaper_init_17 : decode b_MoPaper_init 17 = .ok (.newarray .int, 2) := by decide +kernel
theorem d_MoPaper_init_19 : decode b_MoPaper_init 19 = .ok (.putfield 15, 3) := by decide +kernel
theorem d_MoPaper_init_22 : decode b_MoPaper_init 22 = .ok (.aload_n 0, 1) := by decide +kernel
theorem d_MoPaper_init_23 : decode b_MoPaper_init 23 = .ok (.sipush 9000, 3) := by decide +kernel
theorem d_MoPaper_init_26 : decode b_MoPaper_init 26 = .ok (.newarray .int, 2) := by decide +kernel
theorem d_MoPaper_init_28 : decode b_MoPaper_init 28 = .ok (.putfield 19, 3) := by decide +kernel
theorem d_MoPaper_init_31 : decode b_MoPaper_init 31 = .ok (.aload_n 0, 1) := by decide +kernel
theorem d_MoPaper_init_32 : decode b_MoPaper_init 32 = .ok (.sipush 4200, 3) := by decide +kernel
theorem d_MoPaper_init_35 : decode b_MoPaper_init 35 = .ok (.newarray .int, 2) := by decide +kernel
theorem d_MoPaper_init_37 : decode b_MoPaper_init 37 = .ok (.putfield 22, 3) := by decide +kernel
theorem d_MoPaper_init_40 : decode b_MoPaper_init 40 = .ok (.return_, 1) := by decide +kernel
def p_MoPaper_init : Option ((Int32 × Int32 × Int32 × Nat × (Nat → Int32) × Nat × (Nat → Int32) × Nat × (Nat → Int32) × Nat × (Nat → Int32)) × Nat × Nat) := al 1 4096 (al 1 9000 (al 1 9000 (al 1 4200 (some (((0 : Int32), (0 : Int32), (0 : Int32), 4096, (fun _ => 0 : Nat → Int32), 9000, (fun _ => 0 : Nat → Int32), 9000, (fun _ => 0 : Nat → Int32), 4200, (fun _ => 0 : Nat → Int32)), 0, 0)))))
set_option maxHeartbeats 40000000 in
set_option maxRecDepth 100000 in
theorem c_MoPaper_init (l : Launch) (g : va_G) (cs : Nat → ClassId) (ka : Nat → Nat) (a : Nat) (sz : Nat) (o_a_n : Int32) (o_a_over : Int32) (o_a_order : Int32) (o_a_out_n : Nat) (o_a_out_f : Nat → Int32) (o_a_walk_n : Nat) (o_a_walk_f : Nat → Int32) (o_a_next_n : Nat) (o_a_next_f : Nat → Int32) (o_a_seen_n : Nat) (o_a_seen_f : Nat → Int32) (mc ms : Nat) (hok : p_MoPaper_init = some ((o_a_n, o_a_over, o_a_order, o_a_out_n, o_a_out_f, o_a_walk_n, o_a_walk_f, o_a_next_n, o_a_next_f, o_a_seen_n, o_a_seen_f), mc, ms)) : Met l y_MoPaper_init (.code y_MoPaper_init b_MoPaper_init 1 none :: GW) { frames := 1, cells := mc, slots := ms, locals := 12 } (va_Pc [.ref a] (gP g cs ka [(a, .inr (13, [.null, .null, .null, .null, .int 0, .int 0, .int 0]))] sz)) (va_Qv (fun _ : Unit => True) (fun _ t => ∃ b_a_out b_a_walk b_a_next b_a_seen : Nat, va_P g classes [(a, .inr (13, [.ref b_a_out, .ref b_a_walk, .ref b_a_next, .ref b_a_seen, .int o_a_n, .int o_a_over, .int o_a_order])), (b_a_out, .inl (cs 1, o_a_out_n, .inl o_a_out_f)), (b_a_walk, .inl (cs 0, o_a_walk_n, .inl o_a_walk_f)), (b_a_next, .inl (cs 0, o_a_next_n, .inl o_a_next_f)), (b_a_seen, .inl (cs 0, o_a_seen_n, .inl o_a_seen_f))] t.heap ∧ va_D (va_A [(a, .inr (13, [.null, .null, .null, .null, .int 0, .int 0, .int 0]))] sz) [(a, .inr (13, [.ref b_a_out, .ref b_a_walk, .ref b_a_next, .ref b_a_seen, .int o_a_n, .int o_a_over, .int o_a_order])), (b_a_out, .inl (cs 1, o_a_out_n, .inl o_a_out_f)), (b_a_walk, .inl (cs 0, o_a_walk_n, .inl o_a_walk_f)), (b_a_next, .inl (cs 0, o_a_next_n, .inl o_a_next_f)), (b_a_seen, .inl (cs 0, o_a_seen_n, .inl o_a_seen_f))]) (va_A [(a, .inr (13, [.null, .null, .null, .null, .int 0, .int 0, .int 0]))] sz)) mc ms (va_A [(a, .inr (13, [.null, .null, .null, .null, .int 0, .int 0, .int 0]))] sz) := by
  refine Met.ofW (cc := b_MoPaper_init) (maxL := 1) (ret := none) (by decide) rfl ?_
  intro p e s m args below meth c s₁ B hml hv
  obtain ⟨rfl, hsz, hP, hK, hD0, hgl, hkn, hkr⟩ := hv
  have hx := B.exec
  have hb := B.bytes
  have hr := B.returns
  have hg : ∀ w ∈ GW, w.before ([.ref a] : List Value).toArray s = true := fun w hw => atoms_spec (ws := .code y_MoPaper_init b_MoPaper_init 1 none :: GW) B.pre w (List.mem_cons_of_mem _ hw)
  have hown : s.vm.findClass R_MoPaper = some m.cls := findClass_of_methodNamed B.named
  have hlocks := B.notSynchronized
  have hin : meth.name = "<init>" := (name_of_methodNamed B.named B.method).1
  subst hsz
  have hD := hD0.self (sz := s.heap.size)
  generalize hAe : va_A [(a, .inr (13, [.null, .null, .null, .null, .int 0, .int 0, .int 0]))] s.heap.size = A at hD hkn ⊢
  have hA : ∀ q : Nat, s.heap.size ≤ q → A q := fun q h => by rw [← hAe]; exact Or.inr h
  have hS : va_S A s.heap s.heap [] := va_S.rf
  have hP : va_P g classes [(a, .inr (13, [.null, .null, .null, .null, .int 0, .int 0, .int 0]))] s.heap := hP
  have hl := lv_entry ([.ref a]) (n := 1) (Nat.le_of_ble_eq_true rfl)
  rw [lg_entry_eq]
  generalize (lg_sl ([.ref a]) ++ List.replicate (1 - (lg_sl ([.ref a])).length) Slot.unset).toArray = ls at hl ⊢
  have hl : lv_has ls 1 [(0, .ref a)] := hl
  refine gq (fun Q hQ => ?_)
  obtain ⟨H, hH⟩ : ∃ H : Heap, H = s.heap := ⟨_, rfl⟩
  rw [← hH] at hP
  have hS : va_S A s.heap H [] := by rw [hH]; exact hS
  refine W.eqH hH ?_
  obtain ⟨locs, hlc⟩ : ∃ L : List Loc, L = [] := ⟨_, rfl⟩
  rw [← hlc] at hS ⊢
  unfold p_MoPaper_init at hok
  refine lv_aload_n hx hb d_MoPaper_init_0 rfl (lv_at hl 0 rfl) ?_
  refine W.objInit hx hb hown (hg _ wd_731) (hg _ wd_158) (hg _ wd_159) rfl (by rw [hml]; exact hl.1) rfl d_MoPaper_init_1 (Nat.le_of_ble_eq_true rfl) (Nat.le_of_ble_eq_true rfl) ?_
  refine W.eq (g2 := F0 m 4 ls []) rfl ?_
  refine lv_aload_n hx hb d_MoPaper_init_4 rfl (lv_at hl 0 rfl) ?_
  refine lv_sipush (v := 4096) hx hb d_MoPaper_init_5 (by decide) ?_
  obtain ⟨m1, s1, hok, hmc1, hms1⟩ := al_some hok
  refine g_newB hx hb (hg _ wd_209) hK hP hD hS hA (4096) (by decide) (by decide) (by decide) (show 0 + 1 ≤ mc from by omega) (show 0 + 4096 ≤ ms from by omega) d_MoPaper_init_8 (fun q1 H hP hD hS => ?_)
  obtain ⟨hP, hD⟩ : PD g A H [(a, .inr (13, [.null, .null, .null, .null, .int 0, .int 0, .int 0])), (q1, .inl (cs 1, 4096, .inl (fun _ => 0)))] := ⟨hP, hD⟩
  refine va_putF (D := g) (ci := 13) (v := .ref q1) (ty := .array .byte) (C := R_MoPaper) (T := F_MoPaper) (N := 7) hx hb hg ul_MoPaper t_MoPaper tk_MoPaper n_MoPaper hown hK hP hD hS 0 rfl rfl 0 (by decide) (hg _ wd_732) (fun _ h9 => h9) rfl hin rfl (by decide +kernel) rfl rfl (Nat.le_of_ble_eq_true rfl) d_MoPaper_init_10 (fun H locs hP hD hS => ?_)
  obtain ⟨hP, hD⟩ : PD g A H [(a, .inr (13, [.ref q1, .null, .null, .null, .int 0, .int 0, .int 0])), (q1, .inl (cs 1, 4096, .inl (fun _ => 0)))] := ⟨hP, hD⟩
  refine lv_aload_n hx hb d_MoPaper_init_13 rfl (lv_at hl 0 rfl) ?_
  refine lv_sipush (v := 9000) hx hb d_MoPaper_init_14 (by decide) ?_
  obtain ⟨m2, s2, hok, hmc2, hms2⟩ := al_some hok
  refine g_newI hx hb (hg _ wd_142) hK hP hD hS hA (9000) (by decide) (by decide) (by decide) (show 0 + 1 + 1 ≤ mc from by omega) (show 0 + 4096 + 9000 ≤ ms from by omega) d_MoPaper_init_17 (fun q2 H hP hD hS => ?_)
  obtain ⟨hP, hD⟩ : PD g A H [(a, .inr (13, [.ref q1, .null, .null, .null, .int 0, .int 0, .int 0])), (q1, .inl (cs 1, 4096, .inl (fun _ => 0))), (q2, .inl (cs 0, 9000, .inl (fun _ => 0)))] := ⟨hP, hD⟩
  refine va_putF (D := g) (ci := 13) (v := .ref q2) (ty := .array .int) (C := R_MoPaper) (T := F_MoPaper) (N := 7) hx hb hg ul_MoPaper t_MoPaper tk_MoPaper n_MoPaper hown hK hP hD hS 0 rfl rfl 1 (by decide) (hg _ wd_733) (fun _ h9 => h9) rfl hin rfl (by decide +kernel) rfl rfl (Nat.le_of_ble_eq_true rfl) d_MoPaper_init_19 (fun H locs hP hD hS => ?_)
  obtain ⟨hP, hD⟩ : PD g A H [(a, .inr (13, [.ref q1, .ref q2, .null, .null, .int 0, .int 0, .int 0])), (q1, .inl (cs 1, 4096, .inl (fun _ => 0))), (q2, .inl (cs 0, 9000, .inl (fun _ => 0)))] := ⟨hP, hD⟩
  refine lv_aload_n hx hb d_MoPaper_init_22 rfl (lv_at hl 0 rfl) ?_
  refine lv_sipush (v := 9000) hx hb d_MoPaper_init_23 (by decide) ?_
  obtain ⟨m3, s3, hok, hmc3, hms3⟩ := al_some hok
  refine g_newI hx hb (hg _ wd_142) hK hP hD hS hA (9000) (by decide) (by decide) (by decide) (show 0 + 1 + 1 + 1 ≤ mc from by omega) (show 0 + 4096 + 9000 + 9000 ≤ ms from by omega) d_MoPaper_init_26 (fun q3 H hP hD hS => ?_)
  obtain ⟨hP, hD⟩ : PD g A H [(a, .inr (13, [.ref q1, .ref q2, .null, .null, .int 0, .int 0, .int 0])), (q1, .inl (cs 1, 4096, .inl (fun _ => 0))), (q2, .inl (cs 0, 9000, .inl (fun _ => 0))), (q3, .inl (cs 0, 9000, .inl (fun _ => 0)))] := ⟨hP, hD⟩
  refine va_putF (D := g) (ci := 13) (v := .ref q3) (ty := .array .int) (C := R_MoPaper) (T := F_MoPaper) (N := 7) hx hb hg ul_MoPaper t_MoPaper tk_MoPaper n_MoPaper hown hK hP hD hS 0 rfl rfl 2 (by decide) (hg _ wd_734) (fun _ h9 => h9) rfl hin rfl (by decide +kernel) rfl rfl (Nat.le_of_ble_eq_true rfl) d_MoPaper_init_28 (fun H locs hP hD hS => ?_)
  obtain ⟨hP, hD⟩ : PD g A H [(a, .inr (13, [.ref q1, .ref q2, .ref q3, .null, .int 0, .int 0, .int 0])), (q1, .inl (cs 1, 4096, .inl (fun _ => 0))), (q2, .inl (cs 0, 9000, .inl (fun _ => 0))), (q3, .inl (cs 0, 9000, .inl (fun _ => 0)))] := ⟨hP, hD⟩
  refine lv_aload_n hx hb d_MoPaper_init_31 rfl (lv_at hl 0 rfl) ?_
  refine lv_sipush (v := 4200) hx hb d_MoPaper_init_32 (by decide) ?_
  obtain ⟨m4, s4, hok, hmc4, hms4⟩ := al_some hok
  refine g_newI hx hb (hg _ wd_142) hK hP hD hS hA (4200) (by decide) (by decide) (by decide) (show 0 + 1 + 1 + 1 + 1 ≤ mc from by omega) (show 0 + 4096 + 9000 + 9000 + 4200 ≤ ms from by omega) d_MoPaper_init_35 (fun q4 H hP hD hS => ?_)
  obtain ⟨hP, hD⟩ : PD g A H [(a, .inr (13, [.ref q1, .ref q2, .ref q3, .null, .int 0, .int 0, .int 0])), (q1, .inl (cs 1, 4096, .inl (fun _ => 0))), (q2, .inl (cs 0, 9000, .inl (fun _ => 0))), (q3, .inl (cs 0, 9000, .inl (fun _ => 0))), (q4, .inl (cs 0, 4200, .inl (fun _ => 0)))] := ⟨hP, hD⟩
  refine va_putF (D := g) (ci := 13) (v := .ref q4) (ty := .array .int) (C := R_MoPaper) (T := F_MoPaper) (N := 7) hx hb hg ul_MoPaper t_MoPaper tk_MoPaper n_MoPaper hown hK hP hD hS 0 rfl rfl 3 (by decide) (hg _ wd_735) (fun _ h9 => h9) rfl hin rfl (by decide +kernel) rfl rfl (Nat.le_of_ble_eq_true rfl) d_MoPaper_init_37 (fun H locs hP hD hS => ?_)
  obtain ⟨hP, hD⟩ : PD g A H [(a, .inr (13, [.ref q1, .ref q2, .ref q3, .ref q4, .int 0, .int 0, .int 0])), (q1, .inl (cs 1, 4096, .inl (fun _ => 0))), (q2, .inl (cs 0, 9000, .inl (fun _ => 0))), (q3, .inl (cs 0, 9000, .inl (fun _ => 0))), (q4, .inl (cs 0, 4200, .inl (fun _ => 0)))] := ⟨hP, hD⟩
  obtain ⟨hq, hw⟩ := Prod.mk.inj (Option.some.inj hok)
  obtain ⟨hmc0, hms0⟩ := Prod.mk.inj hw
  obtain ⟨hq0, hq⟩ := Prod.mk.inj hq
  obtain ⟨hq1, hq⟩ := Prod.mk.inj hq
  obtain ⟨hq2, hq⟩ := Prod.mk.inj hq
  obtain ⟨hq3, hq⟩ := Prod.mk.inj hq
  obtain ⟨hq4, hq⟩ := Prod.mk.inj hq
  obtain ⟨hq5, hq⟩ := Prod.mk.inj hq
  obtain ⟨hq6, hq⟩ := Prod.mk.inj hq
  obtain ⟨hq7, hq⟩ := Prod.mk.inj hq
  obtain ⟨hq8, hq⟩ := Prod.mk.inj hq
  obtain ⟨hq9, hq⟩ := Prod.mk.inj hq
  have hq10 := hq
  subst hq0
  subst hq1
  subst hq2
  subst hq3
  subst hq4
  subst hq5
  subst hq6
  subst hq7
  subst hq8
  subst hq9
  subst hq10
  obtain ⟨hP9, hD9⟩ := sub2 (ws' := [(a, .inr (13, [.ref q1, .ref q2, .ref q3, .ref q4, .int 0, .int 0, .int 0])), (q1, .inl (cs 1, 4096, .inl (fun _ => 0))), (q2, .inl (cs 0, 9000, .inl (fun _ => 0))), (q3, .inl (cs 0, 9000, .inl (fun _ => 0))), (q4, .inl (cs 0, 4200, .inl (fun _ => 0)))]) hP hD [0, 1, 2, 3, 4] rfl (by decide) rfl
  refine W.widen (k := mc) (n := ms) (by omega) (by omega) ?_
  rw [hQ]
  exact W.vret hx hb hr (fun t ht hW => ⟨⟨(), rfl, trivial, q1, q2, q3, q4, by rw [ht]; exact hP9, hD9⟩, hS.F ht⟩) hS.2.2 d_MoPaper_init_40

theorem d_MoPaper_put_0 : decode b_MoPaper_put 0 = .ok (.aload_n 0, 1) := by decide +kernel
theorem d_MoPaper_put_1 : decode b_MoPaper_put 1 = .ok (.getfield 25, 3) := by decide +kernel
theorem d_MoPaper_put_4 : decode b_MoPaper_put 4 = .ok (.sipush 4096, 3) := by decide +kernel
theorem d_MoPaper_put_7 : decode b_MoPaper_put 7 = .ok (.if_icmp .ne 8, 3) := by decide +kernel
theorem d_MoPaper_put_10 : decode b_MoPaper_put 10 = .ok (.aload_n 0, 1) := by decide +kernel
theorem d_MoPaper_put_11 : decode b_MoPaper_put 11 = .ok (.iconst 1, 1) := by decide +kernel
theorem d_MoPaper_put_12 : decode b_MoPaper_put 12 = .ok (.putfield 29, 3) := by decide +kernel
theorem d_MoPaper_put_15 : decode b_MoPaper_put 15 = .ok (.aload_n 0, 1) := by decide +kernel
theorem d_MoPaper_put_16 : decode b_MoPaper_put 16 = .ok (.getfield 29, 3) := by decide +kernel
theorem d_MoPaper_put_19 : decode b_MoPaper_put 19 = .ok (.ifCond .eq 4, 3) := by decide +kernel
theorem d_MoPaper_put_22 : decode b_MoPaper_put 22 = .ok (.return_, 1) := by decide +kernel
theorem d_MoPaper_put_23 : decode b_MoPaper_put 23 = .ok (.aload_n 0, 1) := by decide +kernel
theorem d_MoPaper_put_24 : decode b_MoPaper_put 24 = .ok (.getfield 9, 3) := by decide +kernel
theorem d_MoPaper_put_27 : decode b_MoPaper_put 27 = .ok (.aload_n 0, 1) := by decide +kernel
theorem d_MoPaper_put_28 : decode b_MoPaper_put 28 = .ok (.getfield 25, 3) := by decide +kernel
theorem d_MoPaper_put_31 : decode b_MoPaper_put 31 = .ok (.iload_n 1, 1) := by decide +kernel
theorem d_MoPaper_put_32 : decode b_MoPaper_put 32 = .ok (.i2b, 1) := by decide +kernel
theorem d_MoPaper_put_33 : decode b_MoPaper_put 33 = .ok (.bastore, 1) := by decide +kernel
theorem d_MoPaper_put_34 : decode b_MoPaper_put 34 = .ok (.aload_n 0, 1) := by decide +kernel
theorem d_MoPaper_put_35 : decode b_MoPaper_put 35 = .ok (.dup, 1) := by decide +kernel
theorem d_MoPaper_put_36 : decode b_MoPaper_put 36 = .ok (.getfield 25, 3) := by decide +kernel
theorem d_MoPaper_put_39 : decode b_MoPaper_put 39 = .ok (.iconst 1, 1) := by decide +kernel
theorem d_MoPaper_put_40 : decode b_MoPaper_put 40 = .ok (.iadd, 1) := by decide +kernel
theorem d_MoPaper_put_41 : decode b_MoPaper_put 41 = .ok (.putfield 25, 3) := by decide +kernel
theorem d_MoPaper_put_44 : decode b_MoPaper_put 44 = .ok (.return_, 1) := by decide +kernel
def p_MoPaper_put_15 (b : Int32) (a_n : Int32) (a_out_n : Nat) (a_out_f : Nat → Int32) (a_over_1 : Int32) : Option (Int32 × Int32 × (Nat → Int32)) := if a_over_1 = 0 then (ck (ixb a_n a_out_n) (some (a_n + 1, a_over_1, upd a_out_f a_n.toNatClampNeg (vp_nar .byte b.toInt8.toInt32)))) else (some (a_n, a_over_1, a_out_f))
def p_MoPaper_put (b : Int32) (a_n : Int32) (a_over : Int32) (a_order : Int32) (a_out_n : Nat) (a_out_f : Nat → Int32) : Option (Int32 × Int32 × (Nat → Int32)) := if a_n = 4096 then (p_MoPaper_put_15 b a_n a_out_n a_out_f (1 : Int32)) else (p_MoPaper_put_15 b a_n a_out_n a_out_f a_over)
set_option maxHeartbeats 40000000 in
set_option maxRecDepth 100000 in
theorem c_MoPaper_put (l : Launch) (g : va_G) (cs : Nat → ClassId) (ka : Nat → Nat) (a_walk : Nat) (a_next : Nat) (a_seen : Nat) (a a_out : Nat) (sz : Nat) (b : Int32) (a_n : Int32) (a_over : Int32) (a_order : Int32) (a_out_n : Nat) (a_out_f : Nat → Int32) (o_a_n : Int32) (o_a_over : Int32) (o_a_out_f : Nat → Int32) (hok : p_MoPaper_put b a_n a_over a_order a_out_n a_out_f = some (o_a_n, o_a_over, o_a_out_f)) : Met l y_MoPaper_put (.code y_MoPaper_put b_MoPaper_put 2 none :: GW) { frames := 0, cells := 0, slots := 0, locals := 0 } (va_Pc [.ref a, .int b] (gP g cs ka [(a, .inr (13, [.ref a_out, .ref a_walk, .ref a_next, .ref a_seen, .int a_n, .int a_over, .int a_order])), (a_out, .inl (cs 1, a_out_n, .inl a_out_f))] sz)) (va_Qv (fun _ : Unit => True) (fun _ t => va_P g classes [(a, .inr (13, [.ref a_out, .ref a_walk, .ref a_next, .ref a_seen, .int o_a_n, .int o_a_over, .int a_order])), (a_out, .inl (cs 1, a_out_n, .inl o_a_out_f))] t.heap ∧ va_D (va_A [(a, .inr (13, [.ref a_out, .ref a_walk, .ref a_next, .ref a_seen, .int a_n, .int a_over, .int a_order])), (a_out, .inl (cs 1, a_out_n, .inl a_out_f))] sz) [(a, .inr (13, [.ref a_out, .ref a_walk, .ref a_next, .ref a_seen, .int o_a_n, .int o_a_over, .int a_order])), (a_out, .inl (cs 1, a_out_n, .inl o_a_out_f))]) (va_A [(a, .inr (13, [.ref a_out, .ref a_walk, .ref a_next, .ref a_seen, .int a_n, .int a_over, .int a_order])), (a_out, .inl (cs 1, a_out_n, .inl a_out_f))] sz)) 0 0 (va_A [(a, .inr (13, [.ref a_out, .ref a_walk, .ref a_next, .ref a_seen, .int a_n, .int a_over, .int a_order])), (a_out, .inl (cs 1, a_out_n, .inl a_out_f))] sz) := by
  refine Met.ofW (cc := b_MoPaper_put) (maxL := 2) (ret := none) (by decide) rfl ?_
  intro p e s m args below meth c s₁ B hml hv
  obtain ⟨rfl, hsz, hP, hK, hD0, hgl, hkn, hkr⟩ := hv
  have hx := B.exec
  have hb := B.bytes
  have hr := B.returns
  have hg : ∀ w ∈ GW, w.before ([.ref a, .int b] : List Value).toArray s = true := fun w hw => atoms_spec (ws := .code y_MoPaper_put b_MoPaper_put 2 none :: GW) B.pre w (List.mem_cons_of_mem _ hw)
  have hown : s.vm.findClass R_MoPaper = some m.cls := findClass_of_methodNamed B.named
  have hlocks := B.notSynchronized
  subst hsz
  have hD := hD0.self (sz := s.heap.size)
  generalize hAe : va_A [(a, .inr (13, [.ref a_out, .ref a_walk, .ref a_next, .ref a_seen, .int a_n, .int a_over, .int a_order])), (a_out, .inl (cs 1, a_out_n, .inl a_out_f))] s.heap.size = A at hD hkn ⊢
  have hA : ∀ q : Nat, s.heap.size ≤ q → A q := fun q h => by rw [← hAe]; exact Or.inr h
  have hS : va_S A s.heap s.heap [] := va_S.rf
  have hP : va_P g classes [(a, .inr (13, [.ref a_out, .ref a_walk, .ref a_next, .ref a_seen, .int a_n, .int a_over, .int a_order])), (a_out, .inl (cs 1, a_out_n, .inl a_out_f))] s.heap := hP
  have hl := lv_entry ([.ref a, .int b]) (n := 2) (Nat.le_of_ble_eq_true rfl)
  rw [lg_entry_eq]
  generalize (lg_sl ([.ref a, .int b]) ++ List.replicate (2 - (lg_sl ([.ref a, .int b])).length) Slot.unset).toArray = ls at hl ⊢
  have hl : lv_has ls 2 [(0, .ref a), (1, .int b)] := hl
  refine gq (fun Q hQ => ?_)
  obtain ⟨H, hH⟩ : ∃ H : Heap, H = s.heap := ⟨_, rfl⟩
  rw [← hH] at hP
  have hS : va_S A s.heap H [] := by rw [hH]; exact hS
  refine W.eqH hH ?_
  obtain ⟨locs, hlc⟩ : ∃ L : List Loc, L = [] := ⟨_, rfl⟩
  rw [← hlc] at hS ⊢
  unfold p_MoPaper_put at hok
  refine lv_aload_n hx hb d_MoPaper_put_0 rfl (lv_at hl 0 rfl) ?_
  refine va_get (D := g) (ci := 13) (v := .int a_n) (C := R_MoPaper) (T := F_MoPaper) (N := 7) hx hb hg ul_MoPaper hown hK hP 0 rfl rfl 4 (by decide) (hg _ wd_736) (fun _ h9 => h9) rfl d_MoPaper_put_1 ?_
  refine lv_sipush (v := 4096) hx hb d_MoPaper_put_4 (by decide) ?_
  have J1 : ∀ (H : Heap) (locs : List Loc) (ls : Array Slot) (a_over_1 : Int32), lv_has ls 2 [(0, .ref a), (1, .int b)] → PD g A H [(a, .inr (13, [.ref a_out, .ref a_walk, .ref a_next, .ref a_seen, .int a_n, .int a_over_1, .int a_order])), (a_out, .inl (cs 1, a_out_n, .inl a_out_f))] → va_S A s.heap H locs → p_MoPaper_put_15 b a_n a_out_n a_out_f a_over_1 = some (o_a_n, o_a_over, o_a_out_f) → W p l e (headSpec (.code y_MoPaper_put b_MoPaper_put 2 none :: GW) { frames := 0, cells := 0, slots := 0, locals := 0 }).room s m ([.ref a, .int b] : List Value).toArray below meth c H locs 0 0 Q (F0 m 15 ls []) := by
    intro H locs ls a_over_1 hl ⟨hP, hD⟩ hS hok
    unfold p_MoPaper_put_15 at hok
    refine lv_aload_n hx hb d_MoPaper_put_15 rfl (lv_at hl 0 rfl) ?_
    refine va_get (D := g) (ci := 13) (v := .int a_over_1) (C := R_MoPaper) (T := F_MoPaper) (N := 7) hx hb hg ul_MoPaper hown hK hP 0 rfl rfl 5 (by decide) (hg _ wd_737) (fun _ h9 => h9) rfl d_MoPaper_put_16 ?_
    refine lv_if_eq hx hb d_MoPaper_put_19 rfl (fun h2 => ?_) (fun h2 => ?_)
    · rw [if_pos h2] at hok
      refine lv_aload_n hx hb d_MoPaper_put_23 rfl (lv_at hl 0 rfl) ?_
      refine va_get (D := g) (ci := 13) (v := .ref a_out) (C := R_MoPaper) (T := F_MoPaper) (N := 7) hx hb hg ul_MoPaper hown hK hP 0 rfl rfl 0 (by decide) (hg _ wd_732) (fun _ h9 => h9) rfl d_MoPaper_put_24 ?_
      refine lv_aload_n hx hb d_MoPaper_put_27 rfl (lv_at hl 0 rfl) ?_
      refine va_get (D := g) (ci := 13) (v := .int a_n) (C := R_MoPaper) (T := F_MoPaper) (N := 7) hx hb hg ul_MoPaper hown hK hP 0 rfl rfl 4 (by decide) (hg _ wd_736) (fun _ h9 => h9) rfl d_MoPaper_put_28 ?_
      refine lv_iload_n hx hb d_MoPaper_put_31 rfl (lv_at hl 1 rfl) ?_
      refine lv_i2b hx hb d_MoPaper_put_32 rfl ?_
      obtain ⟨hi3, hok⟩ := ck_some hok
      refine va_bast hx hb hK hP hD hS 1 1 rfl rfl (ixb_in hi3) d_MoPaper_put_33 (fun H locs hP hD hS => ?_)
      obtain ⟨hP, hD⟩ : PD g A H [(a, .inr (13, [.ref a_out, .ref a_walk, .ref a_next, .ref a_seen, .int a_n, .int a_over_1, .int a_order])), (a_out, .inl (cs 1, a_out_n, .inl (upd a_out_f a_n.toNatClampNeg (vp_nar .byte b.toInt8.toInt32))))] := ⟨hP, hD⟩
      refine lv_aload_n hx hb d_MoPaper_put_34 rfl (lv_at hl 0 rfl) ?_
      refine lv_dup hx hb d_MoPaper_put_35 rfl ?_
      refine va_get (D := g) (ci := 13) (v := .int a_n) (C := R_MoPaper) (T := F_MoPaper) (N := 7) hx hb hg ul_MoPaper hown hK hP 0 rfl rfl 4 (by decide) (hg _ wd_736) (fun _ h9 => h9) rfl d_MoPaper_put_36 ?_
      refine lv_iconst (v := 1) hx hb d_MoPaper_put_39 (by decide) ?_
      refine lv_iadd hx hb d_MoPaper_put_40 ?_
      refine va_put (D := g) (ci := 13) (v := .int (a_n + 1)) (ty := .int) (C := R_MoPaper) (T := F_MoPaper) (N := 7) hx hb hg ul_MoPaper t_MoPaper tk_MoPaper n_MoPaper hown hK hP hD hS 0 rfl rfl 4 (by decide) (hg _ wd_736) (fun _ h9 => h9) rfl (by decide +kernel) rfl rfl (Nat.le_of_ble_eq_true rfl) d_MoPaper_put_41 (fun H locs hP hD hS => ?_)
      obtain ⟨hP, hD⟩ : PD g A H [(a, .inr (13, [.ref a_out, .ref a_walk, .ref a_next, .ref a_seen, .int (a_n + 1), .int a_over_1, .int a_order])), (a_out, .inl (cs 1, a_out_n, .inl (upd a_out_f a_n.toNatClampNeg (vp_nar .byte b.toInt8.toInt32))))] := ⟨hP, hD⟩
      have hq := Option.some.inj hok
      obtain ⟨hq0, hq⟩ := Prod.mk.inj hq
      obtain ⟨hq1, hq⟩ := Prod.mk.inj hq
      have hq2 := hq
      subst hq0
      subst hq1
      subst hq2
      obtain ⟨hP9, hD9⟩ := sub2 (ws' := [(a, .inr (13, [.ref a_out, .ref a_walk, .ref a_next, .ref a_seen, .int (a_n + 1), .int a_over_1, .int a_order])), (a_out, .inl (cs 1, a_out_n, .inl (upd a_out_f a_n.toNatClampNeg (vp_nar .byte b.toInt8.toInt32))))]) hP hD [0, 1] rfl (by decide) rfl
      rw [hQ]
      exact W.vret hx hb hr (fun t ht hW => ⟨⟨(), rfl, trivial, by rw [ht]; exact hP9, hD9⟩, hS.F ht⟩) hS.2.2 d_MoPaper_put_44
    · rw [if_neg h2] at hok
      have hq := Option.some.inj hok
      obtain ⟨hq0, hq⟩ := Prod.mk.inj hq
      obtain ⟨hq1, hq⟩ := Prod.mk.inj hq
      have hq2 := hq
      subst hq0
      subst hq1
      subst hq2
      obtain ⟨hP9, hD9⟩ := sub2 (ws' := [(a, .inr (13, [.ref a_out, .ref a_walk, .ref a_next, .ref a_seen, .int a_n, .int a_over_1, .int a_order])), (a_out, .inl (cs 1, a_out_n, .inl a_out_f))]) hP hD [0, 1] rfl (by decide) rfl
      rw [hQ]
      exact W.vret hx hb hr (fun t ht hW => ⟨⟨(), rfl, trivial, by rw [ht]; exact hP9, hD9⟩, hS.F ht⟩) hS.2.2 d_MoPaper_put_22
  refine lv_icmp_ne hx hb d_MoPaper_put_7 rfl (fun h4 => ?_) (fun h4 => ?_)
  · rw [if_neg h4] at hok
    exact J1 _ _ _ a_over (lv_sub hl [0, 1] rfl) (sub3 hP hD [0, 1] (by decide)) hS hok
  · rw [if_pos h4] at hok
    refine lv_aload_n hx hb d_MoPaper_put_10 rfl (lv_at hl 0 rfl) ?_
    refine lv_iconst (v := 1) hx hb d_MoPaper_put_11 (by decide) ?_
    refine va_put (D := g) (ci := 13) (v := .int 1) (ty := .boolean) (C := R_MoPaper) (T := F_MoPaper) (N := 7) hx hb hg ul_MoPaper t_MoPaper tk_MoPaper n_MoPaper hown hK hP hD hS 0 rfl rfl 5 (by decide) (hg _ wd_737) (fun _ h9 => h9) rfl (by decide +kernel) rfl rfl (Nat.le_of_ble_eq_true rfl) d_MoPaper_put_12 (fun H locs hP hD hS => ?_)
    obtain ⟨hP, hD⟩ : PD g A H [(a, .inr (13, [.ref a_out, .ref a_walk, .ref a_next, .ref a_seen, .int a_n, .int 1, .int a_order])), (a_out, .inl (cs 1, a_out_n, .inl a_out_f))] := ⟨hP, hD⟩
    exact J1 _ _ _ (1 : Int32) (lv_sub hl [0, 1] rfl) (sub3 hP hD [0, 1] (by decide)) hS hok

theorem d_MoPaper_number_0 : decode b_MoPaper_number 0 = .ok (.lload_n 1, 1) := by decide +kernel
theorem d_MoPaper_number_1 : decode b_MoPaper_number 1 = .ok (.lconst 0, 1) := by decide +kernel
theorem d_MoPaper_number_2 : decode b_MoPaper_number 2 = .ok (.lcmp, 1) := by decide +kernel
theorem d_MoPaper_number_3 : decode b_MoPaper_number 3 = .ok (.ifCond .ge 9, 3) := by decide +kernel
theorem d_MoPaper_number_6 : decode b_MoPaper_number 6 = .ok (.aload_n 0, 1) := by decide +kernel
theorem d_MoPaper_number_7 : decode b_MoPaper_number 7 = .ok (.bipush 45, 2) := by decide +kernel
theorem d_MoPaper_number_9 : decode b_MoPaper_number 9 = .ok (.invokevirtual 33, 3) := by decide +kernel
theorem d_MoPaper_number_12 : decode b_MoPaper_number 12 = .ok (.lload_n 1, 1) := by decide +kernel
theorem d_MoPaper_number_13 : decode b_MoPaper_number 13 = .ok (.lconst 0, 1) := by decide +kernel
theorem d_MoPaper_number_14 : decode b_MoPaper_number 14 = .ok (.lcmp, 1) := by decide +kernel
theorem d_MoPaper_number_15 : decode b_MoPaper_number 15 = .ok (.ifCond .ge 8, 3) := by decide +kernel
theorem d_MoPaper_number_18 : decode b_MoPaper_number 18 = .ok (.lload_n 1, 1) := by decide +kernel
theorem d_MoPaper_number_19 : decode b_MoPaper_number 19 = .ok (.lneg, 1) := by decide +kernel
theorem d_MoPaper_number_20 : decode b_MoPaper_number 20 = .ok (.goto 4, 3) := by decide +kernel
theorem d_MoPaper_number_23 : decode b_MoPaper_number 23 = .ok (.lload_n 1, 1) := by decide +kernel
theorem d_MoPaper_number_24 : decode b_MoPaper_number 24 = .ok (.lstore_n 3, 1) := by decide +kernel
theorem d_MoPaper_number_25 : decode b_MoPaper_number 25 = .ok (.lconst 1, 1) := by decide +kernel
theorem d_MoPaper_number_26 : decode b_MoPaper_number 26 = .ok (.lstore 5, 2) := by decide +kernel
theorem d_MoPaper_number_28 : decode b_MoPaper_number 28 = .ok (.lload_n 3, 1) := by decide +kernel
theorem d_MoPaper_number_29 : decode b_MoPaper_number 29 = .ok (.lload 5, 2) := by decide +kernel
theorem d_MoPaper_number_31 : decode b_MoPaper_number 31 = .ok (.ldiv, 1) := by decide +kernel
theorem d_MoPaper_number_32 : decode b_MoPaper_number 32 = .ok (.ldc2_w 37, 3) := by decide +kernel
theorem d_MoPaper_number_35 : decode b_MoPaper_number 35 = .ok (.lcmp, 1) := by decide +kernel
theorem d_MoPaper_number_36 : decode b_MoPaper_number 36 = .ok (.ifCond .le 14, 3) := by decide +kernel
theorem d_MoPaper_number_39 : decode b_MoPaper_number 39 = .ok (.lload 5, 2) := by decide +kernel
theorem d_MoPaper_number_41 : decode b_MoPaper_number 41 = .ok (.ldc2_w 39, 3) := by decide +kernel
theorem d_MoPaper_number_44 : decode b_MoPaper_number 44 = .ok (.lmul, 1) := by decide +kernel
theorem d_MoPaper_number_45 : decode b_MoPaper_number 45 = .ok (.lstore 5, 2) := by decide +kernel
theorem d_MoPaper_number_47 : decode b_MoPaper_number 47 = .ok (.goto (-19), 3) := by decide +kernel
theorem d_MoPaper_number_50 : decode b_MoPaper_number 50 = .ok (.lload 5, 2) := by decide +kernel
theorem d_MoPaper_number_52 : decode b_MoPaper_number 52 = .ok (.lconst 0, 1) := by decide +kernel
theorem d_MoPaper_number_53 : decode b_MoPaper_number 53 = .ok (.lcmp, 1) := by decide +kernel
theorem d_MoPaper_number_54 : decode b_MoPaper_number 54 = .ok (.ifCond .le 31, 3) := by decide +kernel
theorem d_MoPaper_number_57 : decode b_MoPaper_number 57 = .ok (.aload_n 0, 1) := by decide +kernel
theorem d_MoPaper_number_58 : decode b_MoPaper_number 58 = .ok (.ldc2_w 41, 3) := by decide +kernel
theorem d_MoPaper_number_61 : decode b_MoPaper_number 61 = .ok (.lload_n 3, 1) := by decide +kernel
theorem d_MoPaper_number_62 : decode b_MoPaper_number 62 = .ok (.lload 5, 2) := by decide +kernel
theorem d_MoPaper_number_64 : decode b_MoPaper_number 64 = .ok (.ldiv, 1) := by decide +kernel
theorem d_MoPaper_number_65 : decode b_MoPaper_number 65 = .ok (.ldc2_w 39, 3) := by decide +kernel
theorem d_MoPaper_number_68 : decode b_MoPaper_number 68 = .ok (.lrem, 1) := by decide +kernel
theorem d_MoPaper_number_69 : decode b_MoPaper_number 69 = .ok (.ladd, 1) := by decide +kernel
theorem d_MoPaper_number_70 : decode b_MoPaper_number 70 = .ok (.l2i, 1) := by decide +kernel
theorem d_MoPaper_number_71 : decode b_MoPaper_number 71 = .ok (.invokevirtual 33, 3) := by decide +kernel
theorem d_MoPaper_number_74 : decode b_MoPaper_number 74 = .ok (.lload 5, 2) := by decide +kernel
theorem d_MoPaper_number_76 : decode b_MoPaper_number 76 = .ok (.ldc2_w 39, 3) := by decide +kernel
theorem d_MoPaper_number_79 : decode b_MoPaper_number 79 = .ok (.ldiv, 1) := by decide +kernel
theorem d_MoPaper_number_80 : decode b_MoPaper_number 80 = .ok (.lstore 5, 2) := by decide +kernel
theorem d_MoPaper_number_82 : decode b_MoPaper_number 82 = .ok (.goto (-32), 3) := by decide +kernel
theorem d_MoPaper_number_85 : decode b_MoPaper_number 85 = .ok (.return_, 1) := by decide +kernel
def p_MoPaper_number_50 (n : Nat) (v : Int64) (a_order : Int32) (a_out_n : Nat) (kf6 : Nat) (x5_6 : Int64) (a_n_6 : Int32) (a_over_6 : Int32) (a_out_6f : Nat → Int32) : Option (Int32 × Int32 × (Nat → Int32)) := match kf6 with
  | 0 => none
  | kf6 + 1 => if (lg_cmp x5_6 0) ≤ 0 then (some (a_n_6, a_over_6, a_out_6f)) else (ck (decide (¬ x5_6 = 0)) ((p_MoPaper_put ((48 + ((v / x5_6) - (v / x5_6) / 10 * 10)).toInt32) a_n_6 a_over_6 a_order a_out_n a_out_6f).bind (fun (a_n_9, a_over_9, a_out_f_9) => p_MoPaper_number_50 n v a_order a_out_n kf6 (x5_6 / 10) a_n_9 a_over_9 a_out_f_9)))
def p_MoPaper_number_28 (n : Nat) (v : Int64) (a_order : Int32) (a_out_n : Nat) (a_n_1 : Int32) (a_over_1 : Int32) (a_out_1f : Nat → Int32) (kf3 : Nat) (x5_3 : Int64) : Option (Int32 × Int32 × (Nat → Int32)) := match kf3 with
  | 0 => none
  | kf3 + 1 => ck (decide (¬ x5_3 = 0)) (if (lg_cmp (v / x5_3) 9) ≤ 0 then (p_MoPaper_number_50 n v a_order a_out_n n x5_3 a_n_1 a_over_1 a_out_1f) else (p_MoPaper_number_28 n v a_order a_out_n a_n_1 a_over_1 a_out_1f kf3 (x5_3 * 10)))
def p_MoPaper_number_50_13 (n : Nat) (v : Int64) (a_order : Int32) (a_out_n : Nat) (kf13 : Nat) (x5_13 : Int64) (a_n_13 : Int32) (a_over_13 : Int32) (a_out_13f : Nat → Int32) : Option (Int32 × Int32 × (Nat → Int32)) := match kf13 with
  | 0 => none
  | kf13 + 1 => if (lg_cmp x5_13 0) ≤ 0 then (some (a_n_13, a_over_13, a_out_13f)) else (ck (decide (¬ x5_13 = 0)) ((p_MoPaper_put ((48 + (((-v) / x5_13) - ((-v) / x5_13) / 10 * 10)).toInt32) a_n_13 a_over_13 a_order a_out_n a_out_13f).bind (fun (a_n_16, a_over_16, a_out_f_16) => p_MoPaper_number_50_13 n v a_order a_out_n kf13 (x5_13 / 10) a_n_16 a_over_16 a_out_f_16)))
def p_MoPaper_number_28_10 (n : Nat) (v : Int64) (a_order : Int32) (a_out_n : Nat) (a_n_1 : Int32) (a_over_1 : Int32) (a_out_1f : Nat → Int32) (kf10 : Nat) (x5_10 : Int64) : Option (Int32 × Int32 × (Nat → Int32)) := match kf10 with
  | 0 => none
  | kf10 + 1 => ck (decide (¬ x5_10 = 0)) (if (lg_cmp ((-v) / x5_10) 9) ≤ 0 then (p_MoPaper_number_50_13 n v a_order a_out_n n x5_10 a_n_1 a_over_1 a_out_1f) else (p_MoPaper_number_28_10 n v a_order a_out_n a_n_1 a_over_1 a_out_1f kf10 (x5_10 * 10)))
def p_MoPaper_number_12 (n : Nat) (v : Int64) (a_order : Int32) (a_out_n : Nat) (a_n_1 : Int32) (a_over_1 : Int32) (a_out_1f : Nat → Int32) : Option (Int32 × Int32 × (Nat → Int32)) := if 0 ≤ (lg_cmp v 0) then (p_MoPaper_number_28 n v a_order a_out_n a_n_1 a_over_1 a_out_1f n (1 : Int64)) else (p_MoPaper_number_28_10 n v a_order a_out_n a_n_1 a_over_1 a_out_1f n (1 : Int64))
def p_MoPaper_number (n : Nat) (v : Int64) (a_n : Int32) (a_over : Int32) (a_order : Int32) (a_out_n : Nat) (a_out_f : Nat → Int32) : Option (Int32 × Int32 × (Nat → Int32)) := if 0 ≤ (lg_cmp v 0) then (p_MoPaper_number_12 n v a_order a_out_n a_n a_over a_out_f) else ((p_MoPaper_put (45 : Int32) a_n a_over a_order a_out_n a_out_f).bind (fun (a_n_18, a_over_18, a_out_f_18) => p_MoPaper_number_12 n v a_order a_out_n a_n_18 a_over_18 a_out_f_18))
set_option maxHeartbeats 40000000 in
set_option maxRecDepth 100000 in
theorem c_MoPaper_number (l : Launch) (g : va_G) (cs : Nat → ClassId) (ka : Nat → Nat) (a_walk : Nat) (a_next : Nat) (a_seen : Nat) (a a_out : Nat) (sz : Nat) (n : Nat) (v : Int64) (a_n : Int32) (a_over : Int32) (a_order : Int32) (a_out_n : Nat) (a_out_f : Nat → Int32) (o_a_n : Int32) (o_a_over : Int32) (o_a_out_f : Nat → Int32) (hok : p_MoPaper_number n v a_n a_over a_order a_out_n a_out_f = some (o_a_n, o_a_over, o_a_out_f)) : Met l y_MoPaper_number (.code y_MoPaper_number b_MoPaper_number 7 none :: GW) { frames := 1, cells := 0, slots := 0, locals := 21 } (va_Pc [.ref a, .long v] (gP g cs ka [(a, .inr (13, [.ref a_out, .ref a_walk, .ref a_next, .ref a_seen, .int a_n, .int a_over, .int a_order])), (a_out, .inl (cs 1, a_out_n, .inl a_out_f))] sz)) (va_Qv (fun _ : Unit => True) (fun _ t => va_P g classes [(a, .inr (13, [.ref a_out, .ref a_walk, .ref a_next, .ref a_seen, .int o_a_n, .int o_a_over, .int a_order])), (a_out, .inl (cs 1, a_out_n, .inl o_a_out_f))] t.heap ∧ va_D (va_A [(a, .inr (13, [.ref a_out, .ref a_walk, .ref a_next, .ref a_seen, .int a_n, .int a_over, .int a_order])), (a_out, .inl (cs 1, a_out_n, .inl a_out_f))] sz) [(a, .inr (13, [.ref a_out, .ref a_walk, .ref a_next, .ref a_seen, .int o_a_n, .int o_a_over, .int a_order])), (a_out, .inl (cs 1, a_out_n, .inl o_a_out_f))]) (va_A [(a, .inr (13, [.ref a_out, .ref a_walk, .ref a_next, .ref a_seen, .int a_n, .int a_over, .int a_order])), (a_out, .inl (cs 1, a_out_n, .inl a_out_f))] sz)) 0 0 (va_A [(a, .inr (13, [.ref a_out, .ref a_walk, .ref a_next, .ref a_seen, .int a_n, .int a_over, .int a_order])), (a_out, .inl (cs 1, a_out_n, .inl a_out_f))] sz) := by
  refine Met.ofW (cc := b_MoPaper_number) (maxL := 7) (ret := none) (by decide) rfl ?_
  intro p e s m args below meth c s₁ B hml hv
  obtain ⟨rfl, hsz, hP, hK, hD0, hgl, hkn, hkr⟩ := hv
  have hx := B.exec
  have hb := B.bytes
  have hr := B.returns
  have hg : ∀ w ∈ GW, w.before ([.ref a, .long v] : List Value).toArray s = true := fun w hw => atoms_spec (ws := .code y_MoPaper_number b_MoPaper_number 7 none :: GW) B.pre w (List.mem_cons_of_mem _ hw)
  have hown : s.vm.findClass R_MoPaper = some m.cls := findClass_of_methodNamed B.named
  have hlocks := B.notSynchronized
  subst hsz
  have hD := hD0.self (sz := s.heap.size)
  generalize hAe : va_A [(a, .inr (13, [.ref a_out, .ref a_walk, .ref a_next, .ref a_seen, .int a_n, .int a_over, .int a_order])), (a_out, .inl (cs 1, a_out_n, .inl a_out_f))] s.heap.size = A at hD hkn ⊢
  have hA : ∀ q : Nat, s.heap.size ≤ q → A q := fun q h => by rw [← hAe]; exact Or.inr h
  have hS : va_S A s.heap s.heap [] := va_S.rf
  have hP : va_P g classes [(a, .inr (13, [.ref a_out, .ref a_walk, .ref a_next, .ref a_seen, .int a_n, .int a_over, .int a_order])), (a_out, .inl (cs 1, a_out_n, .inl a_out_f))] s.heap := hP
  have hl := lv_entry ([.ref a, .long v]) (n := 7) (Nat.le_of_ble_eq_true rfl)
  rw [lg_entry_eq]
  generalize (lg_sl ([.ref a, .long v]) ++ List.replicate (7 - (lg_sl ([.ref a, .long v])).length) Slot.unset).toArray = ls at hl ⊢
  have hl : lv_has ls 7 [(0, .ref a), (1, .long v)] := hl
  refine gq (fun Q hQ => ?_)
  obtain ⟨H, hH⟩ : ∃ H : Heap, H = s.heap := ⟨_, rfl⟩
  rw [← hH] at hP
  have hS : va_S A s.heap H [] := by rw [hH]; exact hS
  refine W.eqH hH ?_
  obtain ⟨locs, hlc⟩ : ∃ L : List Loc, L = [] := ⟨_, rfl⟩
  rw [← hlc] at hS ⊢
  unfold p_MoPaper_number at hok
  refine lv_lload_n hx hb d_MoPaper_number_0 rfl (lv_at hl 1 rfl) ?_
  refine lv_lconst (v := 0) hx hb d_MoPaper_number_1 (by decide) ?_
  refine W.lcmp hx hb d_MoPaper_number_2 ?_
  have J1 : ∀ (H : Heap) (locs : List Loc) (ls : Array Slot) (a_n_1 : Int32) (a_over_1 : Int32) (a_out_1f : Nat → Int32), lv_has ls 7 [(0, .ref a), (1, .long v)] → PD g A H [(a, .inr (13, [.ref a_out, .ref a_walk, .ref a_next, .ref a_seen, .int a_n_1, .int a_over_1, .int a_order])), (a_out, .inl (cs 1, a_out_n, .inl a_out_1f))] → va_S A s.heap H locs → p_MoPaper_number_12 n v a_order a_out_n a_n_1 a_over_1 a_out_1f = some (o_a_n, o_a_over, o_a_out_f) → W p l e (headSpec (.code y_MoPaper_number b_MoPaper_number 7 none :: GW) { frames := 1, cells := 0, slots := 0, locals := 21 }).room s m ([.ref a, .long v] : List Value).toArray below meth c H locs 0 0 Q (F0 m 12 ls []) := by
    intro H locs ls a_n_1 a_over_1 a_out_1f hl ⟨hP, hD⟩ hS hok
    unfold p_MoPaper_number_12 at hok
    refine lv_lload_n hx hb d_MoPaper_number_12 rfl (lv_at hl 1 rfl) ?_
    refine lv_lconst (v := 0) hx hb d_MoPaper_number_13 (by decide) ?_
    refine W.lcmp hx hb d_MoPaper_number_14 ?_
    refine lv_if_ge hx hb d_MoPaper_number_15 rfl (fun h2 => ?_) (fun h2 => ?_)
    · rw [if_pos h2] at hok
      refine lv_lload_n hx hb d_MoPaper_number_23 rfl (lv_at hl 1 rfl) ?_
      refine lv_lstore_n hx hb d_MoPaper_number_24 rfl hl (by decide) rfl (fun ls hl => ?_)
      have hl : lv_has ls 7 [(3, .long v), (0, .ref a), (1, .long v)] := hl
      refine lv_lconst (v := 1) hx hb d_MoPaper_number_25 (by decide) ?_
      refine lv_lstore hx hb d_MoPaper_number_26 hl (by decide) rfl (fun ls hl => ?_)
      have hl : lv_has ls 7 [(5, .long 1), (3, .long v), (0, .ref a), (1, .long v)] := hl
      have J3 : ∀ (kf3 : Nat) (H : Heap) (locs : List Loc) (ls : Array Slot) (x5_3 : Int64), lv_has ls 7 [(5, .long x5_3), (3, .long v), (0, .ref a), (1, .long v)] → PD g A H [(a, .inr (13, [.ref a_out, .ref a_walk, .ref a_next, .ref a_seen, .int a_n_1, .int a_over_1, .int a_order])), (a_out, .inl (cs 1, a_out_n, .inl a_out_1f))] → va_S A s.heap H locs → p_MoPaper_number_28 n v a_order a_out_n a_n_1 a_over_1 a_out_1f kf3 x5_3 = some (o_a_n, o_a_over, o_a_out_f) → W p l e (headSpec (.code y_MoPaper_number b_MoPaper_number 7 none :: GW) { frames := 1, cells := 0, slots := 0, locals := 21 }).room s m ([.ref a, .long v] : List Value).toArray below meth c H locs 0 0 Q (F0 m 28 ls []) := by
        intro kf3
        induction kf3 with
        | zero => intro H locs ls x5_3 hl ⟨hP, hD⟩ hS hok; rw [p_MoPaper_number_28] at hok; cases hok
        | succ kf3 ih3 =>
          intro H locs ls x5_3 hl ⟨hP, hD⟩ hS hok
          rw [p_MoPaper_number_28] at hok
          refine lv_lload_n hx hb d_MoPaper_number_28 rfl (lv_at hl 1 rfl) ?_
          refine lv_lload hx hb d_MoPaper_number_29 (lv_at hl 0 rfl) ?_
          obtain ⟨hi4, hok⟩ := ck_some hok
          refine lv_ldiv hx hb d_MoPaper_number_31 (of_decide_eq_true hi4) ?_
          refine lv_ldc2 hx hb hown (hg _ wd_738) d_MoPaper_number_32 ?_
          refine W.lcmp hx hb d_MoPaper_number_35 ?_
          refine lv_if_le hx hb d_MoPaper_number_36 rfl (fun h5 => ?_) (fun h5 => ?_)
          · rw [if_pos h5] at hok
            have J6 : ∀ (kf6 : Nat) (H : Heap) (locs : List Loc) (ls : Array Slot) (x5_6 : Int64) (a_n_6 : Int32) (a_over_6 : Int32) (a_out_6f : Nat → Int32), lv_has ls 7 [(5, .long x5_6), (3, .long v), (0, .ref a), (1, .long v)] → PD g A H [(a, .inr (13, [.ref a_out, .ref a_walk, .ref a_next, .ref a_seen, .int a_n_6, .int a_over_6, .int a_order])), (a_out, .inl (cs 1, a_out_n, .inl a_out_6f))] → va_S A s.heap H locs → p_MoPaper_number_50 n v a_order a_out_n kf6 x5_6 a_n_6 a_over_6 a_out_6f = some (o_a_n, o_a_over, o_a_out_f) → W p l e (headSpec (.code y_MoPaper_number b_MoPaper_number 7 none :: GW) { frames := 1, cells := 0, slots := 0, locals := 21 }).room s m ([.ref a, .long v] : List Value).toArray below meth c H locs 0 0 Q (F0 m 50 ls []) := by
              intro kf6
              induction kf6 with
              | zero => intro H locs ls x5_6 a_n_6 a_over_6 a_out_6f hl ⟨hP, hD⟩ hS hok; rw [p_MoPaper_number_50] at hok; cases hok
              | succ kf6 ih6 =>
                intro H locs ls x5_6 a_n_6 a_over_6 a_out_6f hl ⟨hP, hD⟩ hS hok
                rw [p_MoPaper_number_50] at hok
                refine lv_lload hx hb d_MoPaper_number_50 (lv_at hl 0 rfl) ?_
                refine lv_lconst (v := 0) hx hb d_MoPaper_number_52 (by decide) ?_
                refine W.lcmp hx hb d_MoPaper_number_53 ?_
                refine lv_if_le hx hb d_MoPaper_number_54 rfl (fun h7 => ?_) (fun h7 => ?_)
                · rw [if_pos h7] at hok
                  have hq := Option.some.inj hok
                  obtain ⟨hq0, hq⟩ := Prod.mk.inj hq
                  obtain ⟨hq1, hq⟩ := Prod.mk.inj hq
                  have hq2 := hq
                  subst hq0
                  subst hq1
                  subst hq2
                  obtain ⟨hP9, hD9⟩ := sub2 (ws' := [(a, .inr (13, [.ref a_out, .ref a_walk, .ref a_next, .ref a_seen, .int a_n_6, .int a_over_6, .int a_order])), (a_out, .inl (cs 1, a_out_n, .inl a_out_6f))]) hP hD [0, 1] rfl (by decide) rfl
                  rw [hQ]
                  exact W.vret hx hb hr (fun t ht hW => ⟨⟨(), rfl, trivial, by rw [ht]; exact hP9, hD9⟩, hS.F ht⟩) hS.2.2 d_MoPaper_number_85
                · rw [if_neg h7] at hok
                  refine lv_aload_n hx hb d_MoPaper_number_57 rfl (lv_at hl 2 rfl) ?_
                  refine lv_ldc2 hx hb hown (hg _ wd_739) d_MoPaper_number_58 ?_
                  refine lv_lload_n hx hb d_MoPaper_number_61 rfl (lv_at hl 1 rfl) ?_
                  refine lv_lload hx hb d_MoPaper_number_62 (lv_at hl 0 rfl) ?_
                  obtain ⟨hi8, hok⟩ := ck_some hok
                  refine lv_ldiv hx hb d_MoPaper_number_64 (of_decide_eq_true hi8) ?_
                  refine lv_ldc2 hx hb hown (hg _ wd_740) d_MoPaper_number_65 ?_
                  refine lv_lrem hx hb d_MoPaper_number_68 (by decide) ?_
                  refine lv_ladd hx hb d_MoPaper_number_69 ?_
                  refine lv_l2i hx hb d_MoPaper_number_70 rfl ?_
                  obtain ⟨⟨a_n_9, a_over_9, a_out_f_9⟩, hc9, hok⟩ := bd_some hok
                  dsimp only at hok
                  obtain ⟨hPc, hDc, hFc⟩ := cut0 (wc := [(a, .inr (13, [.ref a_out, .ref a_walk, .ref a_next, .ref a_seen, .int a_n_6, .int a_over_6, .int a_order])), (a_out, .inl (cs 1, a_out_n, .inl a_out_6f))]) hP hD hS hA [0, 1] (by decide) rfl
                  refine va_callv (va_runV (As := [.int ((48 + ((v / x5_6) - (v / x5_6) / 10 * 10)).toInt32)]) (rest := []) ⟨hx, hb, hml, hown, hg⟩ (c_MoPaper_put l g cs ka a_walk a_next a_seen a a_out H.size ((48 + ((v / x5_6) - (v / x5_6) / 10 * 10)).toInt32) a_n_6 a_over_6 a_order a_out_n a_out_6f a_n_9 a_over_9 a_out_f_9 hc9) (cwV (C := R_MoPaper) 1 hg (gw_V wd_743 wd_744 wd_745 wd_742 wd_741) rfl rfl rfl (by decide +kernel) ⟨Nat.le_of_ble_eq_true rfl, Nat.le_of_ble_eq_true rfl⟩) ⟨gP_blind, va_recv (q0 := 0) (ci := 13) (q := (R_MoPaper, F_MoPaper, 7)) hK hP rfl rfl, gP_pre hPc hDc hK hgl hkn hkr hS hFc⟩ rfl rfl hl.1 rfl (lv_room (Nat.le_of_ble_eq_true rfl)) d_MoPaper_number_71 ⟨Nat.le_of_ble_eq_true rfl, Nat.le_of_ble_eq_true rfl⟩) hS (fun q _ h => hFc q h) hFc (fun u t H locs ht hvm hr9 hB hz1 hk1 hS => ?_)
                  rw [ht] at hB
                  obtain ⟨hP1, hD1⟩ := hB
                  obtain ⟨hP, hD⟩ := jn_A hP hD [0, 1] [] rfl rfl (by decide) (by decide) hk1 hFc hP1 hD1
                  obtain ⟨hP, hD⟩ : PD g A H [(a, .inr (13, [.ref a_out, .ref a_walk, .ref a_next, .ref a_seen, .int a_n_9, .int a_over_9, .int a_order])), (a_out, .inl (cs 1, a_out_n, .inl a_out_f_9))] := ⟨hP, hD⟩
                  refine lv_lload hx hb d_MoPaper_number_74 (lv_at hl 0 rfl) ?_
                  refine lv_ldc2 hx hb hown (hg _ wd_740) d_MoPaper_number_76 ?_
                  refine lv_ldiv hx hb d_MoPaper_number_79 (by decide) ?_
                  refine lv_lstore hx hb d_MoPaper_number_80 hl (by decide) rfl (fun ls hl => ?_)
                  have hl : lv_has ls 7 [(5, .long (x5_6 / 10)), (3, .long v), (0, .ref a), (1, .long v)] := hl
                  refine lv_goto hx hb d_MoPaper_number_82 rfl ?_
                  exact ih6 _ _ _ (x5_6 / 10) a_n_9 a_over_9 a_out_f_9 (lv_sub hl [0, 1, 2, 3] rfl) (sub3 hP hD [0, 1] (by decide)) hS hok
            exact J6 n H locs ls x5_3 a_n_1 a_over_1 a_out_1f hl ⟨hP, hD⟩ hS hok
          · rw [if_neg h5] at hok
            refine lv_lload hx hb d_MoPaper_number_39 (lv_at hl 0 rfl) ?_
            refine lv_ldc2 hx hb hown (hg _ wd_740) d_MoPaper_number_41 ?_
            refine lv_lmul hx hb d_MoPaper_number_44 ?_
            refine lv_lstore hx hb d_MoPaper_number_45 hl (by decide) rfl (fun ls hl => ?_)
            have hl : lv_has ls 7 [(5, .long (x5_3 * 10)), (3, .long v), (0, .ref a), (1, .long v)] := hl
            refine lv_goto hx hb d_MoPaper_number_47 rfl ?_
            exact ih3 _ _ _ (x5_3 * 10) (lv_sub hl [0, 1, 2, 3] rfl) (sub3 hP hD [0, 1] (by decide)) hS hok
      exact J3 n H locs ls (1 : Int64) hl ⟨hP, hD⟩ hS hok
    · rw [if_neg h2] at hok
      refine lv_lload_n hx hb d_MoPaper_number_18 rfl (lv_at hl 1 rfl) ?_
      refine lv_lneg hx hb d_MoPaper_number_19 ?_
      refine lv_goto hx hb d_MoPaper_number_20 rfl ?_
      refine lv_lstore_n hx hb d_MoPaper_number_24 rfl hl (by decide) rfl (fun ls hl => ?_)
      have hl : lv_has ls 7 [(3, .long (-v)), (0, .ref a), (1, .long v)] := hl
      refine lv_lconst (v := 1) hx hb d_MoPaper_number_25 (by decide) ?_
      refine lv_lstore hx hb d_MoPaper_number_26 hl (by decide) rfl (fun ls hl => ?_)
      have hl : lv_has ls 7 [(5, .long 1), (3, .long (-v)), (0, .ref a), (1, .long v)] := hl
      have J10 : ∀ (kf10 : Nat) (H : Heap) (locs : List Loc) (ls : Array Slot) (x5_10 : Int64), lv_has ls 7 [(5, .long x5_10), (3, .long (-v)), (0, .ref a), (1, .long v)] → PD g A H [(a, .inr (13, [.ref a_out, .ref a_walk, .ref a_next, .ref a_seen, .int a_n_1, .int a_over_1, .int a_order])), (a_out, .inl (cs 1, a_out_n, .inl a_out_1f))] → va_S A s.heap H locs → p_MoPaper_number_28_10 n v a_order a_out_n a_n_1 a_over_1 a_out_1f kf10 x5_10 = some (o_a_n, o_a_over, o_a_out_f) → W p l e (headSpec (.code y_MoPaper_number b_MoPaper_number 7 none :: GW) { frames := 1, cells := 0, slots := 0, locals := 21 }).room s m ([.ref a, .long v] : List Value).toArray below meth c H locs 0 0 Q (F0 m 28 ls []) := by
        intro kf10
        induction kf10 with
        | zero => intro H locs ls x5_10 hl ⟨hP, hD⟩ hS hok; rw [p_MoPaper_number_28_10] at hok; cases hok
        | succ kf10 ih10 =>
          intro H locs ls x5_10 hl ⟨hP, hD⟩ hS hok
          rw [p_MoPaper_number_28_10] at hok
          refine lv_lload_n hx hb d_MoPaper_number_28 rfl (lv_at hl 1 rfl) ?_
          refine lv_lload hx hb d_MoPaper_number_29 (lv_at hl 0 rfl) ?_
          obtain ⟨hi11, hok⟩ := ck_some hok
          refine lv_ldiv hx hb d_MoPaper_number_31 (of_decide_eq_true hi11) ?_
          refine lv_ldc2 hx hb hown (hg _ wd_738) d_MoPaper_number_32 ?_
          refine W.lcmp hx hb d_MoPaper_number_35 ?_
          refine lv_if_le hx hb d_MoPaper_number_36 rfl (fun h12 => ?_) (fun h12 => ?_)
          · rw [if_pos h12] at hok
            have J13 : ∀ (kf13 : Nat) (H : Heap) (locs : List Loc) (ls : Array Slot) (x5_13 : Int64) (a_n_13 : Int32) (a_over_13 : Int32) (a_out_13f : Nat → Int32), lv_has ls 7 [(5, .long x5_13), (3, .long (-v)), (0, .ref a), (1, .long v)] → PD g A H [(a, .inr (13, [.ref a_out, .ref a_walk, .ref a_next, .ref a_seen, .int a_n_13, .int a_over_13, .int a_order])), (a_out, .inl (cs 1, a_out_n, .inl a_out_13f))] → va_S A s.heap H locs → p_MoPaper_number_50_13 n v a_order a_out_n kf13 x5_13 a_n_13 a_over_13 a_out_13f = some (o_a_n, o_a_over, o_a_out_f) → W p l e (headSpec (.code y_MoPaper_number b_MoPaper_number 7 none :: GW) { frames := 1, cells := 0, slots := 0, locals := 21 }).room s m ([.ref a, .long v] : List Value).toArray below meth c H locs 0 0 Q (F0 m 50 ls []) := by
              intro kf13
              induction kf13 with
              | zero => intro H locs ls x5_13 a_n_13 a_over_13 a_out_13f hl ⟨hP, hD⟩ hS hok; rw [p_MoPaper_number_50_13] at hok; cases hok
              | succ kf13 ih13 =>
                intro H locs ls x5_13 a_n_13 a_over_13 a_out_13f hl ⟨hP, hD⟩ hS hok
                rw [p_MoPaper_number_50_13] at hok
                refine lv_lload hx hb d_MoPaper_number_50 (lv_at hl 0 rfl) ?_
                refine lv_lconst (v := 0) hx hb d_MoPaper_number_52 (by decide) ?_
                refine W.lcmp hx hb d_MoPaper_number_53 ?_
                refine lv_if_le hx hb d_MoPaper_number_54 rfl (fun h14 => ?_) (fun h14 => ?_)
                · rw [if_pos h14] at hok
                  have hq := Option.some.inj hok
                  obtain ⟨hq0, hq⟩ := Prod.mk.inj hq
                  obtain ⟨hq1, hq⟩ := Prod.mk.inj hq
                  have hq2 := hq
                  subst hq0
                  subst hq1
                  subst hq2
                  obtain ⟨hP9, hD9⟩ := sub2 (ws' := [(a, .inr (13, [.ref a_out, .ref a_walk, .ref a_next, .ref a_seen, .int a_n_13, .int a_over_13, .int a_order])), (a_out, .inl (cs 1, a_out_n, .inl a_out_13f))]) hP hD [0, 1] rfl (by decide) rfl
                  rw [hQ]
                  exact W.vret hx hb hr (fun t ht hW => ⟨⟨(), rfl, trivial, by rw [ht]; exact hP9, hD9⟩, hS.F ht⟩) hS.2.2 d_MoPaper_number_85
                · rw [if_neg h14] at hok
                  refine lv_aload_n hx hb d_MoPaper_number_57 rfl (lv_at hl 2 rfl) ?_
                  refine lv_ldc2 hx hb hown (hg _ wd_739) d_MoPaper_number_58 ?_
                  refine lv_lload_n hx hb d_MoPaper_number_61 rfl (lv_at hl 1 rfl) ?_
                  refine lv_lload hx hb d_MoPaper_number_62 (lv_at hl 0 rfl) ?_
                  obtain ⟨hi15, hok⟩ := ck_some hok
                  refine lv_ldiv hx hb d_MoPaper_number_64 (of_decide_eq_true hi15) ?_
                  refine lv_ldc2 hx hb hown (hg _ wd_740) d_MoPaper_number_65 ?_
                  refine lv_lrem hx hb d_MoPaper_number_68 (by decide) ?_
                  refine lv_ladd hx hb d_MoPaper_number_69 ?_
                  refine lv_l2i hx hb d_MoPaper_number_70 rfl ?_
                  obtain ⟨⟨a_n_16, a_over_16, a_out_f_16⟩, hc16, hok⟩ := bd_some hok
                  dsimp only at hok
                  obtain ⟨hPc, hDc, hFc⟩ := cut0 (wc := [(a, .inr (13, [.ref a_out, .ref a_walk, .ref a_next, .ref a_seen, .int a_n_13, .int a_over_13, .int a_order])), (a_out, .inl (cs 1, a_out_n, .inl a_out_13f))]) hP hD hS hA [0, 1] (by decide) rfl
                  refine va_callv (va_runV (As := [.int ((48 + (((-v) / x5_13) - ((-v) / x5_13) / 10 * 10)).toInt32)]) (rest := []) ⟨hx, hb, hml, hown, hg⟩ (c_MoPaper_put l g cs ka a_walk a_next a_seen a a_out H.size ((48 + (((-v) / x5_13) - ((-v) / x5_13) / 10 * 10)).toInt32) a_n_13 a_over_13 a_order a_out_n a_out_13f a_n_16 a_over_16 a_out_f_16 hc16) (cwV (C := R_MoPaper) 1 hg (gw_V wd_743 wd_744 wd_745 wd_742 wd_741) rfl rfl rfl (by decide +kernel) ⟨Nat.le_of_ble_eq_true rfl, Nat.le_of_ble_eq_true rfl⟩) ⟨gP_blind, va_recv (q0 := 0) (ci := 13) (q := (R_MoPaper, F_MoPaper, 7)) hK hP rfl rfl, gP_pre hPc hDc hK hgl hkn hkr hS hFc⟩ rfl rfl hl.1 rfl (lv_room (Nat.le_of_ble_eq_true rfl)) d_MoPaper_number_71 ⟨Nat.le_of_ble_eq_true rfl, Nat.le_of_ble_eq_true rfl⟩) hS (fun q _ h => hFc q h) hFc (fun u t H locs ht hvm hr16 hB hz1 hk1 hS => ?_)
                  rw [ht] at hB
                  obtain ⟨hP1, hD1⟩ := hB
                  obtain ⟨hP, hD⟩ := jn_A hP hD [0, 1] [] rfl rfl (by decide) (by decide) hk1 hFc hP1 hD1
                  obtain ⟨hP, hD⟩ : PD g A H [(a, .inr (13, [.ref a_out, .ref a_walk, .ref a_next, .ref a_seen, .int a_n_16, .int a_over_16, .int a_order])), (a_out, .inl (cs 1, a_out_n, .inl a_out_f_16))] := ⟨hP, hD⟩
                  refine lv_lload hx hb d_MoPaper_number_74 (lv_at hl 0 rfl) ?_
                  refine lv_ldc2 hx hb hown (hg _ wd_740) d_MoPaper_number_76 ?_
                  refine lv_ldiv hx hb d_MoPaper_number_79 (by decide) ?_
                  refine lv_lstore hx hb d_MoPaper_number_80 hl (by decide) rfl (fun ls hl => ?_)
                  have hl : lv_has ls 7 [(5, .long (x5_13 / 10)), (3, .long (-v)), (0, .ref a), (1, .long v)] := hl
                  refine lv_goto hx hb d_MoPaper_number_82 rfl ?_
                  exact ih13 _ _ _ (x5_13 / 10) a_n_16 a_over_16 a_out_f_16 (lv_sub hl [0, 1, 2, 3] rfl) (sub3 hP hD [0, 1] (by decide)) hS hok
            exact J13 n H locs ls x5_10 a_n_1 a_over_1 a_out_1f hl ⟨hP, hD⟩ hS hok
          · rw [if_neg h12] at hok
            refine lv_lload hx hb d_MoPaper_number_39 (lv_at hl 0 rfl) ?_
            refine lv_ldc2 hx hb hown (hg _ wd_740) d_MoPaper_number_41 ?_
            refine lv_lmul hx hb d_MoPaper_number_44 ?_
            refine lv_lstore hx hb d_MoPaper_number_45 hl (by decide) rfl (fun ls hl => ?_)
            have hl : lv_has ls 7 [(5, .long (x5_10 * 10)), (3, .long (-v)), (0, .ref a), (1, .long v)] := hl
            refine lv_goto hx hb d_MoPaper_number_47 rfl ?_
            exact ih10 _ _ _ (x5_10 * 10) (lv_sub hl [0, 1, 2, 3] rfl) (sub3 hP hD [0, 1] (by decide)) hS hok
      exact J10 n H locs ls (1 : Int64) hl ⟨hP, hD⟩ hS hok
  refine lv_if_ge hx hb d_MoPaper_number_3 rfl (fun h17 => ?_) (fun h17 => ?_)
  · rw [if_pos h17] at hok
    exact J1 _ _ _ a_n a_over a_out_f (lv_sub hl [0, 1] rfl) (sub3 hP hD [0, 1] (by decide)) hS hok
  · rw [if_neg h17] at hok
    refine lv_aload_n hx hb d_MoPaper_number_6 rfl (lv_at hl 0 rfl) ?_
    refine lv_bipush (v := 45) hx hb d_MoPaper_number_7 (by decide) ?_
    obtain ⟨⟨a_n_18, a_over_18, a_out_f_18⟩, hc18, hok⟩ := bd_some hok
    dsimp only at hok
    obtain ⟨hPc, hDc, hFc⟩ := cut0 (wc := [(a, .inr (13, [.ref a_out, .ref a_walk, .ref a_next, .ref a_seen, .int a_n, .int a_over, .int a_order])), (a_out, .inl (cs 1, a_out_n, .inl a_out_f))]) hP hD hS hA [0, 1] (by decide) rfl
    refine va_callv (va_runV (As := [.int 45]) (rest := []) ⟨hx, hb, hml, hown, hg⟩ (c_MoPaper_put l g cs ka a_walk a_next a_seen a a_out H.size (45 : Int32) a_n a_over a_order a_out_n a_out_f a_n_18 a_over_18 a_out_f_18 hc18) (cwV (C := R_MoPaper) 1 hg (gw_V wd_743 wd_744 wd_745 wd_742 wd_741) rfl rfl rfl (by decide +kernel) ⟨Nat.le_of_ble_eq_true rfl, Nat.le_of_ble_eq_true rfl⟩) ⟨gP_blind, va_recv (q0 := 0) (ci := 13) (q := (R_MoPaper, F_MoPaper, 7)) hK hP rfl rfl, gP_pre hPc hDc hK hgl hkn hkr hS hFc⟩ rfl rfl hl.1 rfl (lv_room (Nat.le_of_ble_eq_true rfl)) d_MoPaper_number_9 ⟨Nat.le_of_ble_eq_true rfl, Nat.le_of_ble_eq_true rfl⟩) hS (fun q _ h => hFc q h) hFc (fun u t H locs ht hvm hr18 hB hz1 hk1 hS => ?_)
    rw [ht] at hB
    obtain ⟨hP1, hD1⟩ := hB
    obtain ⟨hP, hD⟩ := jn_A hP hD [0, 1] [] rfl rfl (by decide) (by decide) hk1 hFc hP1 hD1
    obtain ⟨hP, hD⟩ : PD g A H [(a, .inr (13, [.ref a_out, .ref a_walk, .ref a_next, .ref a_seen, .int a_n_18, .int a_over_18, .int a_order])), (a_out, .inl (cs 1, a_out_n, .inl a_out_f_18))] := ⟨hP, hD⟩
    exact J1 _ _ _ a_n_18 a_over_18 a_out_f_18 (lv_sub hl [0, 1] rfl) (sub3 hP hD [0, 1] (by decide)) hS hok

theorem d_MoReader_symbol_0 : decode b_MoReader_symbol 0 = .ok (.iload_n 0, 1) := by decide +kernel
theorem d_MoReader_symbol_1 : decode b_MoReader_symbol 1 = .ok (.ifCond .le 16, 3) := by decide +kernel
theorem d_MoReader_symbol_4 : decode b_MoReader_symbol 4 = .ok (.ldc 130, 2) := by decide +kernel
theorem d_MoReader_symbol_6 : decode b_MoReader_symbol 6 = .ok (.iload_n 0, 1) := by decide +kernel
theorem d_MoReader_symbol_7 : decode b_MoReader_symbol 7 = .ok (.invokevirtual 132, 3) := by decide +kernel
theorem d_MoReader_symbol_10 : decode b_MoReader_symbol 10 = .ok (.ifCond .lt 7, 3) := by decide +kernel
theorem d_MoReader_symbol_13 : decode b_MoReader_symbol 13 = .ok (.iconst 1, 1) := by decide +kernel
theorem d_MoReader_symbol_14 : decode b_MoReader_symbol 14 = .ok (.goto 4, 3) := by decide +kernel
theorem d_MoReader_symbol_17 : decode b_MoReader_symbol 17 = .ok (.iconst 0, 1) := by decide +kernel
theorem d_MoReader_symbol_18 : decode b_MoReader_symbol 18 = .ok (.ireturn, 1) := by decide +kernel
def p_MoReader_symbol (n : Nat) (c0 : Int32) : Option Int32 := if c0 ≤ 0 then (some (0 : Int32)) else ((p_String_indexOf_I n 0 c0).bind (fun r2 => if r2 < 0 then (some (0 : Int32)) else (some (1 : Int32))))
set_option maxHeartbeats 40000000 in
set_option maxRecDepth 100000 in
theorem c_MoReader_symbol (l : Launch) (g : va_G) (cs : Nat → ClassId) (ka : Nat → Nat) (sz : Nat) (n : Nat) (c0 : Int32) (r : Int32) (hok : p_MoReader_symbol n c0 = some r) : Met l y_MoReader_symbol (.code y_MoReader_symbol b_MoReader_symbol 1 (some .boolean) :: GW) { frames := 4, cells := 0, slots := 0, locals := 91 } (va_Pc [.int c0] (gP g cs ka [] sz)) (va_Qi (fun (r' : Int32) (_ : Unit) => r = r') (fun _ t => va_P g classes [] t.heap ∧ va_D (va_A [] sz) []) (va_A [] sz)) 0 0 (va_A [] sz) := by
  refine Met.ofW (cc := b_MoReader_symbol) (maxL := 1) (ret := (some .boolean)) (by decide) rfl ?_
  intro p e s m args below meth c s₁ B hml hv
  obtain ⟨rfl, hsz, hP, hK, hD0, hgl, hkn, hkr⟩ := hv
  have hx := B.exec
  have hb := B.bytes
  have hr := B.returns
  have hg : ∀ w ∈ GW, w.before ([.int c0] : List Value).toArray s = true := fun w hw => atoms_spec (ws := .code y_MoReader_symbol b_MoReader_symbol 1 (some .boolean) :: GW) B.pre w (List.mem_cons_of_mem _ hw)
  have hown : s.vm.findClass R_MoReader = some m.cls := findClass_of_methodNamed B.named
  have hlocks := B.notSynchronized
  subst hsz
  have hD := hD0.self (sz := s.heap.size)
  generalize hAe : va_A [] s.heap.size = A at hD hkn ⊢
  have hA : ∀ q : Nat, s.heap.size ≤ q → A q := fun q h => by rw [← hAe]; exact Or.inr h
  have hS : va_S A s.heap s.heap [] := va_S.rf
  have hP : va_P g classes [] s.heap := hP
  have hl := lv_entry ([.int c0]) (n := 1) (Nat.le_of_ble_eq_true rfl)
  rw [lg_entry_eq]
  generalize (lg_sl ([.int c0]) ++ List.replicate (1 - (lg_sl ([.int c0])).length) Slot.unset).toArray = ls at hl ⊢
  have hl : lv_has ls 1 [(0, .int c0)] := hl
  refine gq (fun Q hQ => ?_)
  obtain ⟨H, hH⟩ : ∃ H : Heap, H = s.heap := ⟨_, rfl⟩
  rw [← hH] at hP
  have hS : va_S A s.heap H [] := by rw [hH]; exact hS
  refine W.eqH hH ?_
  obtain ⟨locs, hlc⟩ : ∃ L : List Loc, L = [] := ⟨_, rfl⟩
  rw [← hlc] at hS ⊢
  unfold p_MoReader_symbol at hok
  refine lv_iload_n hx hb d_MoReader_symbol_0 rfl (lv_at hl 0 rfl) ?_
  refine lv_if_le hx hb d_MoReader_symbol_1 rfl (fun h1 => ?_) (fun h1 => ?_)
  · rw [if_pos h1] at hok
    refine lv_iconst (v := 0) hx hb d_MoReader_symbol_17 (by decide) ?_
    have hq := Option.some.inj hok
    have hq0 := hq
    subst hq0
    obtain ⟨hP9, hD9⟩ := sub2 (ws' := []) hP hD [] rfl (by decide) rfl
    rw [hQ]
    exact W.zret (v := 0) hx hb hr rfl (fun t ht hW => ⟨⟨_, (), rfl, rfl, by rw [ht]; exact hP9, hD9⟩, hS.F ht⟩) hS.2.2 d_MoReader_symbol_18
  · rw [if_neg h1] at hok
    refine va_ldcS hx hb hown (hkr.1 ("UnifyBenchModel$Reader", 130, "+-*/\\^<>=~:.?@#&$", 0) (by decide +kernel)) d_MoReader_symbol_4 ?_
    refine lv_iload_n hx hb d_MoReader_symbol_6 rfl (lv_at hl 0 rfl) ?_
    obtain ⟨r2, hc2, hok⟩ := bd_some hok
    obtain ⟨hPc, hDc, hFc⟩ := cut0 (wc := []) hP hD hS hA [] (by decide) rfl
    refine va_calli (va_runV (As := [.int c0]) (rest := []) ⟨hx, hb, hml, hown, hg⟩ (c_String_indexOf_I l g cs ka H.size n 0 c0 r2 hc2) (cwV (C := "java/lang/String") 1 hg (gw_V wd_746 wd_207 wd_208 wd_164 wd_205) rfl rfl rfl (by decide +kernel) ⟨Nat.le_of_ble_eq_true rfl, Nat.le_of_ble_eq_true rfl⟩) ⟨gP_blind, kn_recv hkn (by decide) hS, gP_pre hPc hDc hK hgl hkn hkr hS hFc⟩ rfl rfl hl.1 rfl (lv_room (Nat.le_of_ble_eq_true rfl)) d_MoReader_symbol_7 ⟨Nat.le_of_ble_eq_true rfl, Nat.le_of_ble_eq_true rfl⟩) hS (fun q _ h => hFc q h) hFc (fun r2' u t H locs ht hvm hr2 hB hz1 hk1 hS => ?_)
    subst hr2
    rw [ht] at hB
    obtain ⟨hP1, hD1⟩ := hB
    obtain ⟨hP, hD⟩ := jn_A hP hD [] [] rfl rfl (by decide) (by decide) hk1 hFc hP1 hD1
    obtain ⟨hP, hD⟩ : PD g A H [] := ⟨hP, hD⟩
    refine lv_if_lt hx hb d_MoReader_symbol_10 rfl (fun h3 => ?_) (fun h3 => ?_)
    · rw [if_pos h3] at hok
      refine lv_iconst (v := 0) hx hb d_MoReader_symbol_17 (by decide) ?_
      have hq := Option.some.inj hok
      have hq0 := hq
      subst hq0
      obtain ⟨hP9, hD9⟩ := sub2 (ws' := []) hP hD [] rfl (by decide) rfl
      rw [hQ]
      exact W.zret (v := 0) hx hb hr rfl (fun t ht hW => ⟨⟨_, (), rfl, rfl, by rw [ht]; exact hP9, hD9⟩, hS.F ht⟩) hS.2.2 d_MoReader_symbol_18
    · rw [if_neg h3] at hok
      refine lv_iconst (v := 1) hx hb d_MoReader_symbol_13 (by decide) ?_
      refine lv_goto hx hb d_MoReader_symbol_14 rfl ?_
      have hq := Option.some.inj hok
      have hq0 := hq
      subst hq0
      obtain ⟨hP9, hD9⟩ := sub2 (ws' := []) hP hD [] rfl (by decide) rfl
      rw [hQ]
      exact W.zret (v := 1) hx hb hr rfl (fun t ht hW => ⟨⟨_, (), rfl, rfl, by rw [ht]; exact hP9, hD9⟩, hS.F ht⟩) hS.2.2 d_MoReader_symbol_18

theorem d_MoPaper_plain_0 : decode b_MoPaper_plain 0 = .ok (.aload_n 0, 1) := by decide +kernel
theorem d_MoPaper_plain_1 : decode b_MoPaper_plain 1 = .ok (.iload_n 1, 1) := by decide +kernel
theorem d_MoPaper_plain_2 : decode b_MoPaper_plain 2 = .ok (.invokevirtual 43, 3) := by decide +kernel
theorem d_MoPaper_plain_5 : decode b_MoPaper_plain 5 = .ok (.istore_n 2, 1) := by decide +kernel
theorem d_MoPaper_plain_6 : decode b_MoPaper_plain 6 = .ok (.iload_n 2, 1) := by decide +kernel
theorem d_MoPaper_plain_7 : decode b_MoPaper_plain 7 = .ok (.ifCond .ne 5, 3) := by decide +kernel
theorem d_MoPaper_plain_10 : decode b_MoPaper_plain 10 = .ok (.iconst 0, 1) := by decide +kernel
theorem d_MoPaper_plain_11 : decode b_MoPaper_plain 11 = .ok (.ireturn, 1) := by decide +kernel
theorem d_MoPaper_plain_12 : decode b_MoPaper_plain 12 = .ok (.aload_n 0, 1) := by decide +kernel
theorem d_MoPaper_plain_13 : decode b_MoPaper_plain 13 = .ok (.iload_n 1, 1) := by decide +kernel
theorem d_MoPaper_plain_14 : decode b_MoPaper_plain 14 = .ok (.iconst 0, 1) := by decide +kernel
theorem d_MoPaper_plain_15 : decode b_MoPaper_plain 15 = .ok (.invokevirtual 49, 3) := by decide +kernel
theorem d_MoPaper_plain_18 : decode b_MoPaper_plain 18 = .ok (.istore_n 3, 1) := by decide +kernel
theorem d_MoPaper_plain_19 : decode b_MoPaper_plain 19 = .ok (.iload_n 2, 1) := by decide +kernel
theorem d_MoPaper_plain_20 : decode b_MoPaper_plain 20 = .ok (.iconst 1, 1) := by decide +kernel
theorem d_MoPaper_plain_21 : decode b_MoPaper_plain 21 = .ok (.if_icmp .ne 17, 3) := by decide +kernel
theorem d_MoPaper_plain_24 : decode b_MoPaper_plain 24 = .ok (.iload_n 3, 1) := by decide +kernel
theorem d_MoPaper_plain_25 : decode b_MoPaper_plain 25 = .ok (.bipush 33, 2) := by decide +kernel
theorem d_MoPaper_plain_27 : decode b_MoPaper_plain 27 = .ok (.if_icmp .eq 9, 3) := by decide +kernel
theorem d_MoPaper_plain_30 : decode b_MoPaper_plain 30 = .ok (.iload_n 3, 1) := by decide +kernel
theorem d_MoPaper_plain_31 : decode b_MoPaper_plain 31 = .ok (.bipush 59, 2) := by decide +kernel
theorem d_MoPaper_plain_33 : decode b_MoPaper_plain 33 = .ok (.if_icmp .ne 5, 3) := by decide +kernel
theorem d_MoPaper_plain_36 : decode b_MoPaper_plain 36 = .ok (.iconst 1, 1) := by decide +kernel
theorem d_MoPaper_plain_37 : decode b_MoPaper_plain 37 = .ok (.ireturn, 1) := by decide +kernel
theorem d_MoPaper_plain_38 : decode b_MoPaper_plain 38 = .ok (.aload_n 0, 1) := by decide +kernel
theorem d_MoPaper_plain_39 : decode b_MoPaper_plain 39 = .ok (.iload_n 1, 1) := by decide +kernel
theorem d_MoPaper_plain_40 : decode b_MoPaper_plain 40 = .ok (.ldc 53, 2) := by decide +kernel
theorem d_MoPaper_plain_42 : decode b_MoPaper_plain 42 = .ok (.invokevirtual 55, 3) := by decide +kernel
theorem d_MoPaper_plain_45 : decode b_MoPaper_plain 45 = .ok (.ifCond .eq 5, 3) := by decide +kernel
theorem d_MoPaper_plain_48 : decode b_MoPaper_plain 48 = .ok (.iconst 1, 1) := by decide +kernel
theorem d_MoPaper_plain_49 : decode b_MoPaper_plain 49 = .ok (.ireturn, 1) := by decide +kernel
theorem d_MoPaper_plain_50 : decode b_MoPaper_plain 50 = .ok (.aload_n 0, 1) := by decide +kernel
theorem d_MoPaper_plain_51 : decode b_MoPaper_plain 51 = .ok (.iload_n 1, 1) := by decide +kernel
theorem d_MoPaper_plain_52 : decode b_MoPaper_plain 52 = .ok (.ldc 59, 2) := by decide +kernel
theorem d_MoPaper_plain_54 : decode b_MoPaper_plain 54 = .ok (.invokevirtual 55, 3) := by decide +kernel
theorem d_MoPaper_plain_57 : decode b_MoPaper_plain 57 = .ok (.ifCond .eq 5, 3) := by decide +kernel
theorem d_MoPaper_plain_60 : decode b_MoPaper_plain 60 = .ok (.iconst 0, 1) := by decide +kernel
theorem d_MoPaper_plain_61 : decode b_MoPaper_plain 61 = .ok (.ireturn, 1) := by decide +kernel
theorem d_MoPaper_plain_62 : decode b_MoPaper_plain 62 = .ok (.iload_n 3, 1) := by decide +kernel
theorem d_MoPaper_plain_63 : decode b_MoPaper_plain 63 = .ok (.bipush 97, 2) := by decide +kernel
theorem d_MoPaper_plain_65 : decode b_MoPaper_plain 65 = .ok (.if_icmp .lt 13, 3) := by decide +kernel
theorem d_MoPaper_plain_68 : decode b_MoPaper_plain 68 = .ok (.iload_n 3, 1) := by decide +kernel
theorem d_MoPaper_plain_69 : decode b_MoPaper_plain 69 = .ok (.bipush 122, 2) := by decide +kernel
theorem d_MoPaper_plain_71 : decode b_MoPaper_plain 71 = .ok (.if_icmp .gt 7, 3) := by decide +kernel
theorem d_MoPaper_plain_74 : decode b_MoPaper_plain 74 = .ok (.iconst 1, 1) := by decide +kernel
theorem d_MoPaper_plain_75 : decode b_MoPaper_plain 75 = .ok (.goto 4, 3) := by decide +kernel
theorem d_MoPaper_plain_78 : decode b_MoPaper_plain 78 = .ok (.iconst 0, 1) := by decide +kernel
theorem d_MoPaper_plain_79 : decode b_MoPaper_plain 79 = .ok (.istore 4, 2) := by decide +kernel
theorem d_MoPaper_plain_81 : decode b_MoPaper_plain 81 = .ok (.iconst 0, 1) := by decide +kernel
theorem d_MoPaper_plain_82 : decode b_MoPaper_plain 82 = .ok (.istore 5, 2) := by decide +kernel
theorem d_MoPaper_plain_84 : decode b_MoPaper_plain 84 = .ok (.iload 5, 2) := by decide +kernel
theorem d_MoPaper_plain_86 : decode b_MoPaper_plain 86 = .ok (.iload_n 2, 1) := by decide +kernel
theorem d_MoPaper_plain_87 : decode b_MoPaper_plain 87 = .ok (.if_icmp .ge 97, 3) := by decide +kernel
theorem d_MoPaper_plain_90 : decode b_MoPaper_plain 90 = .ok (.aload_n 0, 1) := by decide +kernel
theorem d_MoPaper_plain_91 : decode b_MoPaper_plain 91 = .ok (.iload_n 1, 1) := by decide +kernel
theorem d_MoPaper_plain_92 : decode b_MoPaper_plain 92 = .ok (.iload 5, 2) := by decide +kernel
theorem d_MoPaper_plain_94 : decode b_MoPaper_plain 94 = .ok (.invokevirtual 49, 3) := by decide +kernel
theorem d_MoPaper_plain_97 : decode b_MoPaper_plain 97 = .ok (.istore 6, 2) := by decide +kernel
theorem d_MoPaper_plain_99 : decode b_MoPaper_plain 99 = .ok (.iload 6, 2) := by decide +kernel
theorem d_MoPaper_plain_101 : decode b_MoPaper_plain 101 = .ok (.bipush 97, 2) := by decide +kernel
theorem d_MoPaper_plain_103 : decode b_MoPaper_plain 103 = .ok (.if_icmp .lt 10, 3) := by decide +kernel
theorem d_MoPaper_plain_106 : decode b_MoPaper_plain 106 = .ok (.iload 6, 2) := by decide +kernel
theorem d_MoPaper_plain_108 : decode b_MoPaper_plain 108 = .ok (.bipush 122, 2) := by decide +kernel
theorem d_MoPaper_plain_110 : decode b_MoPaper_plain 110 = .ok (.if_icmp .le 38, 3) := by decide +kernel
theorem d_MoPaper_plain_113 : decode b_MoPaper_plain 113 = .ok (.iload 6, 2) := by decide +kernel
theorem d_MoPaper_plain_115 : decode b_MoPaper_plain 115 = .ok (.bipush 65, 2) := by decide +kernel
theorem d_MoPaper_plain_117 : decode b_MoPaper_plain 117 = .ok (.if_icmp .lt 10, 3) := by decide +kernel
theorem d_MoPaper_plain_120 : decode b_MoPaper_plain 120 = .ok (.iload 6, 2) := by decide +kernel
theorem d_MoPaper_plain_122 : decode b_MoPaper_plain 122 = .ok (.bipush 90, 2) := by decide +kernel
theorem d_MoPaper_plain_124 : decode b_MoPaper_plain 124 = .ok (.if_icmp .le 24, 3) := by decide +kernel
theorem d_MoPaper_plain_127 : decode b_MoPaper_plain 127 = .ok (.iload 6, 2) := by decide +kernel
theorem d_MoPaper_plain_129 : decode b_MoPaper_plain 129 = .ok (.bipush 48, 2) := by decide +kernel
theorem d_MoPaper_plain_131 : decode b_MoPaper_plain 131 = .ok (.if_icmp .lt 10, 3) := by decide +kernel
theorem d_MoPaper_plain_134 : decode b_MoPaper_plain 134 = .ok (.iload 6, 2) := by decide +kernel
theorem d_MoPaper_plain_136 : decode b_MoPaper_plain 136 = .ok (.bipush 57, 2) := by decide +kernel
theorem d_MoPaper_plain_138 : decode b_MoPaper_plain 138 = .ok (.if_icmp .le 10, 3) := by decide +kernel
theorem d_MoPaper_plain_141 : decode b_MoPaper_plain 141 = .ok (.iload 6, 2) := by decide +kernel
theorem d_MoPaper_plain_143 : decode b_MoPaper_plain 143 = .ok (.bipush 95, 2) := by decide +kernel
theorem d_MoPaper_plain_145 : decode b_MoPaper_plain 145 = .ok (.if_icmp .ne 7, 3) := by decide +kernel
theorem d_MoPaper_plain_148 : decode b_MoPaper_plain 148 = .ok (.iconst 1, 1) := by decide +kernel
theorem d_MoPaper_plain_149 : decode b_MoPaper_plain 149 = .ok (.goto 4, 3) := by decide +kernel
theorem d_MoPaper_plain_152 : decode b_MoPaper_plain 152 = .ok (.iconst 0, 1) := by decide +kernel
theorem d_MoPaper_plain_153 : decode b_MoPaper_plain 153 = .ok (.istore 7, 2) := by decide +kernel
theorem d_MoPaper_plain_155 : decode b_MoPaper_plain 155 = .ok (.iload 4, 2) := by decide +kernel
theorem d_MoPaper_plain_157 : decode b_MoPaper_plain 157 = .ok (.ifCond .eq 11, 3) := by decide +kernel
theorem d_MoPaper_plain_160 : decode b_MoPaper_plain 160 = .ok (.iload 7, 2) := by decide +kernel
theorem d_MoPaper_plain_162 : decode b_MoPaper_plain 162 = .ok (.ifCond .ne 16, 3) := by decide +kernel
theorem d_MoPaper_plain_165 : decode b_MoPaper_plain 165 = .ok (.goto 11, 3) := by decide +kernel
theorem d_MoPaper_plain_168 : decode b_MoPaper_plain 168 = .ok (.iload 6, 2) := by decide +kernel
theorem d_MoPaper_plain_170 : decode b_MoPaper_plain 170 = .ok (.invokestatic 61, 3) := by decide +kernel
theorem d_MoPaper_plain_173 : decode b_MoPaper_plain 173 = .ok (.ifCond .ne 5, 3) := by decide +kernel
theorem d_MoPaper_plain_176 : decode b_MoPaper_plain 176 = .ok (.iconst 0, 1) := by decide +kernel
theorem d_MoPaper_plain_177 : decode b_MoPaper_plain 177 = .ok (.ireturn, 1) := by decide +kernel
theorem d_MoPaper_plain_178 : decode b_MoPaper_plain 178 = .ok (.iinc 5 1, 3) := by decide +kernel
theorem d_MoPaper_plain_181 : decode b_MoPaper_plain 181 = .ok (.goto (-97), 3) := by decide +kernel
theorem d_MoPaper_plain_184 : decode b_MoPaper_plain 184 = .ok (.iconst 1, 1) := by decide +kernel
theorem d_MoPaper_plain_185 : decode b_MoPaper_plain 185 = .ok (.ireturn, 1) := by decide +kernel
def p_MoPaper_plain_153 (n : Nat) (x5_10 : Int32) (r12 : Int32) (K_10 : Int32 → Option Int32) (y0_13 : Int32) : Option Int32 := (p_MoReader_symbol n r12).bind (fun r15 => if r15 = 0 then (some (0 : Int32)) else (K_10 (x5_10 + 1)))
def p_MoPaper_plain_148 (n : Nat) (x5_10 : Int32) (r12 : Int32) (K_10 : Int32 → Option Int32) : Option Int32 := p_MoPaper_plain_153 n x5_10 r12 (fun w0 => K_10 w0) (1 : Int32)
def p_MoPaper_plain_141 (n : Nat) (x5_10 : Int32) (r12 : Int32) (K_10 : Int32 → Option Int32) : Option Int32 := if r12 = 95 then (p_MoPaper_plain_148 n x5_10 r12 (fun w0 => K_10 w0)) else (p_MoPaper_plain_153 n x5_10 r12 (fun w0 => K_10 w0) (0 : Int32))
def p_MoPaper_plain_127 (n : Nat) (x5_10 : Int32) (r12 : Int32) (K_10 : Int32 → Option Int32) : Option Int32 := if r12 < 48 then (p_MoPaper_plain_141 n x5_10 r12 (fun w0 => K_10 w0)) else (if r12 ≤ 57 then (p_MoPaper_plain_148 n x5_10 r12 (fun w0 => K_10 w0)) else (p_MoPaper_plain_141 n x5_10 r12 (fun w0 => K_10 w0)))
def p_MoPaper_plain_113 (n : Nat) (x5_10 : Int32) (r12 : Int32) (K_10 : Int32 → Option Int32) : Option Int32 := if r12 < 65 then (p_MoPaper_plain_127 n x5_10 r12 (fun w0 => K_10 w0)) else (if r12 ≤ 90 then (p_MoPaper_plain_148 n x5_10 r12 (fun w0 => K_10 w0)) else (p_MoPaper_plain_127 n x5_10 r12 (fun w0 => K_10 w0)))
def p_MoPaper_plain_84 (n : Nat) (kk : Int32) (nms_size : Int32) (nms_texted : Int32) (nms_text_n : Nat) (nms_text_f : Nat → Int32) (nms_from_n : Nat) (nms_from_f : Nat → Int32) (r1 : Int32) (kf10 : Nat) (x5_10 : Int32) : Option Int32 := match kf10 with
  | 0 => none
  | kf10 + 1 => if r1 ≤ x5_10 then (some (1 : Int32)) else ((p_MoNames_at kk x5_10 nms_size nms_texted nms_text_n nms_text_f nms_from_n nms_from_f).bind (fun r12 => if r12 < 97 then (p_MoPaper_plain_113 n x5_10 r12 (fun w0 => p_MoPaper_plain_84 n kk nms_size nms_texted nms_text_n nms_text_f nms_from_n nms_from_f r1 kf10 w0)) else (if r12 ≤ 122 then (p_MoPaper_plain_148 n x5_10 r12 (fun w0 => p_MoPaper_plain_84 n kk nms_size nms_texted nms_text_n nms_text_f nms_from_n nms_from_f r1 kf10 w0)) else (p_MoPaper_plain_113 n x5_10 r12 (fun w0 => p_MoPaper_plain_84 n kk nms_size nms_texted nms_text_n nms_text_f nms_from_n nms_from_f r1 kf10 w0)))))
def p_MoPaper_plain_153_32 (n : Nat) (x5_29 : Int32) (r31 : Int32) (K_29 : Int32 → Option Int32) (y0_32 : Int32) : Option Int32 := (p_MoReader_symbol n r31).bind (fun r34 => if r34 = 0 then (some (0 : Int32)) else (K_29 (x5_29 + 1)))
def p_MoPaper_plain_148_36 (n : Nat) (x5_29 : Int32) (r31 : Int32) (K_29 : Int32 → Option Int32) : Option Int32 := p_MoPaper_plain_153_32 n x5_29 r31 (fun w0 => K_29 w0) (1 : Int32)
def p_MoPaper_plain_141_39 (n : Nat) (x5_29 : Int32) (r31 : Int32) (K_29 : Int32 → Option Int32) : Option Int32 := if r31 = 95 then (p_MoPaper_plain_148_36 n x5_29 r31 (fun w0 => K_29 w0)) else (p_MoPaper_plain_153_32 n x5_29 r31 (fun w0 => K_29 w0) (0 : Int32))
def p_MoPaper_plain_127_38 (n : Nat) (x5_29 : Int32) (r31 : Int32) (K_29 : Int32 → Option Int32) : Option Int32 := if r31 < 48 then (p_MoPaper_plain_141_39 n x5_29 r31 (fun w0 => K_29 w0)) else (if r31 ≤ 57 then (p_MoPaper_plain_148_36 n x5_29 r31 (fun w0 => K_29 w0)) else (p_MoPaper_plain_141_39 n x5_29 r31 (fun w0 => K_29 w0)))
def p_MoPaper_plain_113_37 (n : Nat) (x5_29 : Int32) (r31 : Int32) (K_29 : Int32 → Option Int32) : Option Int32 := if r31 < 65 then (p_MoPaper_plain_127_38 n x5_29 r31 (fun w0 => K_29 w0)) else (if r31 ≤ 90 then (p_MoPaper_plain_148_36 n x5_29 r31 (fun w0 => K_29 w0)) else (p_MoPaper_plain_127_38 n x5_29 r31 (fun w0 => K_29 w0)))
def p_MoPaper_plain_84_29 (n : Nat) (kk : Int32) (nms_size : Int32) (nms_texted : Int32) (nms_text_n : Nat) (nms_text_f : Nat → Int32) (nms_from_n : Nat) (nms_from_f : Nat → Int32) (r1 : Int32) (kf29 : Nat) (x5_29 : Int32) : Option Int32 := match kf29 with
  | 0 => none
  | kf29 + 1 => if r1 ≤ x5_29 then (some (1 : Int32)) else ((p_MoNames_at kk x5_29 nms_size nms_texted nms_text_n nms_text_f nms_from_n nms_from_f).bind (fun r31 => if r31 < 97 then (p_MoPaper_plain_113_37 n x5_29 r31 (fun w0 => p_MoPaper_plain_84_29 n kk nms_size nms_texted nms_text_n nms_text_f nms_from_n nms_from_f r1 kf29 w0)) else (if r31 ≤ 122 then (p_MoPaper_plain_148_36 n x5_29 r31 (fun w0 => p_MoPaper_plain_84_29 n kk nms_size nms_texted nms_text_n nms_text_f nms_from_n nms_from_f r1 kf29 w0)) else (p_MoPaper_plain_113_37 n x5_29 r31 (fun w0 => p_MoPaper_plain_84_29 n kk nms_size nms_texted nms_text_n nms_text_f nms_from_n nms_from_f r1 kf29 w0)))))
def p_MoPaper_plain_153_50 (n : Nat) (x5_47 : Int32) (K_47 : Int32 → Option Int32) (y0_50 : Int32) : Option Int32 := if y0_50 = 0 then (some (0 : Int32)) else (K_47 (x5_47 + 1))
def p_MoPaper_plain_148_53 (n : Nat) (x5_47 : Int32) (K_47 : Int32 → Option Int32) : Option Int32 := p_MoPaper_plain_153_50 n x5_47 (fun w0 => K_47 w0) (1 : Int32)
def p_MoPaper_plain_141_56 (n : Nat) (x5_47 : Int32) (r49 : Int32) (K_47 : Int32 → Option Int32) : Option Int32 := if r49 = 95 then (p_MoPaper_plain_148_53 n x5_47 (fun w0 => K_47 w0)) else (p_MoPaper_plain_153_50 n x5_47 (fun w0 => K_47 w0) (0 : Int32))
def p_MoPaper_plain_127_55 (n : Nat) (x5_47 : Int32) (r49 : Int32) (K_47 : Int32 → Option Int32) : Option Int32 := if r49 < 48 then (p_MoPaper_plain_141_56 n x5_47 r49 (fun w0 => K_47 w0)) else (if r49 ≤ 57 then (p_MoPaper_plain_148_53 n x5_47 (fun w0 => K_47 w0)) else (p_MoPaper_plain_141_56 n x5_47 r49 (fun w0 => K_47 w0)))
def p_MoPaper_plain_113_54 (n : Nat) (x5_47 : Int32) (r49 : Int32) (K_47 : Int32 → Option Int32) : Option Int32 := if r49 < 65 then (p_MoPaper_plain_127_55 n x5_47 r49 (fun w0 => K_47 w0)) else (if r49 ≤ 90 then (p_MoPaper_plain_148_53 n x5_47 (fun w0 => K_47 w0)) else (p_MoPaper_plain_127_55 n x5_47 r49 (fun w0 => K_47 w0)))
def p_MoPaper_plain_84_47 (n : Nat) (kk : Int32) (nms_size : Int32) (nms_texted : Int32) (nms_text_n : Nat) (nms_text_f : Nat → Int32) (nms_from_n : Nat) (nms_from_f : Nat → Int32) (r1 : Int32) (kf47 : Nat) (x5_47 : Int32) : Option Int32 := match kf47 with
  | 0 => none
  | kf47 + 1 => if r1 ≤ x5_47 then (some (1 : Int32)) else ((p_MoNames_at kk x5_47 nms_size nms_texted nms_text_n nms_text_f nms_from_n nms_from_f).bind (fun r49 => if r49 < 97 then (p_MoPaper_plain_113_54 n x5_47 r49 (fun w0 => p_MoPaper_plain_84_47 n kk nms_size nms_texted nms_text_n nms_text_f nms_from_n nms_from_f r1 kf47 w0)) else (if r49 ≤ 122 then (p_MoPaper_plain_148_53 n x5_47 (fun w0 => p_MoPaper_plain_84_47 n kk nms_size nms_texted nms_text_n nms_text_f nms_from_n nms_from_f r1 kf47 w0)) else (p_MoPaper_plain_113_54 n x5_47 r49 (fun w0 => p_MoPaper_plain_84_47 n kk nms_size nms_texted nms_text_n nms_text_f nms_from_n nms_from_f r1 kf47 w0)))))
def p_MoPaper_plain_38 (n : Nat) (kk : Int32) (nms_size : Int32) (nms_texted : Int32) (nms_text_n : Nat) (nms_text_f : Nat → Int32) (nms_from_n : Nat) (nms_from_f : Nat → Int32) (r1 : Int32) (r3 : Int32) : Option Int32 := (p_MoNames_spells n kk 24 nms_size nms_texted nms_text_n nms_text_f nms_from_n nms_from_f).bind (fun r5 => if r5 = 0 then ((p_MoNames_spells n kk 23 nms_size nms_texted nms_text_n nms_text_f nms_from_n nms_from_f).bind (fun r7 => if r7 = 0 then (if r3 < 97 then (p_MoPaper_plain_84 n kk nms_size nms_texted nms_text_n nms_text_f nms_from_n nms_from_f r1 n (0 : Int32)) else (if 122 < r3 then (p_MoPaper_plain_84_29 n kk nms_size nms_texted nms_text_n nms_text_f nms_from_n nms_from_f r1 n (0 : Int32)) else (p_MoPaper_plain_84_47 n kk nms_size nms_texted nms_text_n nms_text_f nms_from_n nms_from_f r1 n (0 : Int32)))) else (some (0 : Int32)))) else (some (1 : Int32)))
def p_MoPaper_plain (n : Nat) (kk : Int32) (nms_size : Int32) (nms_texted : Int32) (nms_text_n : Nat) (nms_text_f : Nat → Int32) (nms_from_n : Nat) (nms_from_f : Nat → Int32) : Option Int32 := (p_MoNames_length kk nms_size nms_texted nms_from_n nms_from_f).bind (fun r1 => if r1 = 0 then (some (0 : Int32)) else ((p_MoNames_at kk (0 : Int32) nms_size nms_texted nms_text_n nms_text_f nms_from_n nms_from_f).bind (fun r3 => if r1 = 1 then (if r3 = 33 then (some (1 : Int32)) else (if r3 = 59 then (some (1 : Int32)) else (p_MoPaper_plain_38 n kk nms_size nms_texted nms_text_n nms_text_f nms_from_n nms_from_f r1 r3))) else (p_MoPaper_plain_38 n kk nms_size nms_texted nms_text_n nms_text_f nms_from_n nms_from_f r1 r3))))
set_option maxHeartbeats 40000000 in
set_option maxRecDepth 100000 in
theorem c_MoPaper_plain (l : Launch) (g : va_G) (cs : Nat → ClassId) (ka : Nat → Nat) (nms_next : Nat) (nms_first : Nat) (nms nms_text nms_from : Nat) (sz : Nat) (n : Nat) (kk : Int32) (nms_size : Int32) (nms_texted : Int32) (nms_text_n : Nat) (nms_text_f : Nat → Int32) (nms_from_n : Nat) (nms_from_f : Nat → Int32) (r : Int32) (hok : p_MoPaper_plain n kk nms_size nms_texted nms_text_n nms_text_f nms_from_n nms_from_f = some r) : Met l y_MoPaper_plain (.code y_MoPaper_plain b_MoPaper_plain 8 (some .boolean) :: GW) { frames := 5, cells := 0, slots := 0, locals := 111 } (va_Pc [.ref nms, .int kk] (gP g cs ka [(nms, .inr (10, [.ref nms_text, .ref nms_from, .ref nms_next, .ref nms_first, .int nms_size, .int nms_texted])), (nms_text, .inl (cs 1, nms_text_n, .inl nms_text_f)), (nms_from, .inl (cs 0, nms_from_n, .inl nms_from_f))] sz)) (va_Qi (fun (r' : Int32) (_ : Unit) => r = r') (fun _ t => va_P g classes [(nms, .inr (10, [.ref nms_text, .ref nms_from, .ref nms_next, .ref nms_first, .int nms_size, .int nms_texted])), (nms_text, .inl (cs 1, nms_text_n, .inl nms_text_f)), (nms_from, .inl (cs 0, nms_from_n, .inl nms_from_f))] t.heap ∧ va_D (va_A [(nms, .inr (10, [.ref nms_text, .ref nms_from, .ref nms_next, .ref nms_first, .int nms_size, .int nms_texted])), (nms_text, .inl (cs 1, nms_text_n, .inl nms_text_f)), (nms_from, .inl (cs 0, nms_from_n, .inl nms_from_f))] sz) [(nms, .inr (10, [.ref nms_text, .ref nms_from, .ref nms_next, .ref nms_first, .int nms_size, .int nms_texted])), (nms_text, .inl (cs 1, nms_text_n, .inl nms_text_f)), (nms_from, .inl (cs 0, nms_from_n, .inl nms_from_f))]) (va_A [(nms, .inr (10, [.ref nms_text, .ref nms_from, .ref nms_next, .ref nms_first, .int nms_size, .int nms_texted])), (nms_text, .inl (cs 1, nms_text_n, .inl nms_text_f)), (nms_from, .inl (cs 0, nms_from_n, .inl nms_from_f))] sz)) 0 0 (va_A [(nms, .inr (10, [.ref nms_text, .ref nms_from, .ref nms_next, .ref nms_first, .int nms_size, .int nms_texted])), (nms_text, .inl (cs 1, nms_text_n, .inl nms_text_f)), (nms_from, .inl (cs 0, nms_from_n, .inl nms_from_f))] sz) := by
  refine Met.ofW (cc := b_MoPaper_plain) (maxL := 8) (ret := (some .boolean)) (by decide) rfl ?_
  intro p e s m args below meth c s₁ B hml hv
  obtain ⟨rfl, hsz, hP, hK, hD0, hgl, hkn, hkr⟩ := hv
  have hx := B.exec
  have hb := B.bytes
  have hr := B.returns
  have hg : ∀ w ∈ GW, w.before ([.ref nms, .int kk] : List Value).toArray s = true := fun w hw => atoms_spec (ws := .code y_MoPaper_plain b_MoPaper_plain 8 (some .boolean) :: GW) B.pre w (List.mem_cons_of_mem _ hw)
  have hown : s.vm.findClass R_MoPaper = some m.cls := findClass_of_methodNamed B.named
  have hlocks := B.notSynchronized
  subst hsz
  have hD := hD0.self (sz := s.heap.size)
  generalize hAe : va_A [(nms, .inr (10, [.ref nms_text, .ref nms_from, .ref nms_next, .ref nms_first, .int nms_size, .int nms_texted])), (nms_text, .inl (cs 1, nms_text_n, .inl nms_text_f)), (nms_from, .inl (cs 0, nms_from_n, .inl nms_from_f))] s.heap.size = A at hD hkn ⊢
  have hA : ∀ q : Nat, s.heap.size ≤ q → A q := fun q h => by rw [← hAe]; exact Or.inr h
  have hS : va_S A s.heap s.heap [] := va_S.rf
  have hP : va_P g classes [(nms, .inr (10, [.ref nms_text, .ref nms_from, .ref nms_next, .ref nms_first, .int nms_size, .int nms_texted])), (nms_text, .inl (cs 1, nms_text_n, .inl nms_text_f)), (nms_from, .inl (cs 0, nms_from_n, .inl nms_from_f))] s.heap := hP
  have hl := lv_entry ([.ref nms, .int kk]) (n := 8) (Nat.le_of_ble_eq_true rfl)
  rw [lg_entry_eq]
  generalize (lg_sl ([.ref nms, .int kk]) ++ List.replicate (8 - (lg_sl ([.ref nms, .int kk])).length) Slot.unset).toArray = ls at hl ⊢
  have hl : lv_has ls 8 [(0, .ref nms), (1, .int kk)] := hl
  refine gq (fun Q hQ => ?_)
  obtain ⟨H, hH⟩ : ∃ H : Heap, H = s.heap := ⟨_, rfl⟩
  rw [← hH] at hP
  have hS : va_S A s.heap H [] := by rw [hH]; exact hS
  refine W.eqH hH ?_
  obtain ⟨locs, hlc⟩ : ∃ L : List Loc, L = [] := ⟨_, rfl⟩
  rw [← hlc] at hS ⊢
  unfold p_MoPaper_plain at hok
  refine lv_aload_n hx hb d_MoPaper_plain_0 rfl (lv_at hl 0 rfl) ?_
  refine lv_iload_n hx hb d_MoPaper_plain_1 rfl (lv_at hl 1 rfl) ?_
  obtain ⟨r1, hc1, hok⟩ := bd_some hok
  obtain ⟨hPc, hDc, hFc⟩ := cut0 (wc := [(nms, .inr (10, [.ref nms_text, .ref nms_from, .ref nms_next, .ref nms_first, .int nms_size, .int nms_texted])), (nms_from, .inl (cs 0, nms_from_n, .inl nms_from_f))]) hP hD hS hA [0, 2] (by decide) rfl
  refine va_calli (va_runV (As := [.int kk]) (rest := []) ⟨hx, hb, hml, hown, hg⟩ (c_MoNames_length l g cs ka nms_text nms_next nms_first nms nms_from H.size kk nms_size nms_texted nms_from_n nms_from_f r1 hc1) (cwV (C := R_MoNames) 1 hg (gw_V wd_747 wd_723 wd_724 wd_717 wd_721) rfl rfl rfl (by decide +kernel) ⟨Nat.le_of_ble_eq_true rfl, Nat.le_of_ble_eq_true rfl⟩) ⟨gP_blind, va_recv (q0 := 0) (ci := 10) (q := (R_MoNames, F_MoNames, 6)) hK hP rfl rfl, gP_pre hPc hDc hK hgl hkn hkr hS hFc⟩ rfl rfl hl.1 rfl (lv_room (Nat.le_of_ble_eq_true rfl)) d_MoPaper_plain_2 ⟨Nat.le_of_ble_eq_true rfl, Nat.le_of_ble_eq_true rfl⟩) hS (fun q _ h => hFc q h) hFc (fun r1' u t H locs ht hvm hr1 hB hz1 hk1 hS => ?_)
  subst hr1
  rw [ht] at hB
  obtain ⟨hP1, hD1⟩ := hB
  obtain ⟨hP, hD⟩ := jn_A hP hD [0, 2] [1] rfl rfl (by decide) (by decide) hk1 hFc hP1 hD1
  obtain ⟨hP, hD⟩ : PD g A H [(nms_text, .inl (cs 1, nms_text_n, .inl nms_text_f)), (nms, .inr (10, [.ref nms_text, .ref nms_from, .ref nms_next, .ref nms_first, .int nms_size, .int nms_texted])), (nms_from, .inl (cs 0, nms_from_n, .inl nms_from_f))] := ⟨hP, hD⟩
  refine lv_istore_n hx hb d_MoPaper_plain_5 rfl hl (by decide) rfl (fun ls hl => ?_)
  have hl : lv_has ls 8 [(2, .int r1), (0, .ref nms), (1, .int kk)] := hl
  refine lv_iload_n hx hb d_MoPaper_plain_6 rfl (lv_at hl 0 rfl) ?_
  refine lv_if_ne hx hb d_MoPaper_plain_7 rfl (fun h2 => ?_) (fun h2 => ?_)
  · rw [if_neg h2] at hok
    refine lv_aload_n hx hb d_MoPaper_plain_12 rfl (lv_at hl 1 rfl) ?_
    refine lv_iload_n hx hb d_MoPaper_plain_13 rfl (lv_at hl 2 rfl) ?_
    refine lv_iconst (v := 0) hx hb d_MoPaper_plain_14 (by decide) ?_
    obtain ⟨r3, hc3, hok⟩ := bd_some hok
    obtain ⟨hPc, hDc, hFc⟩ := cut0 (wc := [(nms, .inr (10, [.ref nms_text, .ref nms_from, .ref nms_next, .ref nms_first, .int nms_size, .int nms_texted])), (nms_text, .inl (cs 1, nms_text_n, .inl nms_text_f)), (nms_from, .inl (cs 0, nms_from_n, .inl nms_from_f))]) hP hD hS hA [1, 0, 2] (by decide) rfl
    refine va_calli (va_runV (As := [.int kk, .int 0]) (rest := []) ⟨hx, hb, hml, hown, hg⟩ (c_MoNames_at l g cs ka nms_next nms_first nms nms_text nms_from H.size kk (0 : Int32) nms_size nms_texted nms_text_n nms_text_f nms_from_n nms_from_f r3 hc3) (cwV (C := R_MoNames) 2 hg (gw_V wd_748 wd_728 wd_729 wd_717 wd_726) rfl rfl rfl (by decide +kernel) ⟨Nat.le_of_ble_eq_true rfl, Nat.le_of_ble_eq_true rfl⟩) ⟨gP_blind, va_recv (q0 := 1) (ci := 10) (q := (R_MoNames, F_MoNames, 6)) hK hP rfl rfl, gP_pre hPc hDc hK hgl hkn hkr hS hFc⟩ rfl rfl hl.1 rfl (lv_room (Nat.le_of_ble_eq_true rfl)) d_MoPaper_plain_15 ⟨Nat.le_of_ble_eq_true rfl, Nat.le_of_ble_eq_true rfl⟩) hS (fun q _ h => hFc q h) hFc (fun r3' u t H locs ht hvm hr3 hB hz1 hk1 hS => ?_)
    subst hr3
    rw [ht] at hB
    obtain ⟨hP1, hD1⟩ := hB
    obtain ⟨hP, hD⟩ := jn_A hP hD [1, 0, 2] [] rfl rfl (by decide) (by decide) hk1 hFc hP1 hD1
    obtain ⟨hP, hD⟩ : PD g A H [(nms, .inr (10, [.ref nms_text, .ref nms_from, .ref nms_next, .ref nms_first, .int nms_size, .int nms_texted])), (nms_text, .inl (cs 1, nms_text_n, .inl nms_text_f)), (nms_from, .inl (cs 0, nms_from_n, .inl nms_from_f))] := ⟨hP, hD⟩
    refine lv_istore_n hx hb d_MoPaper_plain_18 rfl hl (by decide) rfl (fun ls hl => ?_)
    have hl : lv_has ls 8 [(3, .int r3), (2, .int r1), (0, .ref nms), (1, .int kk)] := hl
    refine lv_iload_n hx hb d_MoPaper_plain_19 rfl (lv_at hl 1 rfl) ?_
    refine lv_iconst (v := 1) hx hb d_MoPaper_plain_20 (by decide) ?_
    have J4 : ∀ (H : Heap) (locs : List Loc) (ls : Array Slot), lv_has ls 8 [(3, .int r3), (2, .int r1), (0, .ref nms), (1, .int kk)] → PD g A H [(nms, .inr (10, [.ref nms_text, .ref nms_from, .ref nms_next, .ref nms_first, .int nms_size, .int nms_texted])), (nms_text, .inl (cs 1, nms_text_n, .inl nms_text_f)), (nms_from, .inl (cs 0, nms_from_n, .inl nms_from_f))] → va_S A s.heap H locs → p_MoPaper_plain_38 n kk nms_size nms_texted nms_text_n nms_text_f nms_from_n nms_from_f r1 r3 = some r → W p l e (headSpec (.code y_MoPaper_plain b_MoPaper_plain 8 (some .boolean) :: GW) { frames := 5, cells := 0, slots := 0, locals := 111 }).room s m ([.ref nms, .int kk] : List Value).toArray below meth c H locs 0 0 Q (F0 m 38 ls []) := by
      intro H locs ls hl ⟨hP, hD⟩ hS hok
      unfold p_MoPaper_plain_38 at hok
      refine lv_aload_n hx hb d_MoPaper_plain_38 rfl (lv_at hl 2 rfl) ?_
      refine lv_iload_n hx hb d_MoPaper_plain_39 rfl (lv_at hl 3 rfl) ?_
      refine va_ldcS hx hb hown (hkr.1 ("UnifyBenchModel$Paper", 53, "[]", 24) (by decide +kernel)) d_MoPaper_plain_40 ?_
      obtain ⟨r5, hc5, hok⟩ := bd_some hok
      obtain ⟨hPc, hDc, hFc⟩ := cut0 (wc := [(nms, .inr (10, [.ref nms_text, .ref nms_from, .ref nms_next, .ref nms_first, .int nms_size, .int nms_texted])), (nms_text, .inl (cs 1, nms_text_n, .inl nms_text_f)), (nms_from, .inl (cs 0, nms_from_n, .inl nms_from_f))]) hP hD hS hA [0, 1, 2] (by decide) rfl
      refine va_calli (va_runV (As := [.int kk, .ref (ka (200 + 24))]) (rest := []) ⟨hx, hb, hml, hown, hg⟩ (c_MoNames_spells l g cs ka nms_next nms_first nms nms_text nms_from H.size n kk 24 nms_size nms_texted nms_text_n nms_text_f nms_from_n nms_from_f r5 hc5) (cwV (C := R_MoNames) 2 hg (gw_V wd_750 wd_751 wd_752 wd_717 wd_749) rfl rfl rfl (by decide +kernel) ⟨Nat.le_of_ble_eq_true rfl, Nat.le_of_ble_eq_true rfl⟩) ⟨gP_blind, va_recv (q0 := 0) (ci := 10) (q := (R_MoNames, F_MoNames, 6)) hK hP rfl rfl, gP_pre hPc hDc hK hgl hkn hkr hS hFc⟩ rfl rfl hl.1 rfl (lv_room (Nat.le_of_ble_eq_true rfl)) d_MoPaper_plain_42 ⟨Nat.le_of_ble_eq_true rfl, Nat.le_of_ble_eq_true rfl⟩) hS (fun q _ h => hFc q h) hFc (fun r5' u t H locs ht hvm hr5 hB hz1 hk1 hS => ?_)
      subst hr5
      rw [ht] at hB
      obtain ⟨hP1, hD1⟩ := hB
      obtain ⟨hP, hD⟩ := jn_A hP hD [0, 1, 2] [] rfl rfl (by decide) (by decide) hk1 hFc hP1 hD1
      obtain ⟨hP, hD⟩ : PD g A H [(nms, .inr (10, [.ref nms_text, .ref nms_from, .ref nms_next, .ref nms_first, .int nms_size, .int nms_texted])), (nms_text, .inl (cs 1, nms_text_n, .inl nms_text_f)), (nms_from, .inl (cs 0, nms_from_n, .inl nms_from_f))] := ⟨hP, hD⟩
      refine lv_if_eq hx hb d_MoPaper_plain_45 rfl (fun h6 => ?_) (fun h6 => ?_)
      · rw [if_pos h6] at hok
        refine lv_aload_n hx hb d_MoPaper_plain_50 rfl (lv_at hl 2 rfl) ?_
        refine lv_iload_n hx hb d_MoPaper_plain_51 rfl (lv_at hl 3 rfl) ?_
        refine va_ldcS hx hb hown (hkr.1 ("UnifyBenchModel$Paper", 59, ".", 23) (by decide +kernel)) d_MoPaper_plain_52 ?_
        obtain ⟨r7, hc7, hok⟩ := bd_some hok
        obtain ⟨hPc, hDc, hFc⟩ := cut0 (wc := [(nms, .inr (10, [.ref nms_text, .ref nms_from, .ref nms_next, .ref nms_first, .int nms_size, .int nms_texted])), (nms_text, .inl (cs 1, nms_text_n, .inl nms_text_f)), (nms_from, .inl (cs 0, nms_from_n, .inl nms_from_f))]) hP hD hS hA [0, 1, 2] (by decide) rfl
        refine va_calli (va_runV (As := [.int kk, .ref (ka (200 + 23))]) (rest := []) ⟨hx, hb, hml, hown, hg⟩ (c_MoNames_spells l g cs ka nms_next nms_first nms nms_text nms_from H.size n kk 23 nms_size nms_texted nms_text_n nms_text_f nms_from_n nms_from_f r7 hc7) (cwV (C := R_MoNames) 2 hg (gw_V wd_750 wd_751 wd_752 wd_717 wd_749) rfl rfl rfl (by decide +kernel) ⟨Nat.le_of_ble_eq_true rfl, Nat.le_of_ble_eq_true rfl⟩) ⟨gP_blind, va_recv (q0 := 0) (ci := 10) (q := (R_MoNames, F_MoNames, 6)) hK hP rfl rfl, gP_pre hPc hDc hK hgl hkn hkr hS hFc⟩ rfl rfl hl.1 rfl (lv_room (Nat.le_of_ble_eq_true rfl)) d_MoPaper_plain_54 ⟨Nat.le_of_ble_eq_true rfl, Nat.le_of_ble_eq_true rfl⟩) hS (fun q _ h => hFc q h) hFc (fun r7' u t H locs ht hvm hr7 hB hz1 hk1 hS => ?_)
        subst hr7
        rw [ht] at hB
        obtain ⟨hP1, hD1⟩ := hB
        obtain ⟨hP, hD⟩ := jn_A hP hD [0, 1, 2] [] rfl rfl (by decide) (by decide) hk1 hFc hP1 hD1
        obtain ⟨hP, hD⟩ : PD g A H [(nms, .inr (10, [.ref nms_text, .ref nms_from, .ref nms_next, .ref nms_first, .int nms_size, .int nms_texted])), (nms_text, .inl (cs 1, nms_text_n, .inl nms_text_f)), (nms_from, .inl (cs 0, nms_from_n, .inl nms_from_f))] := ⟨hP, hD⟩
        refine lv_if_eq hx hb d_MoPaper_plain_57 rfl (fun h8 => ?_) (fun h8 => ?_)
        · rw [if_pos h8] at hok
          refine lv_iload_n hx hb d_MoPaper_plain_62 rfl (lv_at hl 0 rfl) ?_
          refine lv_bipush (v := 97) hx hb d_MoPaper_plain_63 (by decide) ?_
          refine lv_icmp_lt hx hb d_MoPaper_plain_65 rfl (fun h9 => ?_) (fun h9 => ?_)
          · rw [if_pos h9] at hok
            refine lv_iconst (v := 0) hx hb d_MoPaper_plain_78 (by decide) ?_
            refine lv_istore hx hb d_MoPaper_plain_79 hl (by decide) rfl (fun ls hl => ?_)
            have hl : lv_has ls 8 [(4, .int 0), (3, .int r3), (2, .int r1), (0, .ref nms), (1, .int kk)] := hl
            refine lv_iconst (v := 0) hx hb d_MoPaper_plain_81 (by decide) ?_
            refine lv_istore hx hb d_MoPaper_plain_82 hl (by decide) rfl (fun ls hl => ?_)
            have hl : lv_has ls 8 [(5, .int 0), (4, .int 0), (3, .int r3), (2, .int r1), (0, .ref nms), (1, .int kk)] := hl
            have J10 : ∀ (kf10 : Nat) (H : Heap) (locs : List Loc) (ls : Array Slot) (x5_10 : Int32), lv_has ls 8 [(5, .int x5_10), (4, .int 0), (3, .int r3), (2, .int r1), (0, .ref nms), (1, .int kk)] → PD g A H [(nms, .inr (10, [.ref nms_text, .ref nms_from, .ref nms_next, .ref nms_first, .int nms_size, .int nms_texted])), (nms_text, .inl (cs 1, nms_text_n, .inl nms_text_f)), (nms_from, .inl (cs 0, nms_from_n, .inl nms_from_f))] → va_S A s.heap H locs → p_MoPaper_plain_84 n kk nms_size nms_texted nms_text_n nms_text_f nms_from_n nms_from_f r1 kf10 x5_10 = some r → W p l e (headSpec (.code y_MoPaper_plain b_MoPaper_plain 8 (some .boolean) :: GW) { frames := 5, cells := 0, slots := 0, locals := 111 }).room s m ([.ref nms, .int kk] : List Value).toArray below meth c H locs 0 0 Q (F0 m 84 ls []) := by
              intro kf10
              induction kf10 with
              | zero => intro H locs ls x5_10 hl ⟨hP, hD⟩ hS hok; rw [p_MoPaper_plain_84] at hok; cases hok
              | succ kf10 ih10 =>
                intro H locs ls x5_10 hl ⟨hP, hD⟩ hS hok
                rw [p_MoPaper_plain_84] at hok
                refine lv_iload hx hb d_MoPaper_plain_84 (lv_at hl 0 rfl) ?_
                refine lv_iload_n hx hb d_MoPaper_plain_86 rfl (lv_at hl 3 rfl) ?_
                refine lv_icmp_ge hx hb d_MoPaper_plain_87 rfl (fun h11 => ?_) (fun h11 => ?_)
                · rw [if_pos h11] at hok
                  refine lv_iconst (v := 1) hx hb d_MoPaper_plain_184 (by decide) ?_
                  have hq := Option.some.inj hok
                  have hq0 := hq
                  subst hq0
                  obtain ⟨hP9, hD9⟩ := sub2 (ws' := [(nms, .inr (10, [.ref nms_text, .ref nms_from, .ref nms_next, .ref nms_first, .int nms_size, .int nms_texted])), (nms_text, .inl (cs 1, nms_text_n, .inl nms_text_f)), (nms_from, .inl (cs 0, nms_from_n, .inl nms_from_f))]) hP hD [0, 1, 2] rfl (by decide) rfl
                  rw [hQ]
                  exact W.zret (v := 1) hx hb hr rfl (fun t ht hW => ⟨⟨_, (), rfl, rfl, by rw [ht]; exact hP9, hD9⟩, hS.F ht⟩) hS.2.2 d_MoPaper_plain_185
                · rw [if_neg h11] at hok
                  refine lv_aload_n hx hb d_MoPaper_plain_90 rfl (lv_at hl 4 rfl) ?_
                  refine lv_iload_n hx hb d_MoPaper_plain_91 rfl (lv_at hl 5 rfl) ?_
                  refine lv_iload hx hb d_MoPaper_plain_92 (lv_at hl 0 rfl) ?_
                  obtain ⟨r12, hc12, hok⟩ := bd_some hok
                  obtain ⟨hPc, hDc, hFc⟩ := cut0 (wc := [(nms, .inr (10, [.ref nms_text, .ref nms_from, .ref nms_next, .ref nms_first, .int nms_size, .int nms_texted])), (nms_text, .inl (cs 1, nms_text_n, .inl nms_text_f)), (nms_from, .inl (cs 0, nms_from_n, .inl nms_from_f))]) hP hD hS hA [0, 1, 2] (by decide) rfl
                  refine va_calli (va_runV (As := [.int kk, .int x5_10]) (rest := []) ⟨hx, hb, hml, hown, hg⟩ (c_MoNames_at l g cs ka nms_next nms_first nms nms_text nms_from H.size kk x5_10 nms_size nms_texted nms_text_n nms_text_f nms_from_n nms_from_f r12 hc12) (cwV (C := R_MoNames) 2 hg (gw_V wd_748 wd_728 wd_729 wd_717 wd_726) rfl rfl rfl (by decide +kernel) ⟨Nat.le_of_ble_eq_true rfl, Nat.le_of_ble_eq_true rfl⟩) ⟨gP_blind, va_recv (q0 := 0) (ci := 10) (q := (R_MoNames, F_MoNames, 6)) hK hP rfl rfl, gP_pre hPc hDc hK hgl hkn hkr hS hFc⟩ rfl rfl hl.1 rfl (lv_room (Nat.le_of_ble_eq_true rfl)) d_MoPaper_plain_94 ⟨Nat.le_of_ble_eq_true rfl, Nat.le_of_ble_eq_true rfl⟩) hS (fun q _ h => hFc q h) hFc (fun r12' u t H locs ht hvm hr12 hB hz1 hk1 hS => ?_)
                  subst hr12
                  rw [ht] at hB
                  obtain ⟨hP1, hD1⟩ := hB
                  obtain ⟨hP, hD⟩ := jn_A hP hD [0, 1, 2] [] rfl rfl (by decide) (by decide) hk1 hFc hP1 hD1
                  obtain ⟨hP, hD⟩ : PD g A H [(nms, .inr (10, [.ref nms_text, .ref nms_from, .ref nms_next, .ref nms_first, .int nms_size, .int nms_texted])), (nms_text, .inl (cs 1, nms_text_n, .inl nms_text_f)), (nms_from, .inl (cs 0, nms_from_n, .inl nms_from_f))] := ⟨hP, hD⟩
                  refine lv_istore hx hb d_MoPaper_plain_97 hl (by decide) rfl (fun ls hl => ?_)
                  have hl : lv_has ls 8 [(6, .int r12), (5, .int x5_10), (4, .int 0), (3, .int r3), (2, .int r1), (0, .ref nms), (1, .int kk)] := hl
                  refine lv_iload hx hb d_MoPaper_plain_99 (lv_at hl 0 rfl) ?_
                  refine lv_bipush (v := 97) hx hb d_MoPaper_plain_101 (by decide) ?_
                  have J13 : ∀ (H : Heap) (locs : List Loc) (ls : Array Slot) (y0_13 : Int32), lv_has ls 8 [(6, .int r12), (5, .int x5_10), (4, .int 0), (3, .int r3), (2, .int r1), (0, .ref nms), (1, .int kk)] → PD g A H [(nms, .inr (10, [.ref nms_text, .ref nms_from, .ref nms_next, .ref nms_first, .int nms_size, .int nms_texted])), (nms_text, .inl (cs 1, nms_text_n, .inl nms_text_f)), (nms_from, .inl (cs 0, nms_from_n, .inl nms_from_f))] → va_S A s.heap H locs → p_MoPaper_plain_153 n x5_10 r12 (fun w0 => p_MoPaper_plain_84 n kk nms_size nms_texted nms_text_n nms_text_f nms_from_n nms_from_f r1 kf10 w0) y0_13 = some r → W p l e (headSpec (.code y_MoPaper_plain b_MoPaper_plain 8 (some .boolean) :: GW) { frames := 5, cells := 0, slots := 0, locals := 111 }).room s m ([.ref nms, .int kk] : List Value).toArray below meth c H locs 0 0 Q (F0 m 153 ls [.int y0_13]) := by
                    intro H locs ls y0_13 hl ⟨hP, hD⟩ hS hok
                    unfold p_MoPaper_plain_153 at hok
                    refine lv_istore hx hb d_MoPaper_plain_153 hl (by decide) rfl (fun ls hl => ?_)
                    have hl : lv_has ls 8 [(7, .int y0_13), (6, .int r12), (5, .int x5_10), (4, .int 0), (3, .int r3), (2, .int r1), (0, .ref nms), (1, .int kk)] := hl
                    refine lv_iload hx hb d_MoPaper_plain_155 (lv_at hl 3 rfl) ?_
                    refine lv_if_eq hx hb d_MoPaper_plain_157 rfl (fun h14 => ?_) (fun h14 => ?_)
                    · refine lv_iload hx hb d_MoPaper_plain_168 (lv_at hl 1 rfl) ?_
                      obtain ⟨r15, hc15, hok⟩ := bd_some hok
                      obtain ⟨hPc, hDc, hFc⟩ := cut0 (wc := []) hP hD hS hA [] (by decide) rfl
                      refine va_calli (va_runS (As := [.int r12]) (rest := []) ⟨hx, hb, hml, hown, hg⟩ (c_MoReader_symbol l g cs ka H.size n r12 r15 hc15) (va_cwS 1 hg (gw_S wd_755 wd_756 wd_754 wd_753) rfl rfl rfl (by decide +kernel) ⟨Nat.le_of_ble_eq_true rfl, Nat.le_of_ble_eq_true rfl⟩) ⟨gP_blind, gP_pre hPc hDc hK hgl hkn hkr hS hFc⟩ rfl rfl hl.1 rfl (lv_room (Nat.le_of_ble_eq_true rfl)) d_MoPaper_plain_170 ⟨Nat.le_of_ble_eq_true rfl, Nat.le_of_ble_eq_true rfl⟩) hS (fun q _ h => hFc q h) hFc (fun r15' u t H locs ht hvm hr15 hB hz1 hk1 hS => ?_)
                      subst hr15
                      rw [ht] at hB
                      obtain ⟨hP1, hD1⟩ := hB
                      obtain ⟨hP, hD⟩ := jn_A hP hD [] [0, 1, 2] rfl rfl (by decide) (by decide) hk1 hFc hP1 hD1
                      obtain ⟨hP, hD⟩ : PD g A H [(nms, .inr (10, [.ref nms_text, .ref nms_from, .ref nms_next, .ref nms_first, .int nms_size, .int nms_texted])), (nms_text, .inl (cs 1, nms_text_n, .inl nms_text_f)), (nms_from, .inl (cs 0, nms_from_n, .inl nms_from_f))] := ⟨hP, hD⟩
                      refine lv_if_ne hx hb d_MoPaper_plain_173 rfl (fun h16 => ?_) (fun h16 => ?_)
                      · rw [if_neg h16] at hok
                        refine lv_iinc (k := 2) (v := x5_10 + 1) hx hb d_MoPaper_plain_178 hl rfl rfl (by decide) rfl (fun ls hl => ?_)
                        have hl : lv_has ls 8 [(5, .int (x5_10 + 1)), (7, .int y0_13), (6, .int r12), (4, .int 0), (3, .int r3), (2, .int r1), (0, .ref nms), (1, .int kk)] := hl
                        refine lv_goto hx hb d_MoPaper_plain_181 rfl ?_
                        exact ih10 _ _ _ (x5_10 + 1) (lv_sub hl [0, 3, 4, 5, 6, 7] rfl) (sub3 hP hD [0, 1, 2] (by decide)) hS hok
                      · rw [if_pos h16] at hok
                        refine lv_iconst (v := 0) hx hb d_MoPaper_plain_176 (by decide) ?_
                        have hq := Option.some.inj hok
                        have hq0 := hq
                        subst hq0
                        obtain ⟨hP9, hD9⟩ := sub2 (ws' := [(nms, .inr (10, [.ref nms_text, .ref nms_from, .ref nms_next, .ref nms_first, .int nms_size, .int nms_texted])), (nms_text, .inl (cs 1, nms_text_n, .inl nms_text_f)), (nms_from, .inl (cs 0, nms_from_n, .inl nms_from_f))]) hP hD [0, 1, 2] rfl (by decide) rfl
                        rw [hQ]
                        exact W.zret (v := 0) hx hb hr rfl (fun t ht hW => ⟨⟨_, (), rfl, rfl, by rw [ht]; exact hP9, hD9⟩, hS.F ht⟩) hS.2.2 d_MoPaper_plain_177
                    · exact absurd h14 (by decide)
                  have J17 : ∀ (H : Heap) (locs : List Loc) (ls : Array Slot), lv_has ls 8 [(6, .int r12), (5, .int x5_10), (4, .int 0), (3, .int r3), (2, .int r1), (0, .ref nms), (1, .int kk)] → PD g A H [(nms, .inr (10, [.ref nms_text, .ref nms_from, .ref nms_next, .ref nms_first, .int nms_size, .int nms_texted])), (nms_text, .inl (cs 1, nms_text_n, .inl nms_text_f)), (nms_from, .inl (cs 0, nms_from_n, .inl nms_from_f))] → va_S A s.heap H locs → p_MoPaper_plain_148 n x5_10 r12 (fun w0 => p_MoPaper_plain_84 n kk nms_size nms_texted nms_text_n nms_text_f nms_from_n nms_from_f r1 kf10 w0) = some r → W p l e (headSpec (.code y_MoPaper_plain b_MoPaper_plain 8 (some .boolean) :: GW) { frames := 5, cells := 0, slots := 0, locals := 111 }).room s m ([.ref nms, .int kk] : List Value).toArray below meth c H locs 0 0 Q (F0 m 148 ls []) := by
                    intro H locs ls hl ⟨hP, hD⟩ hS hok
                    unfold p_MoPaper_plain_148 at hok
                    refine lv_iconst (v := 1) hx hb d_MoPaper_plain_148 (by decide) ?_
                    refine lv_goto hx hb d_MoPaper_plain_149 rfl ?_
                    exact J13 _ _ _ (1 : Int32) (lv_sub hl [0, 1, 2, 3, 4, 5, 6] rfl) (sub3 hP hD [0, 1, 2] (by decide)) hS hok
                  have J18 : ∀ (H : Heap) (locs : List Loc) (ls : Array Slot), lv_has ls 8 [(6, .int r12), (5, .int x5_10), (4, .int 0), (3, .int r3), (2, .int r1), (0, .ref nms), (1, .int kk)] → PD g A H [(nms, .inr (10, [.ref nms_text, .ref nms_from, .ref nms_next, .ref nms_first, .int nms_size, .int nms_texted])), (nms_text, .inl (cs 1, nms_text_n, .inl nms_text_f)), (nms_from, .inl (cs 0, nms_from_n, .inl nms_from_f))] → va_S A s.heap H locs → p_MoPaper_plain_113 n x5_10 r12 (fun w0 => p_MoPaper_plain_84 n kk nms_size nms_texted nms_text_n nms_text_f nms_from_n nms_from_f r1 kf10 w0) = some r → W p l e (headSpec (.code y_MoPaper_plain b_MoPaper_plain 8 (some .boolean) :: GW) { frames := 5, cells := 0, slots := 0, locals := 111 }).room s m ([.ref nms, .int kk] : List Value).toArray below meth c H locs 0 0 Q (F0 m 113 ls []) := by
                    intro H locs ls hl ⟨hP, hD⟩ hS hok
                    unfold p_MoPaper_plain_113 at hok
                    refine lv_iload hx hb d_MoPaper_plain_113 (lv_at hl 0 rfl) ?_
                    refine lv_bipush (v := 65) hx hb d_MoPaper_plain_115 (by decide) ?_
                    have J19 : ∀ (H : Heap) (locs : List Loc) (ls : Array Slot), lv_has ls 8 [(6, .int r12), (5, .int x5_10), (4, .int 0), (3, .int r3), (2, .int r1), (0, .ref nms), (1, .int kk)] → PD g A H [(nms, .inr (10, [.ref nms_text, .ref nms_from, .ref nms_next, .ref nms_first, .int nms_size, .int nms_texted])), (nms_text, .inl (cs 1, nms_text_n, .inl nms_text_f)), (nms_from, .inl (cs 0, nms_from_n, .inl nms_from_f))] → va_S A s.heap H locs → p_MoPaper_plain_127 n x5_10 r12 (fun w0 => p_MoPaper_plain_84 n kk nms_size nms_texted nms_text_n nms_text_f nms_from_n nms_from_f r1 kf10 w0) = some r → W p l e (headSpec (.code y_MoPaper_plain b_MoPaper_plain 8 (some .boolean) :: GW) { frames := 5, cells := 0, slots := 0, locals := 111 }).room s m ([.ref nms, .int kk] : List Value).toArray below meth c H locs 0 0 Q (F0 m 127 ls []) := by
                      intro H locs ls hl ⟨hP, hD⟩ hS hok
                      unfold p_MoPaper_plain_127 at hok
                      refine lv_iload hx hb d_MoPaper_plain_127 (lv_at hl 0 rfl) ?_
                      refine lv_bipush (v := 48) hx hb d_MoPaper_plain_129 (by decide) ?_
                      have J20 : ∀ (H : Heap) (locs : List Loc) (ls : Array Slot), lv_has ls 8 [(6, .int r12), (5, .int x5_10), (4, .int 0), (3, .int r3), (2, .int r1), (0, .ref nms), (1, .int kk)] → PD g A H [(nms, .inr (10, [.ref nms_text, .ref nms_from, .ref nms_next, .ref nms_first, .int nms_size, .int nms_texted])), (nms_text, .inl (cs 1, nms_text_n, .inl nms_text_f)), (nms_from, .inl (cs 0, nms_from_n, .inl nms_from_f))] → va_S A s.heap H locs → p_MoPaper_plain_141 n x5_10 r12 (fun w0 => p_MoPaper_plain_84 n kk nms_size nms_texted nms_text_n nms_text_f nms_from_n nms_from_f r1 kf10 w0) = some r → W p l e (headSpec (.code y_MoPaper_plain b_MoPaper_plain 8 (some .boolean) :: GW) { frames := 5, cells := 0, slots := 0, locals := 111 }).room s m ([.ref nms, .int kk] : List Value).toArray below meth c H locs 0 0 Q (F0 m 141 ls []) := by
                        intro H locs ls hl ⟨hP, hD⟩ hS hok
                        unfold p_MoPaper_plain_141 at hok
                        refine lv_iload hx hb d_MoPaper_plain_141 (lv_at hl 0 rfl) ?_
                        refine lv_bipush (v := 95) hx hb d_MoPaper_plain_143 (by decide) ?_
                        refine lv_icmp_ne hx hb d_MoPaper_plain_145 rfl (fun h21 => ?_) (fun h21 => ?_)
                        · rw [if_neg h21] at hok
                          refine lv_iconst (v := 0) hx hb d_MoPaper_plain_152 (by decide) ?_
                          exact J13 _ _ _ (0 : Int32) (lv_sub hl [0, 1, 2, 3, 4, 5, 6] rfl) (sub3 hP hD [0, 1, 2] (by decide)) hS hok
                        · rw [if_pos h21] at hok
                          exact J17 _ _ _ (lv_sub hl [0, 1, 2, 3, 4, 5, 6] rfl) (sub3 hP hD [0, 1, 2] (by decide)) hS hok
                      refine lv_icmp_lt hx hb d_MoPaper_plain_131 rfl (fun h22 => ?_) (fun h22 => ?_)
                      · rw [if_pos h22] at hok
                        exact J20 _ _ _ (lv_sub hl [0, 1, 2, 3, 4, 5, 6] rfl) (sub3 hP hD [0, 1, 2] (by decide)) hS hok
                      · rw [if_neg h22] at hok
                        refine lv_iload hx hb d_MoPaper_plain_134 (lv_at hl 0 rfl) ?_
                        refine lv_bipush (v := 57) hx hb d_MoPaper_plain_136 (by decide) ?_
                        refine lv_icmp_le hx hb d_MoPaper_plain_138 rfl (fun h23 => ?_) (fun h23 => ?_)
                        · rw [if_pos h23] at hok
                          exact J17 _ _ _ (lv_sub hl [0, 1, 2, 3, 4, 5, 6] rfl) (sub3 hP hD [0, 1, 2] (by decide)) hS hok
                        · rw [if_neg h23] at hok
                          exact J20 _ _ _ (lv_sub hl [0, 1, 2, 3, 4, 5, 6] rfl) (sub3 hP hD [0, 1, 2] (by decide)) hS hok
                    refine lv_icmp_lt hx hb d_MoPaper_plain_117 rfl (fun h24 => ?_) (fun h24 => ?_)
                    · rw [if_pos h24] at hok
                      exact J19 _ _ _ (lv_sub hl [0, 1, 2, 3, 4, 5, 6] rfl) (sub3 hP hD [0, 1, 2] (by decide)) hS hok
                    · rw [if_neg h24] at hok
                      refine lv_iload hx hb d_MoPaper_plain_120 (lv_at hl 0 rfl) ?_
                      refine lv_bipush (v := 90) hx hb d_MoPaper_plain_122 (by decide) ?_
                      refine lv_icmp_le hx hb d_MoPaper_plain_124 rfl (fun h25 => ?_) (fun h25 => ?_)
                      · rw [if_pos h25] at hok
                        exact J17 _ _ _ (lv_sub hl [0, 1, 2, 3, 4, 5, 6] rfl) (sub3 hP hD [0, 1, 2] (by decide)) hS hok
                      · rw [if_neg h25] at hok
                        exact J19 _ _ _ (lv_sub hl [0, 1, 2, 3, 4, 5, 6] rfl) (sub3 hP hD [0, 1, 2] (by decide)) hS hok
                  refine lv_icmp_lt hx hb d_MoPaper_plain_103 rfl (fun h26 => ?_) (fun h26 => ?_)
                  · rw [if_pos h26] at hok
                    exact J18 _ _ _ (lv_sub hl [0, 1, 2, 3, 4, 5, 6] rfl) (sub3 hP hD [0, 1, 2] (by decide)) hS hok
                  · rw [if_neg h26] at hok
                    refine lv_iload hx hb d_MoPaper_plain_106 (lv_at hl 0 rfl) ?_
                    refine lv_bipush (v := 122) hx hb d_MoPaper_plain_108 (by decide) ?_
                    refine lv_icmp_le hx hb d_MoPaper_plain_110 rfl (fun h27 => ?_) (fun h27 => ?_)
                    · rw [if_pos h27] at hok
                      exact J17 _ _ _ (lv_sub hl [0, 1, 2, 3, 4, 5, 6] rfl) (sub3 hP hD [0, 1, 2] (by decide)) hS hok
                    · rw [if_neg h27] at hok
                      exact J18 _ _ _ (lv_sub hl [0, 1, 2, 3, 4, 5, 6] rfl) (sub3 hP hD [0, 1, 2] (by decide)) hS hok
            exact J10 n H locs ls (0 : Int32) hl ⟨hP, hD⟩ hS hok
          · rw [if_neg h9] at hok
            refine lv_iload_n hx hb d_MoPaper_plain_68 rfl (lv_at hl 0 rfl) ?_
            refine lv_bipush (v := 122) hx hb d_MoPaper_plain_69 (by decide) ?_
            refine lv_icmp_gt hx hb d_MoPaper_plain_71 rfl (fun h28 => ?_) (fun h28 => ?_)
            · rw [if_pos h28] at hok
              refine lv_iconst (v := 0) hx hb d_MoPaper_plain_78 (by decide) ?_
              refine lv_istore hx hb d_MoPaper_plain_79 hl (by decide) rfl (fun ls hl => ?_)
              have hl : lv_has ls 8 [(4, .int 0), (3, .int r3), (2, .int r1), (0, .ref nms), (1, .int kk)] := hl
              refine lv_iconst (v := 0) hx hb d_MoPaper_plain_81 (by decide) ?_
              refine lv_istore hx hb d_MoPaper_plain_82 hl (by decide) rfl (fun ls hl => ?_)
              have hl : lv_has ls 8 [(5, .int 0), (4, .int 0), (3, .int r3), (2, .int r1), (0, .ref nms), (1, .int kk)] := hl
              have J29 : ∀ (kf29 : Nat) (H : Heap) (locs : List Loc) (ls : Array Slot) (x5_29 : Int32), lv_has ls 8 [(5, .int x5_29), (4, .int 0), (3, .int r3), (2, .int r1), (0, .ref nms), (1, .int kk)] → PD g A H [(nms, .inr (10, [.ref nms_text, .ref nms_from, .ref nms_next, .ref nms_first, .int nms_size, .int nms_texted])), (nms_text, .inl (cs 1, nms_text_n, .inl nms_text_f)), (nms_from, .inl (cs 0, nms_from_n, .inl nms_from_f))] → va_S A s.heap H locs → p_MoPaper_plain_84_29 n kk nms_size nms_texted nms_text_n nms_text_f nms_from_n nms_from_f r1 kf29 x5_29 = some r → W p l e (headSpec (.code y_MoPaper_plain b_MoPaper_plain 8 (some .boolean) :: GW) { frames := 5, cells := 0, slots := 0, locals := 111 }).room s m ([.ref nms, .int kk] : List Value).toArray below meth c H locs 0 0 Q (F0 m 84 ls []) := by
                intro kf29
                induction kf29 with
                | zero => intro H locs ls x5_29 hl ⟨hP, hD⟩ hS hok; rw [p_MoPaper_plain_84_29] at hok; cases hok
                | succ kf29 ih29 =>
                  intro H locs ls x5_29 hl ⟨hP, hD⟩ hS hok
                  rw [p_MoPaper_plain_84_29] at hok
                  refine lv_iload hx hb d_MoPaper_plain_84 (lv_at hl 0 rfl) ?_
                  refine lv_iload_n hx hb d_MoPaper_plain_86 rfl (lv_at hl 3 rfl) ?_
                  refine lv_icmp_ge hx hb d_MoPaper_plain_87 rfl (fun h30 => ?_) (fun h30 => ?_)
                  · rw [if_pos h30] at hok
                    refine lv_iconst (v := 1) hx hb d_MoPaper_plain_184 (by decide) ?_
                    have hq := Option.some.inj hok
                    have hq0 := hq
                    subst hq0
                    obtain ⟨hP9, hD9⟩ := sub2 (ws' := [(nms, .inr (10, [.ref nms_text, .ref nms_from, .ref nms_next, .ref nms_first, .int nms_size, .int nms_texted])), (nms_text, .inl (cs 1, nms_text_n, .inl nms_text_f)), (nms_from, .inl (cs 0, nms_from_n, .inl nms_from_f))]) hP hD [0, 1, 2] rfl (by decide) rfl
                    rw [hQ]
                    exact W.zret (v := 1) hx hb hr rfl (fun t ht hW => ⟨⟨_, (), rfl, rfl, by rw [ht]; exact hP9, hD9⟩, hS.F ht⟩) hS.2.2 d_MoPaper_plain_185
                  · rw [if_neg h30] at hok
                    refine lv_aload_n hx hb d_MoPaper_plain_90 rfl (lv_at hl 4 rfl) ?_
                    refine lv_iload_n hx hb d_MoPaper_plain_91 rfl (lv_at hl 5 rfl) ?_
                    refine lv_iload hx hb d_MoPaper_plain_92 (lv_at hl 0 rfl) ?_
                    obtain ⟨r31, hc31, hok⟩ := bd_some hok
                    obtain ⟨hPc, hDc, hFc⟩ := cut0 (wc := [(nms, .inr (10, [.ref nms_text, .ref nms_from, .ref nms_next, .ref nms_first, .int nms_size, .int nms_texted])), (nms_text, .inl (cs 1, nms_text_n, .inl nms_text_f)), (nms_from, .inl (cs 0, nms_from_n, .inl nms_from_f))]) hP hD hS hA [0, 1, 2] (by decide) rfl
                    refine va_calli (va_runV (As := [.int kk, .int x5_29]) (rest := []) ⟨hx, hb, hml, hown, hg⟩ (c_MoNames_at l g cs ka nms_next nms_first nms nms_text nms_from H.size kk x5_29 nms_size nms_texted nms_text_n nms_text_f nms_from_n nms_from_f r31 hc31) (cwV (C := R_MoNames) 2 hg (gw_V wd_748 wd_728 wd_729 wd_717 wd_726) rfl rfl rfl (by decide +kernel) ⟨Nat.le_of_ble_eq_true rfl, Nat.le_of_ble_eq_true rfl⟩) ⟨gP_blind, va_recv (q0 := 0) (ci := 10) (q := (R_MoNames, F_MoNames, 6)) hK hP rfl rfl, gP_pre hPc hDc hK hgl hkn hkr hS hFc⟩ rfl rfl hl.1 rfl (lv_room (Nat.le_of_ble_eq_true rfl)) d_MoPaper_plain_94 ⟨Nat.le_of_ble_eq_true rfl, Nat.le_of_ble_eq_true rfl⟩) hS (fun q _ h => hFc q h) hFc (fun r31' u t H locs ht hvm hr31 hB hz1 hk1 hS => ?_)
                    subst hr31
                    rw [ht] at hB
                    obtain ⟨hP1, hD1⟩ := hB
                    obtain ⟨hP, hD⟩ := jn_A hP hD [0, 1, 2] [] rfl rfl (by decide) (by decide) hk1 hFc hP1 hD1
                    obtain ⟨hP, hD⟩ : PD g A H [(nms, .inr (10, [.ref nms_text, .ref nms_from, .ref nms_next, .ref nms_first, .int nms_size, .int nms_texted])), (nms_text, .inl (cs 1, nms_text_n, .inl nms_text_f)), (nms_from, .inl (cs 0, nms_from_n, .inl nms_from_f))] := ⟨hP, hD⟩
                    refine lv_istore hx hb d_MoPaper_plain_97 hl (by decide) rfl (fun ls hl => ?_)
                    have hl : lv_has ls 8 [(6, .int r31), (5, .int x5_29), (4, .int 0), (3, .int r3), (2, .int r1), (0, .ref nms), (1, .int kk)] := hl
                    refine lv_iload hx hb d_MoPaper_plain_99 (lv_at hl 0 rfl) ?_
                    refine lv_bipush (v := 97) hx hb d_MoPaper_plain_101 (by decide) ?_
                    have J32 : ∀ (H : Heap) (locs : List Loc) (ls : Array Slot) (y0_32 : Int32), lv_has ls 8 [(6, .int r31), (5, .int x5_29), (4, .int 0), (3, .int r3), (2, .int r1), (0, .ref nms), (1, .int kk)] → PD g A H [(nms, .inr (10, [.ref nms_text, .ref nms_from, .ref nms_next, .ref nms_first, .int nms_size, .int nms_texted])), (nms_text, .inl (cs 1, nms_text_n, .inl nms_text_f)), (nms_from, .inl (cs 0, nms_from_n, .inl nms_from_f))] → va_S A s.heap H locs → p_MoPaper_plain_153_32 n x5_29 r31 (fun w0 => p_MoPaper_plain_84_29 n kk nms_size nms_texted nms_text_n nms_text_f nms_from_n nms_from_f r1 kf29 w0) y0_32 = some r → W p l e (headSpec (.code y_MoPaper_plain b_MoPaper_plain 8 (some .boolean) :: GW) { frames := 5, cells := 0, slots := 0, locals := 111 }).room s m ([.ref nms, .int kk] : List Value).toArray below meth c H locs 0 0 Q (F0 m 153 ls [.int y0_32]) := by
                      intro H locs ls y0_32 hl ⟨hP, hD⟩ hS hok
                      unfold p_MoPaper_plain_153_32 at hok
                      refine lv_istore hx hb d_MoPaper_plain_153 hl (by decide) rfl (fun ls hl => ?_)
                      have hl : lv_has ls 8 [(7, .int y0_32), (6, .int r31), (5, .int x5_29), (4, .int 0), (3, .int r3), (2, .int r1), (0, .ref nms), (1, .int kk)] := hl
                      refine lv_iload hx hb d_MoPaper_plain_155 (lv_at hl 3 rfl) ?_
                      refine lv_if_eq hx hb d_MoPaper_plain_157 rfl (fun h33 => ?_) (fun h33 => ?_)
                      · refine lv_iload hx hb d_MoPaper_plain_168 (lv_at hl 1 rfl) ?_
                        obtain ⟨r34, hc34, hok⟩ := bd_some hok
                        obtain ⟨hPc, hDc, hFc⟩ := cut0 (wc := []) hP hD hS hA [] (by decide) rfl
                        refine va_calli (va_runS (As := [.int r31]) (rest := []) ⟨hx, hb, hml, hown, hg⟩ (c_MoReader_symbol l g cs ka H.size n r31 r34 hc34) (va_cwS 1 hg (gw_S wd_755 wd_756 wd_754 wd_753) rfl rfl rfl (by decide +kernel) ⟨Nat.le_of_ble_eq_true rfl, Nat.le_of_ble_eq_true rfl⟩) ⟨gP_blind, gP_pre hPc hDc hK hgl hkn hkr hS hFc⟩ rfl rfl hl.1 rfl (lv_room (Nat.le_of_ble_eq_true rfl)) d_MoPaper_plain_170 ⟨Nat.le_of_ble_eq_true rfl, Nat.le_of_ble_eq_true rfl⟩) hS (fun q _ h => hFc q h) hFc (fun r34' u t H locs ht hvm hr34 hB hz1 hk1 hS => ?_)
                        subst hr34
                        rw [ht] at hB
                        obtain ⟨hP1, hD1⟩ := hB
                        obtain ⟨hP, hD⟩ := jn_A hP hD [] [0, 1, 2] rfl rfl (by decide) (by decide) hk1 hFc hP1 hD1
                        obtain ⟨hP, hD⟩ : PD g A H [(nms, .inr (10, [.ref nms_text, .ref nms_from, .ref nms_next, .ref nms_first, .int nms_size, .int nms_texted])), (nms_text, .inl (cs 1, nms_text_n, .inl nms_text_f)), (nms_from, .inl (cs 0, nms_from_n, .inl nms_from_f))] := ⟨hP, hD⟩
                        refine lv_if_ne hx hb d_MoPaper_plain_173 rfl (fun h35 => ?_) (fun h35 => ?_)
                        · rw [if_neg h35] at hok
                          refine lv_iinc (k := 2) (v := x5_29 + 1) hx hb d_MoPaper_plain_178 hl rfl rfl (by decide) rfl (fun ls hl => ?_)
                          have hl : lv_has ls 8 [(5, .int (x5_29 + 1)), (7, .int y0_32), (6, .int r31), (4, .int 0), (3, .int r3), (2, .int r1), (0, .ref nms), (1, .int kk)] := hl
                          refine lv_goto hx hb d_MoPaper_plain_181 rfl ?_
                          exact ih29 _ _ _ (x5_29 + 1) (lv_sub hl [0, 3, 4, 5, 6, 7] rfl) (sub3 hP hD [0, 1, 2] (by decide)) hS hok
                        · rw [if_pos h35] at hok
                          refine lv_iconst (v := 0) hx hb d_MoPaper_plain_176 (by decide) ?_
                          have hq := Option.some.inj hok
                          have hq0 := hq
                          subst hq0
                          obtain ⟨hP9, hD9⟩ := sub2 (ws' := [(nms, .inr (10, [.ref nms_text, .ref nms_from, .ref nms_next, .ref nms_first, .int nms_size, .int nms_texted])), (nms_text, .inl (cs 1, nms_text_n, .inl nms_text_f)), (nms_from, .inl (cs 0, nms_from_n, .inl nms_from_f))]) hP hD [0, 1, 2] rfl (by decide) rfl
                          rw [hQ]
                          exact W.zret (v := 0) hx hb hr rfl (fun t ht hW => ⟨⟨_, (), rfl, rfl, by rw [ht]; exact hP9, hD9⟩, hS.F ht⟩) hS.2.2 d_MoPaper_plain_177
                      · exact absurd h33 (by decide)
                    have J36 : ∀ (H : Heap) (locs : List Loc) (ls : Array Slot), lv_has ls 8 [(6, .int r31), (5, .int x5_29), (4, .int 0), (3, .int r3), (2, .int r1), (0, .ref nms), (1, .int kk)] → PD g A H [(nms, .inr (10, [.ref nms_text, .ref nms_from, .ref nms_next, .ref nms_first, .int nms_size, .int nms_texted])), (nms_text, .inl (cs 1, nms_text_n, .inl nms_text_f)), (nms_from, .inl (cs 0, nms_from_n, .inl nms_from_f))] → va_S A s.heap H locs → p_MoPaper_plain_148_36 n x5_29 r31 (fun w0 => p_MoPaper_plain_84_29 n kk nms_size nms_texted nms_text_n nms_text_f nms_from_n nms_from_f r1 kf29 w0) = some r → W p l e (headSpec (.code y_MoPaper_plain b_MoPaper_plain 8 (some .boolean) :: GW) { frames := 5, cells := 0, slots := 0, locals := 111 }).room s m ([.ref nms, .int kk] : List Value).toArray below meth c H locs 0 0 Q (F0 m 148 ls []) := by
                      intro H locs ls hl ⟨hP, hD⟩ hS hok
                      unfold p_MoPaper_plain_148_36 at hok
                      refine lv_iconst (v := 1) hx hb d_MoPaper_plain_148 (by decide) ?_
                      refine lv_goto hx hb d_MoPaper_plain_149 rfl ?_
                      exact J32 _ _ _ (1 : Int32) (lv_sub hl [0, 1, 2, 3, 4, 5, 6] rfl) (sub3 hP hD [0, 1, 2] (by decide)) hS hok
                    have J37 : ∀ (H : Heap) (locs : List Loc) (ls : Array Slot), lv_has ls 8 [(6, .int r31), (5, .int x5_29), (4, .int 0), (3, .int r3), (2, .int r1), (0, .ref nms), (1, .int kk)] → PD g A H [(nms, .inr (10, [.ref nms_text, .ref nms_from, .ref nms_next, .ref nms_first, .int nms_size, .int nms_texted])), (nms_text, .inl (cs 1, nms_text_n, .inl nms_text_f)), (nms_from, .inl (cs 0, nms_from_n, .inl nms_from_f))] → va_S A s.heap H locs → p_MoPaper_plain_113_37 n x5_29 r31 (fun w0 => p_MoPaper_plain_84_29 n kk nms_size nms_texted nms_text_n nms_text_f nms_from_n nms_from_f r1 kf29 w0) = some r → W p l e (headSpec (.code y_MoPaper_plain b_MoPaper_plain 8 (some .boolean) :: GW) { frames := 5, cells := 0, slots := 0, locals := 111 }).room s m ([.ref nms, .int kk] : List Value).toArray below meth c H locs 0 0 Q (F0 m 113 ls []) := by
                      intro H locs ls hl ⟨hP, hD⟩ hS hok
                      unfold p_MoPaper_plain_113_37 at hok
                      refine lv_iload hx hb d_MoPaper_plain_113 (lv_at hl 0 rfl) ?_
                      refine lv_bipush (v := 65) hx hb d_MoPaper_plain_115 (by decide) ?_
                      have J38 : ∀ (H : Heap) (locs : List Loc) (ls : Array Slot), lv_has ls 8 [(6, .int r31), (5, .int x5_29), (4, .int 0), (3, .int r3), (2, .int r1), (0, .ref nms), (1, .int kk)] → PD g A H [(nms, .inr (10, [.ref nms_text, .ref nms_from, .ref nms_next, .ref nms_first, .int nms_size, .int nms_texted])), (nms_text, .inl (cs 1, nms_text_n, .inl nms_text_f)), (nms_from, .inl (cs 0, nms_from_n, .inl nms_from_f))] → va_S A s.heap H locs → p_MoPaper_plain_127_38 n x5_29 r31 (fun w0 => p_MoPaper_plain_84_29 n kk nms_size nms_texted nms_text_n nms_text_f nms_from_n nms_from_f r1 kf29 w0) = some r → W p l e (headSpec (.code y_MoPaper_plain b_MoPaper_plain 8 (some .boolean) :: GW) { frames := 5, cells := 0, slots := 0, locals := 111 }).room s m ([.ref nms, .int kk] : List Value).toArray below meth c H locs 0 0 Q (F0 m 127 ls []) := by
                        intro H locs ls hl ⟨hP, hD⟩ hS hok
                        unfold p_MoPaper_plain_127_38 at hok
                        refine lv_iload hx hb d_MoPaper_plain_127 (lv_at hl 0 rfl) ?_
                        refine lv_bipush (v := 48) hx hb d_MoPaper_plain_129 (by decide) ?_
                        have J39 : ∀ (H : Heap) (locs : List Loc) (ls : Array Slot), lv_has ls 8 [(6, .int r31), (5, .int x5_29), (4, .int 0), (3, .int r3), (2, .int r1), (0, .ref nms), (1, .int kk)] → PD g A H [(nms, .inr (10, [.ref nms_text, .ref nms_from, .ref nms_next, .ref nms_first, .int nms_size, .int nms_texted])), (nms_text, .inl (cs 1, nms_text_n, .inl nms_text_f)), (nms_from, .inl (cs 0, nms_from_n, .inl nms_from_f))] → va_S A s.heap H locs → p_MoPaper_plain_141_39 n x5_29 r31 (fun w0 => p_MoPaper_plain_84_29 n kk nms_size nms_texted nms_text_n nms_text_f nms_from_n nms_from_f r1 kf29 w0) = some r → W p l e (headSpec (.code y_MoPaper_plain b_MoPaper_plain 8 (some .boolean) :: GW) { frames := 5, cells := 0, slots := 0, locals := 111 }).room s m ([.ref nms, .int kk] : List Value).toArray below meth c H locs 0 0 Q (F0 m 141 ls []) := by
                          intro H locs ls hl ⟨hP, hD⟩ hS hok
                          unfold p_MoPaper_plain_141_39 at hok
                          refine lv_iload hx hb d_MoPaper_plain_141 (lv_at hl 0 rfl) ?_
                          refine lv_bipush (v := 95) hx hb d_MoPaper_plain_143 (by decide) ?_
                          refine lv_icmp_ne hx hb d_MoPaper_plain_145 rfl (fun h40 => ?_) (fun h40 => ?_)
                          · rw [if_neg h40] at hok
                            refine lv_iconst (v := 0) hx hb d_MoPaper_plain_152 (by decide) ?_
                            exact J32 _ _ _ (0 : Int32) (lv_sub hl [0, 1, 2, 3, 4, 5, 6] rfl) (sub3 hP hD [0, 1, 2] (by decide)) hS hok
                          · rw [if_pos h40] at hok
                            exact J36 _ _ _ (lv_sub hl [0, 1, 2, 3, 4, 5, 6] rfl) (sub3 hP hD [0, 1, 2] (by decide)) hS hok
                        refine lv_icmp_lt hx hb d_MoPaper_plain_131 rfl (fun h41 => ?_) (fun h41 => ?_)
                        · rw [if_pos h41] at hok
                          exact J39 _ _ _ (lv_sub hl [0, 1, 2, 3, 4, 5, 6] rfl) (sub3 hP hD [0, 1, 2] (by decide)) hS hok
                        · rw [if_neg h41] at hok
                          refine lv_iload hx hb d_MoPaper_plain_134 (lv_at hl 0 rfl) ?_
                          refine lv_bipush (v := 57) hx hb d_MoPaper_plain_136 (by decide) ?_
                          refine lv_icmp_le hx hb d_MoPaper_plain_138 rfl (fun h42 => ?_) (fun h42 => ?_)
                          · rw [if_pos h42] at hok
                            exact J36 _ _ _ (lv_sub hl [0, 1, 2, 3, 4, 5, 6] rfl) (sub3 hP hD [0, 1, 2] (by decide)) hS hok
                          · rw [if_neg h42] at hok
                            exact J39 _ _ _ (lv_sub hl [0, 1, 2, 3, 4, 5, 6] rfl) (sub3 hP hD [0, 1, 2] (by decide)) hS hok
                      refine lv_icmp_lt hx hb d_MoPaper_plain_117 rfl (fun h43 => ?_) (fun h43 => ?_)
                      · rw [if_pos h43] at hok
                        exact J38 _ _ _ (lv_sub hl [0, 1, 2, 3, 4, 5, 6] rfl) (sub3 hP hD [0, 1, 2] (by decide)) hS hok
                      · rw [if_neg h43] at hok
                        refine lv_iload hx hb d_MoPaper_plain_120 (lv_at hl 0 rfl) ?_
                        refine lv_bipush (v := 90) hx hb d_MoPaper_plain_122 (by decide) ?_
                        refine lv_icmp_le hx hb d_MoPaper_plain_124 rfl (fun h44 => ?_) (fun h44 => ?_)
                        · rw [if_pos h44] at hok
                          exact J36 _ _ _ (lv_sub hl [0, 1, 2, 3, 4, 5, 6] rfl) (sub3 hP hD [0, 1, 2] (by decide)) hS hok
                        · rw [if_neg h44] at hok
                          exact J38 _ _ _ (lv_sub hl [0, 1, 2, 3, 4, 5, 6] rfl) (sub3 hP hD [0, 1, 2] (by decide)) hS hok
                    refine lv_icmp_lt hx hb d_MoPaper_plain_103 rfl (fun h45 => ?_) (fun h45 => ?_)
                    · rw [if_pos h45] at hok
                      exact J37 _ _ _ (lv_sub hl [0, 1, 2, 3, 4, 5, 6] rfl) (sub3 hP hD [0, 1, 2] (by decide)) hS hok
                    · rw [if_neg h45] at hok
                      refine lv_iload hx hb d_MoPaper_plain_106 (lv_at hl 0 rfl) ?_
                      refine lv_bipush (v := 122) hx hb d_MoPaper_plain_108 (by decide) ?_
                      refine lv_icmp_le hx hb d_MoPaper_plain_110 rfl (fun h46 => ?_) (fun h46 => ?_)
                      · rw [if_pos h46] at hok
                        exact J36 _ _ _ (lv_sub hl [0, 1, 2, 3, 4, 5, 6] rfl) (sub3 hP hD [0, 1, 2] (by decide)) hS hok
                      · rw [if_neg h46] at hok
                        exact J37 _ _ _ (lv_sub hl [0, 1, 2, 3, 4, 5, 6] rfl) (sub3 hP hD [0, 1, 2] (by decide)) hS hok
              exact J29 n H locs ls (0 : Int32) hl ⟨hP, hD⟩ hS hok
            · rw [if_neg h28] at hok
              refine lv_iconst (v := 1) hx hb d_MoPaper_plain_74 (by decide) ?_
              refine lv_goto hx hb d_MoPaper_plain_75 rfl ?_
              refine lv_istore hx hb d_MoPaper_plain_79 hl (by decide) rfl (fun ls hl => ?_)
              have hl : lv_has ls 8 [(4, .int 1), (3, .int r3), (2, .int r1), (0, .ref nms), (1, .int kk)] := hl
              refine lv_iconst (v := 0) hx hb d_MoPaper_plain_81 (by decide) ?_
              refine lv_istore hx hb d_MoPaper_plain_82 hl (by decide) rfl (fun ls hl => ?_)
              have hl : lv_has ls 8 [(5, .int 0), (4, .int 1), (3, .int r3), (2, .int r1), (0, .ref nms), (1, .int kk)] := hl
              have J47 : ∀ (kf47 : Nat) (H : Heap) (locs : List Loc) (ls : Array Slot) (x5_47 : Int32), lv_has ls 8 [(5, .int x5_47), (4, .int 1), (3, .int r3), (2, .int r1), (0, .ref nms), (1, .int kk)] → PD g A H [(nms, .inr (10, [.ref nms_text, .ref nms_from, .ref nms_next, .ref nms_first, .int nms_size, .int nms_texted])), (nms_text, .inl (cs 1, nms_text_n, .inl nms_text_f)), (nms_from, .inl (cs 0, nms_from_n, .inl nms_from_f))] → va_S A s.heap H locs → p_MoPaper_plain_84_47 n kk nms_size nms_texted nms_text_n nms_text_f nms_from_n nms_from_f r1 kf47 x5_47 = some r → W p l e (headSpec (.code y_MoPaper_plain b_MoPaper_plain 8 (some .boolean) :: GW) { frames := 5, cells := 0, slots := 0, locals := 111 }).room s m ([.ref nms, .int kk] : List Value).toArray below meth c H locs 0 0 Q (F0 m 84 ls []) := by
                intro kf47
                induction kf47 with
                | zero => intro H locs ls x5_47 hl ⟨hP, hD⟩ hS hok; rw [p_MoPaper_plain_84_47] at hok; cases hok
                | succ kf47 ih47 =>
                  intro H locs ls x5_47 hl ⟨hP, hD⟩ hS hok
                  rw [p_MoPaper_plain_84_47] at hok
                  refine lv_iload hx hb d_MoPaper_plain_84 (lv_at hl 0 rfl) ?_
                  refine lv_iload_n hx hb d_MoPaper_plain_86 rfl (lv_at hl 3 rfl) ?_
                  refine lv_icmp_ge hx hb d_MoPaper_plain_87 rfl (fun h48 => ?_) (fun h48 => ?_)
                  · rw [if_pos h48] at hok
                    refine lv_iconst (v := 1) hx hb d_MoPaper_plain_184 (by decide) ?_
                    have hq := Option.some.inj hok
                    have hq0 := hq
                    subst hq0
                    obtain ⟨hP9, hD9⟩ := sub2 (ws' := [(nms, .inr (10, [.ref nms_text, .ref nms_from, .ref nms_next, .ref nms_first, .int nms_size, .int nms_texted])), (nms_text, .inl (cs 1, nms_text_n, .inl nms_text_f)), (nms_from, .inl (cs 0, nms_from_n, .inl nms_from_f))]) hP hD [0, 1, 2] rfl (by decide) rfl
                    rw [hQ]
                    exact W.zret (v := 1) hx hb hr rfl (fun t ht hW => ⟨⟨_, (), rfl, rfl, by rw [ht]; exact hP9, hD9⟩, hS.F ht⟩) hS.2.2 d_MoPaper_plain_185
                  · rw [if_neg h48] at hok
                    refine lv_aload_n hx hb d_MoPaper_plain_90 rfl (lv_at hl 4 rfl) ?_
                    refine lv_iload_n hx hb d_MoPaper_plain_91 rfl (lv_at hl 5 rfl) ?_
                    refine lv_iload hx hb d_MoPaper_plain_92 (lv_at hl 0 rfl) ?_
                    obtain ⟨r49, hc49, hok⟩ := bd_some hok
                    obtain ⟨hPc, hDc, hFc⟩ := cut0 (wc := [(nms, .inr (10, [.ref nms_text, .ref nms_from, .ref nms_next, .ref nms_first, .int nms_size, .int nms_texted])), (nms_text, .inl (cs 1, nms_text_n, .inl nms_text_f)), (nms_from, .inl (cs 0, nms_from_n, .inl nms_from_f))]) hP hD hS hA [0, 1, 2] (by decide) rfl
                    refine va_calli (va_runV (As := [.int kk, .int x5_47]) (rest := []) ⟨hx, hb, hml, hown, hg⟩ (c_MoNames_at l g cs ka nms_next nms_first nms nms_text nms_from H.size kk x5_47 nms_size nms_texted nms_text_n nms_text_f nms_from_n nms_from_f r49 hc49) (cwV (C := R_MoNames) 2 hg (gw_V wd_748 wd_728 wd_729 wd_717 wd_726) rfl rfl rfl (by decide +kernel) ⟨Nat.le_of_ble_eq_true rfl, Nat.le_of_ble_eq_true rfl⟩) ⟨gP_blind, va_recv (q0 := 0) (ci := 10) (q := (R_MoNames, F_MoNames, 6)) hK hP rfl rfl, gP_pre hPc hDc hK hgl hkn hkr hS hFc⟩ rfl rfl hl.1 rfl (lv_room (Nat.le_of_ble_eq_true rfl)) d_MoPaper_plain_94 ⟨Nat.le_of_ble_eq_true rfl, Nat.le_of_ble_eq_true rfl⟩) hS (fun q _ h => hFc q h) hFc (fun r49' u t H locs ht hvm hr49 hB hz1 hk1 hS => ?_)
                    subst hr49
                    rw [ht] at hB
                    obtain ⟨hP1, hD1⟩ := hB
                    obtain ⟨hP, hD⟩ := jn_A hP hD [0, 1, 2] [] rfl rfl (by decide) (by decide) hk1 hFc hP1 hD1
                    obtain ⟨hP, hD⟩ : PD g A H [(nms, .inr (10, [.ref nms_text, .ref nms_from, .ref nms_next, .ref nms_first, .int nms_size, .int nms_texted])), (nms_text, .inl (cs 1, nms_text_n, .inl nms_text_f)), (nms_from, .inl (cs 0, nms_from_n, .inl nms_from_f))] := ⟨hP, hD⟩
                    refine lv_istore hx hb d_MoPaper_plain_97 hl (by decide) rfl (fun ls hl => ?_)
                    have hl : lv_has ls 8 [(6, .int r49), (5, .int x5_47), (4, .int 1), (3, .int r3), (2, .int r1), (0, .ref nms), (1, .int kk)] := hl
                    refine lv_iload hx hb d_MoPaper_plain_99 (lv_at hl 0 rfl) ?_
                    refine lv_bipush (v := 97) hx hb d_MoPaper_plain_101 (by decide) ?_
                    have J50 : ∀ (H : Heap) (locs : List Loc) (ls : Array Slot) (y0_50 : Int32), lv_has ls 8 [(6, .int r49), (5, .int x5_47), (4, .int 1), (3, .int r3), (2, .int r1), (0, .ref nms), (1, .int kk)] → PD g A H [(nms, .inr (10, [.ref nms_text, .ref nms_from, .ref nms_next, .ref nms_first, .int nms_size, .int nms_texted])), (nms_text, .inl (cs 1, nms_text_n, .inl nms_text_f)), (nms_from, .inl (cs 0, nms_from_n, .inl nms_from_f))] → va_S A s.heap H locs → p_MoPaper_plain_153_50 n x5_47 (fun w0 => p_MoPaper_plain_84_47 n kk nms_size nms_texted nms_text_n nms_text_f nms_from_n nms_from_f r1 kf47 w0) y0_50 = some r → W p l e (headSpec (.code y_MoPaper_plain b_MoPaper_plain 8 (some .boolean) :: GW) { frames := 5, cells := 0, slots := 0, locals := 111 }).room s m ([.ref nms, .int kk] : List Value).toArray below meth c H locs 0 0 Q (F0 m 153 ls [.int y0_50]) := by
                      intro H locs ls y0_50 hl ⟨hP, hD⟩ hS hok
                      unfold p_MoPaper_plain_153_50 at hok
                      refine lv_istore hx hb d_MoPaper_plain_153 hl (by decide) rfl (fun ls hl => ?_)
                      have hl : lv_has ls 8 [(7, .int y0_50), (6, .int r49), (5, .int x5_47), (4, .int 1), (3, .int r3), (2, .int r1), (0, .ref nms), (1, .int kk)] := hl
                      refine lv_iload hx hb d_MoPaper_plain_155 (lv_at hl 3 rfl) ?_
                      refine lv_if_eq hx hb d_MoPaper_plain_157 rfl (fun h51 => ?_) (fun h51 => ?_)
                      · exact absurd h51 (by decide)
                      · refine lv_iload hx hb d_MoPaper_plain_160 (lv_at hl 0 rfl) ?_
                        refine lv_if_ne hx hb d_MoPaper_plain_162 rfl (fun h52 => ?_) (fun h52 => ?_)
                        · rw [if_neg h52] at hok
                          refine lv_iinc (k := 2) (v := x5_47 + 1) hx hb d_MoPaper_plain_178 hl rfl rfl (by decide) rfl (fun ls hl => ?_)
                          have hl : lv_has ls 8 [(5, .int (x5_47 + 1)), (7, .int y0_50), (6, .int r49), (4, .int 1), (3, .int r3), (2, .int r1), (0, .ref nms), (1, .int kk)] := hl
                          refine lv_goto hx hb d_MoPaper_plain_181 rfl ?_
                          exact ih47 _ _ _ (x5_47 + 1) (lv_sub hl [0, 3, 4, 5, 6, 7] rfl) (sub3 hP hD [0, 1, 2] (by decide)) hS hok
                        · rw [if_pos h52] at hok
                          refine lv_goto hx hb d_MoPaper_plain_165 rfl ?_
                          refine lv_iconst (v := 0) hx hb d_MoPaper_plain_176 (by decide) ?_
                          have hq := Option.some.inj hok
                          have hq0 := hq
                          subst hq0
                          obtain ⟨hP9, hD9⟩ := sub2 (ws' := [(nms, .inr (10, [.ref nms_text, .ref nms_from, .ref nms_next, .ref nms_first, .int nms_size, .int nms_texted])), (nms_text, .inl (cs 1, nms_text_n, .inl nms_text_f)), (nms_from, .inl (cs 0, nms_from_n, .inl nms_from_f))]) hP hD [0, 1, 2] rfl (by decide) rfl
                          rw [hQ]
                          exact W.zret (v := 0) hx hb hr rfl (fun t ht hW => ⟨⟨_, (), rfl, rfl, by rw [ht]; exact hP9, hD9⟩, hS.F ht⟩) hS.2.2 d_MoPaper_plain_177
                    have J53 : ∀ (H : Heap) (locs : List Loc) (ls : Array Slot), lv_has ls 8 [(6, .int r49), (5, .int x5_47), (4, .int 1), (3, .int r3), (2, .int r1), (0, .ref nms), (1, .int kk)] → PD g A H [(nms, .inr (10, [.ref nms_text, .ref nms_from, .ref nms_next, .ref nms_first, .int nms_size, .int nms_texted])), (nms_text, .inl (cs 1, nms_text_n, .inl nms_text_f)), (nms_from, .inl (cs 0, nms_from_n, .inl nms_from_f))] → va_S A s.heap H locs → p_MoPaper_plain_148_53 n x5_47 (fun w0 => p_MoPaper_plain_84_47 n kk nms_size nms_texted nms_text_n nms_text_f nms_from_n nms_from_f r1 kf47 w0) = some r → W p l e (headSpec (.code y_MoPaper_plain b_MoPaper_plain 8 (some .boolean) :: GW) { frames := 5, cells := 0, slots := 0, locals := 111 }).room s m ([.ref nms, .int kk] : List Value).toArray below meth c H locs 0 0 Q (F0 m 148 ls []) := by
                      intro H locs ls hl ⟨hP, hD⟩ hS hok
                      unfold p_MoPaper_plain_148_53 at hok
                      refine lv_iconst (v := 1) hx hb d_MoPaper_plain_148 (by decide) ?_
                      refine lv_goto hx hb d_MoPaper_plain_149 rfl ?_
                      exact J50 _ _ _ (1 : Int32) (lv_sub hl [0, 1, 2, 3, 4, 5, 6] rfl) (sub3 hP hD [0, 1, 2] (by decide)) hS hok
                    have J54 : ∀ (H : Heap) (locs : List Loc) (ls : Array Slot), lv_has ls 8 [(6, .int r49), (5, .int x5_47), (4, .int 1), (3, .int r3), (2, .int r1), (0, .ref nms), (1, .int kk)] → PD g A H [(nms, .inr (10, [.ref nms_text, .ref nms_from, .ref nms_next, .ref nms_first, .int nms_size, .int nms_texted])), (nms_text, .inl (cs 1, nms_text_n, .inl nms_text_f)), (nms_from, .inl (cs 0, nms_from_n, .inl nms_from_f))] → va_S A s.heap H locs → p_MoPaper_plain_113_54 n x5_47 r49 (fun w0 => p_MoPaper_plain_84_47 n kk nms_size nms_texted nms_text_n nms_text_f nms_from_n nms_from_f r1 kf47 w0) = some r → W p l e (headSpec (.code y_MoPaper_plain b_MoPaper_plain 8 (some .boolean) :: GW) { frames := 5, cells := 0, slots := 0, locals := 111 }).room s m ([.ref nms, .int kk] : List Value).toArray below meth c H locs 0 0 Q (F0 m 113 ls []) := by
                      intro H locs ls hl ⟨hP, hD⟩ hS hok
                      unfold p_MoPaper_plain_113_54 at hok
                      refine lv_iload hx hb d_MoPaper_plain_113 (lv_at hl 0 rfl) ?_
                      refine lv_bipush (v := 65) hx hb d_MoPaper_plain_115 (by decide) ?_
                      have J55 : ∀ (H : Heap) (locs : List Loc) (ls : Array Slot), lv_has ls 8 [(6, .int r49), (5, .int x5_47), (4, .int 1), (3, .int r3), (2, .int r1), (0, .ref nms), (1, .int kk)] → PD g A H [(nms, .inr (10, [.ref nms_text, .ref nms_from, .ref nms_next, .ref nms_first, .int nms_size, .int nms_texted])), (nms_text, .inl (cs 1, nms_text_n, .inl nms_text_f)), (nms_from, .inl (cs 0, nms_from_n, .inl nms_from_f))] → va_S A s.heap H locs → p_MoPaper_plain_127_55 n x5_47 r49 (fun w0 => p_MoPaper_plain_84_47 n kk nms_size nms_texted nms_text_n nms_text_f nms_from_n nms_from_f r1 kf47 w0) = some r → W p l e (headSpec (.code y_MoPaper_plain b_MoPaper_plain 8 (some .boolean) :: GW) { frames := 5, cells := 0, slots := 0, locals := 111 }).room s m ([.ref nms, .int kk] : List Value).toArray below meth c H locs 0 0 Q (F0 m 127 ls []) := by
                        intro H locs ls hl ⟨hP, hD⟩ hS hok
                        unfold p_MoPaper_plain_127_55 at hok
                        refine lv_iload hx hb d_MoPaper_plain_127 (lv_at hl 0 rfl) ?_
                        refine lv_bipush (v := 48) hx hb d_MoPaper_plain_129 (by decide) ?_
                        have J56 : ∀ (H : Heap) (locs : List Loc) (ls : Array Slot), lv_has ls 8 [(6, .int r49), (5, .int x5_47), (4, .int 1), (3, .int r3), (2, .int r1), (0, .ref nms), (1, .int kk)] → PD g A H [(nms, .inr (10, [.ref nms_text, .ref nms_from, .ref nms_next, .ref nms_first, .int nms_size, .int nms_texted])), (nms_text, .inl (cs 1, nms_text_n, .inl nms_text_f)), (nms_from, .inl (cs 0, nms_from_n, .inl nms_from_f))] → va_S A s.heap H locs → p_MoPaper_plain_141_56 n x5_47 r49 (fun w0 => p_MoPaper_plain_84_47 n kk nms_size nms_texted nms_text_n nms_text_f nms_from_n nms_from_f r1 kf47 w0) = some r → W p l e (headSpec (.code y_MoPaper_plain b_MoPaper_plain 8 (some .boolean) :: GW) { frames := 5, cells := 0, slots := 0, locals := 111 }).room s m ([.ref nms, .int kk] : List Value).toArray below meth c H locs 0 0 Q (F0 m 141 ls []) := by
                          intro H locs ls hl ⟨hP, hD⟩ hS hok
                          unfold p_MoPaper_plain_141_56 at hok
                          refine lv_iload hx hb d_MoPaper_plain_141 (lv_at hl 0 rfl) ?_
                          refine lv_bipush (v := 95) hx hb d_MoPaper_plain_143 (by decide) ?_
                          refine lv_icmp_ne hx hb d_MoPaper_plain_145 rfl (fun h57 => ?_) (fun h57 => ?_)
                          · rw [if_neg h57] at hok
                            refine lv_iconst (v := 0) hx hb d_MoPaper_plain_152 (by decide) ?_
                            exact J50 _ _ _ (0 : Int32) (lv_sub hl [0, 1, 2, 3, 4, 5, 6] rfl) (sub3 hP hD [0, 1, 2] (by decide)) hS hok
                          · rw [if_pos h57] at hok
                            exact J53 _ _ _ (lv_sub hl [0, 1, 2, 3, 4, 5, 6] rfl) (sub3 hP hD [0, 1, 2] (by decide)) hS hok
                        refine lv_icmp_lt hx hb d_MoPaper_plain_131 rfl (fun h58 => ?_) (fun h58 => ?_)
                        · rw [if_pos h58] at hok
                          exact J56 _ _ _ (lv_sub hl [0, 1, 2, 3, 4, 5, 6] rfl) (sub3 hP hD [0, 1, 2] (by decide)) hS hok
                        · rw [if_neg h58] at hok
                          refine lv_iload hx hb d_MoPaper_plain_134 (lv_at hl 0 rfl) ?_
                          refine lv_bipush (v := 57) hx hb d_MoPaper_plain_136 (by decide) ?_
                          refine lv_icmp_le hx hb d_MoPaper_plain_138 rfl (fun h59 => ?_) (fun h59 => ?_)
                          · rw [if_pos h59] at hok
                            exact J53 _ _ _ (lv_sub hl [0, 1, 2, 3, 4, 5, 6] rfl) (sub3 hP hD [0, 1, 2] (by decide)) hS hok
                          · rw [if_neg h59] at hok
                            exact J56 _ _ _ (lv_sub hl [0, 1, 2, 3, 4, 5, 6] rfl) (sub3 hP hD [0, 1, 2] (by decide)) hS hok
                      refine lv_icmp_lt hx hb d_MoPaper_plain_117 rfl (fun h60 => ?_) (fun h60 => ?_)
                      · rw [if_pos h60] at hok
                        exact J55 _ _ _ (lv_sub hl [0, 1, 2, 3, 4, 5, 6] rfl) (sub3 hP hD [0, 1, 2] (by decide)) hS hok
                      · rw [if_neg h60] at hok
                        refine lv_iload hx hb d_MoPaper_plain_120 (lv_at hl 0 rfl) ?_
                        refine lv_bipush (v := 90) hx hb d_MoPaper_plain_122 (by decide) ?_
                        refine lv_icmp_le hx hb d_MoPaper_plain_124 rfl (fun h61 => ?_) (fun h61 => ?_)
                        · rw [if_pos h61] at hok
                          exact J53 _ _ _ (lv_sub hl [0, 1, 2, 3, 4, 5, 6] rfl) (sub3 hP hD [0, 1, 2] (by decide)) hS hok
                        · rw [if_neg h61] at hok
                          exact J55 _ _ _ (lv_sub hl [0, 1, 2, 3, 4, 5, 6] rfl) (sub3 hP hD [0, 1, 2] (by decide)) hS hok
                    refine lv_icmp_lt hx hb d_MoPaper_plain_103 rfl (fun h62 => ?_) (fun h62 => ?_)
                    · rw [if_pos h62] at hok
                      exact J54 _ _ _ (lv_sub hl [0, 1, 2, 3, 4, 5, 6] rfl) (sub3 hP hD [0, 1, 2] (by decide)) hS hok
                    · rw [if_neg h62] at hok
                      refine lv_iload hx hb d_MoPaper_plain_106 (lv_at hl 0 rfl) ?_
                      refine lv_bipush (v := 122) hx hb d_MoPaper_plain_108 (by decide) ?_
                      refine lv_icmp_le hx hb d_MoPaper_plain_110 rfl (fun h63 => ?_) (fun h63 => ?_)
                      · rw [if_pos h63] at hok
                        exact J53 _ _ _ (lv_sub hl [0, 1, 2, 3, 4, 5, 6] rfl) (sub3 hP hD [0, 1, 2] (by decide)) hS hok
                      · rw [if_neg h63] at hok
                        exact J54 _ _ _ (lv_sub hl [0, 1, 2, 3, 4, 5, 6] rfl) (sub3 hP hD [0, 1, 2] (by decide)) hS hok
              exact J47 n H locs ls (0 : Int32) hl ⟨hP, hD⟩ hS hok
        · rw [if_neg h8] at hok
          refine lv_iconst (v := 0) hx hb d_MoPaper_plain_60 (by decide) ?_
          have hq := Option.some.inj hok
          have hq0 := hq
          subst hq0
          obtain ⟨hP9, hD9⟩ := sub2 (ws' := [(nms, .inr (10, [.ref nms_text, .ref nms_from, .ref nms_next, .ref nms_first, .int nms_size, .int nms_texted])), (nms_text, .inl (cs 1, nms_text_n, .inl nms_text_f)), (nms_from, .inl (cs 0, nms_from_n, .inl nms_from_f))]) hP hD [0, 1, 2] rfl (by decide) rfl
          rw [hQ]
          exact W.zret (v := 0) hx hb hr rfl (fun t ht hW => ⟨⟨_, (), rfl, rfl, by rw [ht]; exact hP9, hD9⟩, hS.F ht⟩) hS.2.2 d_MoPaper_plain_61
      · rw [if_neg h6] at hok
        refine lv_iconst (v := 1) hx hb d_MoPaper_plain_48 (by decide) ?_
        have hq := Option.some.inj hok
        have hq0 := hq
        subst hq0
        obtain ⟨hP9, hD9⟩ := sub2 (ws' := [(nms, .inr (10, [.ref nms_text, .ref nms_from, .ref nms_next, .ref nms_first, .int nms_size, .int nms_texted])), (nms_text, .inl (cs 1, nms_text_n, .inl nms_text_f)), (nms_from, .inl (cs 0, nms_from_n, .inl nms_from_f))]) hP hD [0, 1, 2] rfl (by decide) rfl
        rw [hQ]
        exact W.zret (v := 1) hx hb hr rfl (fun t ht hW => ⟨⟨_, (), rfl, rfl, by rw [ht]; exact hP9, hD9⟩, hS.F ht⟩) hS.2.2 d_MoPaper_plain_49
    refine lv_icmp_ne hx hb d_MoPaper_plain_21 rfl (fun h64 => ?_) (fun h64 => ?_)
    · rw [if_neg h64] at hok
      exact J4 _ _ _ (lv_sub hl [0, 1, 2, 3] rfl) (sub3 hP hD [0, 1, 2] (by decide)) hS hok
    · rw [if_pos h64] at hok
      refine lv_iload_n hx hb d_MoPaper_plain_24 rfl (lv_at hl 0 rfl) ?_
      refine lv_bipush (v := 33) hx hb d_MoPaper_plain_25 (by decide) ?_
      refine lv_icmp_eq hx hb d_MoPaper_plain_27 rfl (fun h65 => ?_) (fun h65 => ?_)
      · rw [if_pos h65] at hok
        refine lv_iconst (v := 1) hx hb d_MoPaper_plain_36 (by decide) ?_
        have hq := Option.some.inj hok
        have hq0 := hq
        subst hq0
        obtain ⟨hP9, hD9⟩ := sub2 (ws' := [(nms, .inr (10, [.ref nms_text, .ref nms_from, .ref nms_next, .ref nms_first, .int nms_size, .int nms_texted])), (nms_text, .inl (cs 1, nms_text_n, .inl nms_text_f)), (nms_from, .inl (cs 0, nms_from_n, .inl nms_from_f))]) hP hD [0, 1, 2] rfl (by decide) rfl
        rw [hQ]
        exact W.zret (v := 1) hx hb hr rfl (fun t ht hW => ⟨⟨_, (), rfl, rfl, by rw [ht]; exact hP9, hD9⟩, hS.F ht⟩) hS.2.2 d_MoPaper_plain_37
      · rw [if_neg h65] at hok
        refine lv_iload_n hx hb d_MoPaper_plain_30 rfl (lv_at hl 0 rfl) ?_
        refine lv_bipush (v := 59) hx hb d_MoPaper_plain_31 (by decide) ?_
        refine lv_icmp_ne hx hb d_MoPaper_plain_33 rfl (fun h66 => ?_) (fun h66 => ?_)
        · rw [if_neg h66] at hok
          exact J4 _ _ _ (lv_sub hl [0, 1, 2, 3] rfl) (sub3 hP hD [0, 1, 2] (by decide)) hS hok
        · rw [if_pos h66] at hok
          refine lv_iconst (v := 1) hx hb d_MoPaper_plain_36 (by decide) ?_
          have hq := Option.some.inj hok
          have hq0 := hq
          subst hq0
          obtain ⟨hP9, hD9⟩ := sub2 (ws' := [(nms, .inr (10, [.ref nms_text, .ref nms_from, .ref nms_next, .ref nms_first, .int nms_size, .int nms_texted])), (nms_text, .inl (cs 1, nms_text_n, .inl nms_text_f)), (nms_from, .inl (cs 0, nms_from_n, .inl nms_from_f))]) hP hD [0, 1, 2] rfl (by decide) rfl
          rw [hQ]
          exact W.zret (v := 1) hx hb hr rfl (fun t ht hW => ⟨⟨_, (), rfl, rfl, by rw [ht]; exact hP9, hD9⟩, hS.F ht⟩) hS.2.2 d_MoPaper_plain_37
  · rw [if_pos h2] at hok
    refine lv_iconst (v := 0) hx hb d_MoPaper_plain_10 (by decide) ?_
    have hq := Option.some.inj hok
    have hq0 := hq
    subst hq0
    obtain ⟨hP9, hD9⟩ := sub2 (ws' := [(nms, .inr (10, [.ref nms_text, .ref nms_from, .ref nms_next, .ref nms_first, .int nms_size, .int nms_texted])), (nms_text, .inl (cs 1, nms_text_n, .inl nms_text_f)), (nms_from, .inl (cs 0, nms_from_n, .inl nms_from_f))]) hP hD [1, 0, 2] rfl (by decide) rfl
    rw [hQ]
    exact W.zret (v := 0) hx hb hr rfl (fun t ht hW => ⟨⟨_, (), rfl, rfl, by rw [ht]; exact hP9, hD9⟩, hS.F ht⟩) hS.2.2 d_MoPaper_plain_11

theorem d_MoPaper_name_0 : decode b_MoPaper_name 0 = .ok (.aload_n 1, 1) := by decide +kernel
theorem d_MoPaper_name_1 : decode b_MoPaper_name 1 = .ok (.iload_n 2, 1) := by decide +kernel
theorem d_MoPaper_name_2 : decode b_MoPaper_name 2 = .ok (.invokestatic 67, 3) := by decide +kernel
theorem d_MoPaper_name_5 : decode b_MoPaper_name 5 = .ok (.istore_n 3, 1) := by decide +kernel
theorem d_MoPaper_name_6 : decode b_MoPaper_name 6 = .ok (.iload_n 3, 1) := by decide +kernel
theorem d_MoPaper_name_7 : decode b_MoPaper_name 7 = .ok (.ifCond .ne 9, 3) := by decide +kernel
theorem d_MoPaper_name_10 : decode b_MoPaper_name 10 = .ok (.aload_n 0, 1) := by decide +kernel
theorem d_MoPaper_name_11 : decode b_MoPaper_name 11 = .ok (.bipush 39, 2) := by decide +kernel
theorem d_MoPaper_name_13 : decode b_MoPaper_name 13 = .ok (.invokevirtual 33, 3) := by decide +kernel
theorem d_MoPaper_name_16 : decode b_MoPaper_name 16 = .ok (.iconst 0, 1) := by decide +kernel
theorem d_MoPaper_name_17 : decode b_MoPaper_name 17 = .ok (.istore 4, 2) := by decide +kernel
theorem d_MoPaper_name_19 : decode b_MoPaper_name 19 = .ok (.iload 4, 2) := by decide +kernel
theorem d_MoPaper_name_21 : decode b_MoPaper_name 21 = .ok (.aload_n 1, 1) := by decide +kernel
theorem d_MoPaper_name_22 : decode b_MoPaper_name 22 = .ok (.iload_n 2, 1) := by decide +kernel
theorem d_MoPaper_name_23 : decode b_MoPaper_name 23 = .ok (.invokevirtual 43, 3) := by decide +kernel
theorem d_MoPaper_name_26 : decode b_MoPaper_name 26 = .ok (.if_icmp .ge 38, 3) := by decide +kernel
theorem d_MoPaper_name_29 : decode b_MoPaper_name 29 = .ok (.aload_n 1, 1) := by decide +kernel
theorem d_MoPaper_name_30 : decode b_MoPaper_name 30 = .ok (.iload_n 2, 1) := by decide +kernel
theorem d_MoPaper_name_31 : decode b_MoPaper_name 31 = .ok (.iload 4, 2) := by decide +kernel
theorem d_MoPaper_name_33 : decode b_MoPaper_name 33 = .ok (.invokevirtual 49, 3) := by decide +kernel
theorem d_MoPaper_name_36 : decode b_MoPaper_name 36 = .ok (.bipush 39, 2) := by decide +kernel
theorem d_MoPaper_name_38 : decode b_MoPaper_name 38 = .ok (.if_icmp .ne 9, 3) := by decide +kernel
theorem d_MoPaper_name_41 : decode b_MoPaper_name 41 = .ok (.aload_n 0, 1) := by decide +kernel
theorem d_MoPaper_name_42 : decode b_MoPaper_name 42 = .ok (.bipush 39, 2) := by decide +kernel
theorem d_MoPaper_name_44 : decode b_MoPaper_name 44 = .ok (.invokevirtual 33, 3) := by decide +kernel
theorem d_MoPaper_name_47 : decode b_MoPaper_name 47 = .ok (.aload_n 0, 1) := by decide +kernel
theorem d_MoPaper_name_48 : decode b_MoPaper_name 48 = .ok (.aload_n 1, 1) := by decide +kernel
theorem d_MoPaper_name_49 : decode b_MoPaper_name 49 = .ok (.iload_n 2, 1) := by decide +kernel
theorem d_MoPaper_name_50 : decode b_MoPaper_name 50 = .ok (.iload 4, 2) := by decide +kernel
theorem d_MoPaper_name_52 : decode b_MoPaper_name 52 = .ok (.invokevirtual 49, 3) := by decide +kernel
theorem d_MoPaper_name_55 : decode b_MoPaper_name 55 = .ok (.invokevirtual 33, 3) := by decide +kernel
theorem d_MoPaper_name_58 : decode b_MoPaper_name 58 = .ok (.iinc 4 1, 3) := by decide +kernel
theorem d_MoPaper_name_61 : decode b_MoPaper_name 61 = .ok (.goto (-42), 3) := by decide +kernel
theorem d_MoPaper_name_64 : decode b_MoPaper_name 64 = .ok (.iload_n 3, 1) := by decide +kernel
theorem d_MoPaper_name_65 : decode b_MoPaper_name 65 = .ok (.ifCond .ne 9, 3) := by decide +kernel
theorem d_MoPaper_name_68 : decode b_MoPaper_name 68 = .ok (.aload_n 0, 1) := by decide +kernel
theorem d_MoPaper_name_69 : decode b_MoPaper_name 69 = .ok (.bipush 39, 2) := by decide +kernel
theorem d_MoPaper_name_71 : decode b_MoPaper_name 71 = .ok (.invokevirtual 33, 3) := by decide +kernel
theorem d_MoPaper_name_74 : decode b_MoPaper_name 74 = .ok (.return_, 1) := by decide +kernel
def p_MoPaper_name_47 (n : Nat) (kk : Int32) (a_order : Int32) (a_out_n : Nat) (nms_size : Int32) (nms_texted : Int32) (nms_text_n : Nat) (nms_text_f : Nat → Int32) (nms_from_n : Nat) (nms_from_f : Nat → Int32) (x4_3 : Int32) (K_3 : Int32 → Int32 → Int32 → (Nat → Int32) → Option (Int32 × Int32 × (Nat → Int32))) (a_n_9 : Int32) (a_over_9 : Int32) (a_out_9f : Nat → Int32) : Option (Int32 × Int32 × (Nat → Int32)) := (p_MoNames_at kk x4_3 nms_size nms_texted nms_text_n nms_text_f nms_from_n nms_from_f).bind (fun r10 => (p_MoPaper_put r10 a_n_9 a_over_9 a_order a_out_n a_out_9f).bind (fun (a_n_11, a_over_11, a_out_f_11) => K_3 (x4_3 + 1) a_n_11 a_over_11 a_out_f_11))
def p_MoPaper_name_19 (n : Nat) (kk : Int32) (a_order : Int32) (a_out_n : Nat) (nms_size : Int32) (nms_texted : Int32) (nms_text_n : Nat) (nms_text_f : Nat → Int32) (nms_from_n : Nat) (nms_from_f : Nat → Int32) (r1 : Int32) (kf3 : Nat) (x4_3 : Int32) (a_n_3 : Int32) (a_over_3 : Int32) (a_out_3f : Nat → Int32) : Option (Int32 × Int32 × (Nat → Int32)) := match kf3 with
  | 0 => none
  | kf3 + 1 => (p_MoNames_length kk nms_size nms_texted nms_from_n nms_from_f).bind (fun r4 => if r4 ≤ x4_3 then (if r1 = 0 then ((p_MoPaper_put (39 : Int32) a_n_3 a_over_3 a_order a_out_n a_out_3f).bind (fun (a_n_7, a_over_7, a_out_f_7) => some (a_n_7, a_over_7, a_out_f_7))) else (some (a_n_3, a_over_3, a_out_3f))) else ((p_MoNames_at kk x4_3 nms_size nms_texted nms_text_n nms_text_f nms_from_n nms_from_f).bind (fun r8 => if r8 = 39 then ((p_MoPaper_put (39 : Int32) a_n_3 a_over_3 a_order a_out_n a_out_3f).bind (fun (a_n_13, a_over_13, a_out_f_13) => p_MoPaper_name_47 n kk a_order a_out_n nms_size nms_texted nms_text_n nms_text_f nms_from_n nms_from_f x4_3 (fun w0 w1 w2 w3 => p_MoPaper_name_19 n kk a_order a_out_n nms_size nms_texted nms_text_n nms_text_f nms_from_n nms_from_f r1 kf3 w0 w1 w2 w3) a_n_13 a_over_13 a_out_f_13)) else (p_MoPaper_name_47 n kk a_order a_out_n nms_size nms_texted nms_text_n nms_text_f nms_from_n nms_from_f x4_3 (fun w0 w1 w2 w3 => p_MoPaper_name_19 n kk a_order a_out_n nms_size nms_texted nms_text_n nms_text_f nms_from_n nms_from_f r1 kf3 w0 w1 w2 w3) a_n_3 a_over_3 a_out_3f))))
def p_MoPaper_name_47_21 (n : Nat) (kk : Int32) (a_order : Int32) (a_out_n : Nat) (nms_size : Int32) (nms_texted : Int32) (nms_text_n : Nat) (nms_text_f : Nat → Int32) (nms_from_n : Nat) (nms_from_f : Nat → Int32) (x4_15 : Int32) (K_15 : Int32 → Int32 → Int32 → (Nat → Int32) → Option (Int32 × Int32 × (Nat → Int32))) (a_n_21 : Int32) (a_over_21 : Int32) (a_out_21f : Nat → Int32) : Option (Int32 × Int32 × (Nat → Int32)) := (p_MoNames_at kk x4_15 nms_size nms_texted nms_text_n nms_text_f nms_from_n nms_from_f).bind (fun r22 => (p_MoPaper_put r22 a_n_21 a_over_21 a_order a_out_n a_out_21f).bind (fun (a_n_23, a_over_23, a_out_f_23) => K_15 (x4_15 + 1) a_n_23 a_over_23 a_out_f_23))
def p_MoPaper_name_19_15 (n : Nat) (kk : Int32) (a_order : Int32) (a_out_n : Nat) (nms_size : Int32) (nms_texted : Int32) (nms_text_n : Nat) (nms_text_f : Nat → Int32) (nms_from_n : Nat) (nms_from_f : Nat → Int32) (r1 : Int32) (kf15 : Nat) (x4_15 : Int32) (a_n_15 : Int32) (a_over_15 : Int32) (a_out_15f : Nat → Int32) : Option (Int32 × Int32 × (Nat → Int32)) := match kf15 with
  | 0 => none
  | kf15 + 1 => (p_MoNames_length kk nms_size nms_texted nms_from_n nms_from_f).bind (fun r16 => if r16 ≤ x4_15 then (if r1 = 0 then ((p_MoPaper_put (39 : Int32) a_n_15 a_over_15 a_order a_out_n a_out_15f).bind (fun (a_n_19, a_over_19, a_out_f_19) => some (a_n_19, a_over_19, a_out_f_19))) else (some (a_n_15, a_over_15, a_out_15f))) else ((p_MoNames_at kk x4_15 nms_size nms_texted nms_text_n nms_text_f nms_from_n nms_from_f).bind (fun r20 => if r20 = 39 then ((p_MoPaper_put (39 : Int32) a_n_15 a_over_15 a_order a_out_n a_out_15f).bind (fun (a_n_25, a_over_25, a_out_f_25) => p_MoPaper_name_47_21 n kk a_order a_out_n nms_size nms_texted nms_text_n nms_text_f nms_from_n nms_from_f x4_15 (fun w0 w1 w2 w3 => p_MoPaper_name_19_15 n kk a_order a_out_n nms_size nms_texted nms_text_n nms_text_f nms_from_n nms_from_f r1 kf15 w0 w1 w2 w3) a_n_25 a_over_25 a_out_f_25)) else (p_MoPaper_name_47_21 n kk a_order a_out_n nms_size nms_texted nms_text_n nms_text_f nms_from_n nms_from_f x4_15 (fun w0 w1 w2 w3 => p_MoPaper_name_19_15 n kk a_order a_out_n nms_size nms_texted nms_text_n nms_text_f nms_from_n nms_from_f r1 kf15 w0 w1 w2 w3) a_n_15 a_over_15 a_out_15f))))
def p_MoPaper_name (n : Nat) (kk : Int32) (a_n : Int32) (a_over : Int32) (a_order : Int32) (a_out_n : Nat) (a_out_f : Nat → Int32) (nms_size : Int32) (nms_texted : Int32) (nms_text_n : Nat) (nms_text_f : Nat → Int32) (nms_from_n : Nat) (nms_from_f : Nat → Int32) : Option (Int32 × Int32 × (Nat → Int32)) := (p_MoPaper_plain n kk nms_size nms_texted nms_text_n nms_text_f nms_from_n nms_from_f).bind (fun r1 => if r1 = 0 then ((p_MoPaper_put (39 : Int32) a_n a_over a_order a_out_n a_out_f).bind (fun (a_n_14, a_over_14, a_out_f_14) => p_MoPaper_name_19_15 n kk a_order a_out_n nms_size nms_texted nms_text_n nms_text_f nms_from_n nms_from_f r1 n (0 : Int32) a_n_14 a_over_14 a_out_f_14)) else (p_MoPaper_name_19 n kk a_order a_out_n nms_size nms_texted nms_text_n nms_text_f nms_from_n nms_from_f r1 n (0 : Int32) a_n a_over a_out_f))
set_option maxHeartbeats 40000000 in
set_option maxRecDepth 100000 in
theorem c_MoPaper_name (l : Launch) (g : va_G) (cs : Nat → ClassId) (ka : Nat → Nat) (a_walk : Nat) (a_next : Nat) (a_seen : Nat) (nms_next : Nat) (nms_first : Nat) (a a_out nms nms_text nms_from : Nat) (sz : Nat) (n : Nat) (kk : Int32) (a_n : Int32) (a_over : Int32) (a_order : Int32) (a_out_n : Nat) (a_out_f : Nat → Int32) (nms_size : Int32) (nms_texted : Int32) (nms_text_n : Nat) (nms_text_f : Nat → Int32) (nms_from_n : Nat) (nms_from_f : Nat → Int32) (o_a_n : Int32) (o_a_over : Int32) (o_a_out_f : Nat → Int32) (hok : p_MoPaper_name n kk a_n a_over a_order a_out_n a_out_f nms_size nms_texted nms_text_n nms_text_f nms_from_n nms_from_f = some (o_a_n, o_a_over, o_a_out_f)) : Met l y_MoPaper_name (.code y_MoPaper_name b_MoPaper_name 5 none :: GW) { frames := 6, cells := 0, slots := 0, locals := 138 } (va_Pc [.ref a, .ref nms, .int kk] (gP g cs ka [(a, .inr (13, [.ref a_out, .ref a_walk, .ref a_next, .ref a_seen, .int a_n, .int a_over, .int a_order])), (a_out, .inl (cs 1, a_out_n, .inl a_out_f)), (nms, .inr (10, [.ref nms_text, .ref nms_from, .ref nms_next, .ref nms_first, .int nms_size, .int nms_texted])), (nms_text, .inl (cs 1, nms_text_n, .inl nms_text_f)), (nms_from, .inl (cs 0, nms_from_n, .inl nms_from_f))] sz)) (va_Qv (fun _ : Unit => True) (fun _ t => va_P g classes [(a, .inr (13, [.ref a_out, .ref a_walk, .ref a_next, .ref a_seen, .int o_a_n, .int o_a_over, .int a_order])), (a_out, .inl (cs 1, a_out_n, .inl o_a_out_f)), (nms, .inr (10, [.ref nms_text, .ref nms_from, .ref nms_next, .ref nms_first, .int nms_size, .int nms_texted])), (nms_text, .inl (cs 1, nms_text_n, .inl nms_text_f)), (nms_from, .inl (cs 0, nms_from_n, .inl nms_from_f))] t.heap ∧ va_D (va_A [(a, .inr (13, [.ref a_out, .ref a_walk, .ref a_next, .ref a_seen, .int a_n, .int a_over, .int a_order])), (a_out, .inl (cs 1, a_out_n, .inl a_out_f)), (nms, .inr (10, [.ref nms_text, .ref nms_from, .ref nms_next, .ref nms_first, .int nms_size, .int nms_texted])), (nms_text, .inl (cs 1, nms_text_n, .inl nms_text_f)), (nms_from, .inl (cs 0, nms_from_n, .inl nms_from_f))] sz) [(a, .inr (13, [.ref a_out, .ref a_walk, .ref a_next, .ref a_seen, .int o_a_n, .int o_a_over, .int a_order])), (a_out, .inl (cs 1, a_out_n, .inl o_a_out_f)), (nms, .inr (10, [.ref nms_text, .ref nms_from, .ref nms_next, .ref nms_first, .int nms_size, .int nms_texted])), (nms_text, .inl (cs 1, nms_text_n, .inl nms_text_f)), (nms_from, .inl (cs 0, nms_from_n, .inl nms_from_f))]) (va_A [(a, .inr (13, [.ref a_out, .ref a_walk, .ref a_next, .ref a_seen, .int a_n, .int a_over, .int a_order])), (a_out, .inl (cs 1, a_out_n, .inl a_out_f)), (nms, .inr (10, [.ref nms_text, .ref nms_from, .ref nms_next, .ref nms_first, .int nms_size, .int nms_texted])), (nms_text, .inl (cs 1, nms_text_n, .inl nms_text_f)), (nms_from, .inl (cs 0, nms_from_n, .inl nms_from_f))] sz)) 0 0 (va_A [(a, .inr (13, [.ref a_out, .ref a_walk, .ref a_next, .ref a_seen, .int a_n, .int a_over, .int a_order])), (a_out, .inl (cs 1, a_out_n, .inl a_out_f)), (nms, .inr (10, [.ref nms_text, .ref nms_from, .ref nms_next, .ref nms_first, .int nms_size, .int nms_texted])), (nms_text, .inl (cs 1, nms_text_n, .inl nms_text_f)), (nms_from, .inl (cs 0, nms_from_n, .inl nms_from_f))] sz) := by
  refine Met.ofW (cc := b_MoPaper_name) (maxL := 5) (ret := none) (by decide) rfl ?_
  intro p e s m args below meth c s₁ B hml hv
  obtain ⟨rfl, hsz, hP, hK, hD0, hgl, hkn, hkr⟩ := hv
  have hx := B.exec
  have hb := B.bytes
  have hr := B.returns
  have hg : ∀ w ∈ GW, w.before ([.ref a, .ref nms, .int kk] : List Value).toArray s = true := fun w hw => atoms_spec (ws := .code y_MoPaper_name b_MoPaper_name 5 none :: GW) B.pre w (List.mem_cons_of_mem _ hw)
  have hown : s.vm.findClass R_MoPaper = some m.cls := findClass_of_methodNamed B.named
  have hlocks := B.notSynchronized
  subst hsz
  have hD := hD0.self (sz := s.heap.size)
  generalize hAe : va_A [(a, .inr (13, [.ref a_out, .ref a_walk, .ref a_next, .ref a_seen, .int a_n, .int a_over, .int a_order])), (a_out, .inl (cs 1, a_out_n, .inl a_out_f)), (nms, .inr (10, [.ref nms_text, .ref nms_from, .ref nms_next, .ref nms_first, .int nms_size, .int nms_texted])), (nms_text, .inl (cs 1, nms_text_n, .inl nms_text_f)), (nms_from, .inl (cs 0, nms_from_n, .inl nms_from_f))] s.heap.size = A at hD hkn ⊢
  have hA : ∀ q : Nat, s.heap.size ≤ q → A q := fun q h => by rw [← hAe]; exact Or.inr h
  have hS : va_S A s.heap s.heap [] := va_S.rf
  have hP : va_P g classes [(a, .inr (13, [.ref a_out, .ref a_walk, .ref a_next, .ref a_seen, .int a_n, .int a_over, .int a_order])), (a_out, .inl (cs 1, a_out_n, .inl a_out_f)), (nms, .inr (10, [.ref nms_text, .ref nms_from, .ref nms_next, .ref nms_first, .int nms_size, .int nms_texted])), (nms_text, .inl (cs 1, nms_text_n, .inl nms_text_f)), (nms_from, .inl (cs 0, nms_from_n, .inl nms_from_f))] s.heap := hP
  have hl := lv_entry ([.ref a, .ref nms, .int kk]) (n := 5) (Nat.le_of_ble_eq_true rfl)
  rw [lg_entry_eq]
  generalize (lg_sl ([.ref a, .ref nms, .int kk]) ++ List.replicate (5 - (lg_sl ([.ref a, .ref nms, .int kk])).length) Slot.unset).toArray = ls at hl ⊢
  have hl : lv_has ls 5 [(0, .ref a), (1, .ref nms), (2, .int kk)] := hl
  refine gq (fun Q hQ => ?_)
  obtain ⟨H, hH⟩ : ∃ H : Heap, H = s.heap := ⟨_, rfl⟩
  rw [← hH] at hP
  have hS : va_S A s.heap H [] := by rw [hH]; exact hS
  refine W.eqH hH ?_
  obtain ⟨locs, hlc⟩ : ∃ L : List Loc, L = [] := ⟨_, rfl⟩
  rw [← hlc] at hS ⊢
  unfold p_MoPaper_name at hok
  refine lv_aload_n hx hb d_MoPaper_name_0 rfl (lv_at hl 1 rfl) ?_
  refine lv_iload_n hx hb d_MoPaper_name_1 rfl (lv_at hl 2 rfl) ?_
  obtain ⟨r1, hc1, hok⟩ := bd_some hok
  obtain ⟨hPc, hDc, hFc⟩ := cut0 (wc := [(nms, .inr (10, [.ref nms_text, .ref nms_from, .ref nms_next, .ref nms_first, .int nms_size, .int nms_texted])), (nms_text, .inl (cs 1, nms_text_n, .inl nms_text_f)), (nms_from, .inl (cs 0, nms_from_n, .inl nms_from_f))]) hP hD hS hA [2, 3, 4] (by decide) rfl
  refine va_calli (va_runS (As := [.ref nms, .int kk]) (rest := []) ⟨hx, hb, hml, hown, hg⟩ (c_MoPaper_plain l g cs ka nms_next nms_first nms nms_text nms_from H.size n kk nms_size nms_texted nms_text_n nms_text_f nms_from_n nms_from_f r1 hc1) (va_cwS 2 hg (gw_S wd_758 wd_759 wd_742 wd_757) rfl rfl rfl (by decide +kernel) ⟨Nat.le_of_ble_eq_true rfl, Nat.le_of_ble_eq_true rfl⟩) ⟨gP_blind, gP_pre hPc hDc hK hgl hkn hkr hS hFc⟩ rfl rfl hl.1 rfl (lv_room (Nat.le_of_ble_eq_true rfl)) d_MoPaper_name_2 ⟨Nat.le_of_ble_eq_true rfl, Nat.le_of_ble_eq_true rfl⟩) hS (fun q _ h => hFc q h) hFc (fun r1' u t H locs ht hvm hr1 hB hz1 hk1 hS => ?_)
  subst hr1
  rw [ht] at hB
  obtain ⟨hP1, hD1⟩ := hB
  obtain ⟨hP, hD⟩ := jn_A hP hD [2, 3, 4] [0, 1] rfl rfl (by decide) (by decide) hk1 hFc hP1 hD1
  obtain ⟨hP, hD⟩ : PD g A H [(a, .inr (13, [.ref a_out, .ref a_walk, .ref a_next, .ref a_seen, .int a_n, .int a_over, .int a_order])), (a_out, .inl (cs 1, a_out_n, .inl a_out_f)), (nms, .inr (10, [.ref nms_text, .ref nms_from, .ref nms_next, .ref nms_first, .int nms_size, .int nms_texted])), (nms_text, .inl (cs 1, nms_text_n, .inl nms_text_f)), (nms_from, .inl (cs 0, nms_from_n, .inl nms_from_f))] := ⟨hP, hD⟩
  refine lv_istore_n hx hb d_MoPaper_name_5 rfl hl (by decide) rfl (fun ls hl => ?_)
  have hl : lv_has ls 5 [(3, .int r1), (0, .ref a), (1, .ref nms), (2, .int kk)] := hl
  refine lv_iload_n hx hb d_MoPaper_name_6 rfl (lv_at hl 0 rfl) ?_
  refine lv_if_ne hx hb d_MoPaper_name_7 rfl (fun h2 => ?_) (fun h2 => ?_)
  · rw [if_neg h2] at hok
    refine lv_iconst (v := 0) hx hb d_MoPaper_name_16 (by decide) ?_
    refine lv_istore hx hb d_MoPaper_name_17 hl (by decide) rfl (fun ls hl => ?_)
    have hl : lv_has ls 5 [(4, .int 0), (3, .int r1), (0, .ref a), (1, .ref nms), (2, .int kk)] := hl
    have J3 : ∀ (kf3 : Nat) (H : Heap) (locs : List Loc) (ls : Array Slot) (x4_3 : Int32) (a_n_3 : Int32) (a_over_3 : Int32) (a_out_3f : Nat → Int32), lv_has ls 5 [(4, .int x4_3), (3, .int r1), (0, .ref a), (1, .ref nms), (2, .int kk)] → PD g A H [(a, .inr (13, [.ref a_out, .ref a_walk, .ref a_next, .ref a_seen, .int a_n_3, .int a_over_3, .int a_order])), (a_out, .inl (cs 1, a_out_n, .inl a_out_3f)), (nms, .inr (10, [.ref nms_text, .ref nms_from, .ref nms_next, .ref nms_first, .int nms_size, .int nms_texted])), (nms_text, .inl (cs 1, nms_text_n, .inl nms_text_f)), (nms_from, .inl (cs 0, nms_from_n, .inl nms_from_f))] → va_S A s.heap H locs → p_MoPaper_name_19 n kk a_order a_out_n nms_size nms_texted nms_text_n nms_text_f nms_from_n nms_from_f r1 kf3 x4_3 a_n_3 a_over_3 a_out_3f = some (o_a_n, o_a_over, o_a_out_f) → W p l e (headSpec (.code y_MoPaper_name b_MoPaper_name 5 none :: GW) { frames := 6, cells := 0, slots := 0, locals := 138 }).room s m ([.ref a, .ref nms, .int kk] : List Value).toArray below meth c H locs 0 0 Q (F0 m 19 ls []) := by
      intro kf3
      induction kf3 with
      | zero => intro H locs ls x4_3 a_n_3 a_over_3 a_out_3f hl ⟨hP, hD⟩ hS hok; rw [p_MoPaper_name_19] at hok; cases hok
      | succ kf3 ih3 =>
        intro H locs ls x4_3 a_n_3 a_over_3 a_out_3f hl ⟨hP, hD⟩ hS hok
        rw [p_MoPaper_name_19] at hok
        refine lv_iload hx hb d_MoPaper_name_19 (lv_at hl 0 rfl) ?_
        refine lv_aload_n hx hb d_MoPaper_name_21 rfl (lv_at hl 3 rfl) ?_
        refine lv_iload_n hx hb d_MoPaper_name_22 rfl (lv_at hl 4 rfl) ?_
        obtain ⟨r4, hc4, hok⟩ := bd_some hok
        obtain ⟨hPc, hDc, hFc⟩ := cut0 (wc := [(nms, .inr (10, [.ref nms_text, .ref nms_from, .ref nms_next, .ref nms_first, .int nms_size, .int nms_texted])), (nms_from, .inl (cs 0, nms_from_n, .inl nms_from_f))]) hP hD hS hA [2, 4] (by decide) rfl
        refine va_calli (va_runV (As := [.int kk]) (rest := [.int x4_3]) ⟨hx, hb, hml, hown, hg⟩ (c_MoNames_length l g cs ka nms_text nms_next nms_first nms nms_from H.size kk nms_size nms_texted nms_from_n nms_from_f r4 hc4) (cwV (C := R_MoNames) 1 hg (gw_V wd_747 wd_723 wd_724 wd_717 wd_721) rfl rfl rfl (by decide +kernel) ⟨Nat.le_of_ble_eq_true rfl, Nat.le_of_ble_eq_true rfl⟩) ⟨gP_blind, va_recv (q0 := 2) (ci := 10) (q := (R_MoNames, F_MoNames, 6)) hK hP rfl rfl, gP_pre hPc hDc hK hgl hkn hkr hS hFc⟩ rfl rfl hl.1 rfl (lv_room (Nat.le_of_ble_eq_true rfl)) d_MoPaper_name_23 ⟨Nat.le_of_ble_eq_true rfl, Nat.le_of_ble_eq_true rfl⟩) hS (fun q _ h => hFc q h) hFc (fun r4' u t H locs ht hvm hr4 hB hz1 hk1 hS => ?_)
        subst hr4
        rw [ht] at hB
        obtain ⟨hP1, hD1⟩ := hB
        obtain ⟨hP, hD⟩ := jn_A hP hD [2, 4] [0, 1, 3] rfl rfl (by decide) (by decide) hk1 hFc hP1 hD1
        obtain ⟨hP, hD⟩ : PD g A H [(a, .inr (13, [.ref a_out, .ref a_walk, .ref a_next, .ref a_seen, .int a_n_3, .int a_over_3, .int a_order])), (a_out, .inl (cs 1, a_out_n, .inl a_out_3f)), (nms_text, .inl (cs 1, nms_text_n, .inl nms_text_f)), (nms, .inr (10, [.ref nms_text, .ref nms_from, .ref nms_next, .ref nms_first, .int nms_size, .int nms_texted])), (nms_from, .inl (cs 0, nms_from_n, .inl nms_from_f))] := ⟨hP, hD⟩
        refine lv_icmp_ge hx hb d_MoPaper_name_26 rfl (fun h5 => ?_) (fun h5 => ?_)
        · rw [if_pos h5] at hok
          refine lv_iload_n hx hb d_MoPaper_name_64 rfl (lv_at hl 1 rfl) ?_
          refine lv_if_ne hx hb d_MoPaper_name_65 rfl (fun h6 => ?_) (fun h6 => ?_)
          · rw [if_neg h6] at hok
            have hq := Option.some.inj hok
            obtain ⟨hq0, hq⟩ := Prod.mk.inj hq
            obtain ⟨hq1, hq⟩ := Prod.mk.inj hq
            have hq2 := hq
            subst hq0
            subst hq1
            subst hq2
            obtain ⟨hP9, hD9⟩ := sub2 (ws' := [(a, .inr (13, [.ref a_out, .ref a_walk, .ref a_next, .ref a_seen, .int a_n_3, .int a_over_3, .int a_order])), (a_out, .inl (cs 1, a_out_n, .inl a_out_3f)), (nms, .inr (10, [.ref nms_text, .ref nms_from, .ref nms_next, .ref nms_first, .int nms_size, .int nms_texted])), (nms_text, .inl (cs 1, nms_text_n, .inl nms_text_f)), (nms_from, .inl (cs 0, nms_from_n, .inl nms_from_f))]) hP hD [0, 1, 3, 2, 4] rfl (by decide) rfl
            rw [hQ]
            exact W.vret hx hb hr (fun t ht hW => ⟨⟨(), rfl, trivial, by rw [ht]; exact hP9, hD9⟩, hS.F ht⟩) hS.2.2 d_MoPaper_name_74
          · rw [if_pos h6] at hok
            refine lv_aload_n hx hb d_MoPaper_name_68 rfl (lv_at hl 2 rfl) ?_
            refine lv_bipush (v := 39) hx hb d_MoPaper_name_69 (by decide) ?_
            obtain ⟨⟨a_n_7, a_over_7, a_out_f_7⟩, hc7, hok⟩ := bd_some hok
            dsimp only at hok
            obtain ⟨hPc, hDc, hFc⟩ := cut0 (wc := [(a, .inr (13, [.ref a_out, .ref a_walk, .ref a_next, .ref a_seen, .int a_n_3, .int a_over_3, .int a_order])), (a_out, .inl (cs 1, a_out_n, .inl a_out_3f))]) hP hD hS hA [0, 1] (by decide) rfl
            refine va_callv (va_runV (As := [.int 39]) (rest := []) ⟨hx, hb, hml, hown, hg⟩ (c_MoPaper_put l g cs ka a_walk a_next a_seen a a_out H.size (39 : Int32) a_n_3 a_over_3 a_order a_out_n a_out_3f a_n_7 a_over_7 a_out_f_7 hc7) (cwV (C := R_MoPaper) 1 hg (gw_V wd_743 wd_744 wd_745 wd_742 wd_741) rfl rfl rfl (by decide +kernel) ⟨Nat.le_of_ble_eq_true rfl, Nat.le_of_ble_eq_true rfl⟩) ⟨gP_blind, va_recv (q0 := 0) (ci := 13) (q := (R_MoPaper, F_MoPaper, 7)) hK hP rfl rfl, gP_pre hPc hDc hK hgl hkn hkr hS hFc⟩ rfl rfl hl.1 rfl (lv_room (Nat.le_of_ble_eq_true rfl)) d_MoPaper_name_71 ⟨Nat.le_of_ble_eq_true rfl, Nat.le_of_ble_eq_true rfl⟩) hS (fun q _ h => hFc q h) hFc (fun u t H locs ht hvm hr7 hB hz1 hk1 hS => ?_)
            rw [ht] at hB
            obtain ⟨hP1, hD1⟩ := hB
            obtain ⟨hP, hD⟩ := jn_A hP hD [0, 1] [2, 3, 4] rfl rfl (by decide) (by decide) hk1 hFc hP1 hD1
            obtain ⟨hP, hD⟩ : PD g A H [(nms_text, .inl (cs 1, nms_text_n, .inl nms_text_f)), (nms, .inr (10, [.ref nms_text, .ref nms_from, .ref nms_next, .ref nms_first, .int nms_size, .int nms_texted])), (nms_from, .inl (cs 0, nms_from_n, .inl nms_from_f)), (a, .inr (13, [.ref a_out, .ref a_walk, .ref a_next, .ref a_seen, .int a_n_7, .int a_over_7, .int a_order])), (a_out, .inl (cs 1, a_out_n, .inl a_out_f_7))] := ⟨hP, hD⟩
            have hq := Option.some.inj hok
            obtain ⟨hq0, hq⟩ := Prod.mk.inj hq
            obtain ⟨hq1, hq⟩ := Prod.mk.inj hq
            have hq2 := hq
            subst hq0
            subst hq1
            subst hq2
            obtain ⟨hP9, hD9⟩ := sub2 (ws' := [(a, .inr (13, [.ref a_out, .ref a_walk, .ref a_next, .ref a_seen, .int a_n_7, .int a_over_7, .int a_order])), (a_out, .inl (cs 1, a_out_n, .inl a_out_f_7)), (nms, .inr (10, [.ref nms_text, .ref nms_from, .ref nms_next, .ref nms_first, .int nms_size, .int nms_texted])), (nms_text, .inl (cs 1, nms_text_n, .inl nms_text_f)), (nms_from, .inl (cs 0, nms_from_n, .inl nms_from_f))]) hP hD [3, 4, 1, 0, 2] rfl (by decide) rfl
            rw [hQ]
            exact W.vret hx hb hr (fun t ht hW => ⟨⟨(), rfl, trivial, by rw [ht]; exact hP9, hD9⟩, hS.F ht⟩) hS.2.2 d_MoPaper_name_74
        · rw [if_neg h5] at hok
          refine lv_aload_n hx hb d_MoPaper_name_29 rfl (lv_at hl 3 rfl) ?_
          refine lv_iload_n hx hb d_MoPaper_name_30 rfl (lv_at hl 4 rfl) ?_
          refine lv_iload hx hb d_MoPaper_name_31 (lv_at hl 0 rfl) ?_
          obtain ⟨r8, hc8, hok⟩ := bd_some hok
          obtain ⟨hPc, hDc, hFc⟩ := cut0 (wc := [(nms, .inr (10, [.ref nms_text, .ref nms_from, .ref nms_next, .ref nms_first, .int nms_size, .int nms_texted])), (nms_text, .inl (cs 1, nms_text_n, .inl nms_text_f)), (nms_from, .inl (cs 0, nms_from_n, .inl nms_from_f))]) hP hD hS hA [3, 2, 4] (by decide) rfl
          refine va_calli (va_runV (As := [.int kk, .int x4_3]) (rest := []) ⟨hx, hb, hml, hown, hg⟩ (c_MoNames_at l g cs ka nms_next nms_first nms nms_text nms_from H.size kk x4_3 nms_size nms_texted nms_text_n nms_text_f nms_from_n nms_from_f r8 hc8) (cwV (C := R_MoNames) 2 hg (gw_V wd_748 wd_728 wd_729 wd_717 wd_726) rfl rfl rfl (by decide +kernel) ⟨Nat.le_of_ble_eq_true rfl, Nat.le_of_ble_eq_true rfl⟩) ⟨gP_blind, va_recv (q0 := 3) (ci := 10) (q := (R_MoNames, F_MoNames, 6)) hK hP rfl rfl, gP_pre hPc hDc hK hgl hkn hkr hS hFc⟩ rfl rfl hl.1 rfl (lv_room (Nat.le_of_ble_eq_true rfl)) d_MoPaper_name_33 ⟨Nat.le_of_ble_eq_true rfl, Nat.le_of_ble_eq_true rfl⟩) hS (fun q _ h => hFc q h) hFc (fun r8' u t H locs ht hvm hr8 hB hz1 hk1 hS => ?_)
          subst hr8
          rw [ht] at hB
          obtain ⟨hP1, hD1⟩ := hB
          obtain ⟨hP, hD⟩ := jn_A hP hD [3, 2, 4] [0, 1] rfl rfl (by decide) (by decide) hk1 hFc hP1 hD1
          obtain ⟨hP, hD⟩ : PD g A H [(a, .inr (13, [.ref a_out, .ref a_walk, .ref a_next, .ref a_seen, .int a_n_3, .int a_over_3, .int a_order])), (a_out, .inl (cs 1, a_out_n, .inl a_out_3f)), (nms, .inr (10, [.ref nms_text, .ref nms_from, .ref nms_next, .ref nms_first, .int nms_size, .int nms_texted])), (nms_text, .inl (cs 1, nms_text_n, .inl nms_text_f)), (nms_from, .inl (cs 0, nms_from_n, .inl nms_from_f))] := ⟨hP, hD⟩
          refine lv_bipush (v := 39) hx hb d_MoPaper_name_36 (by decide) ?_
          have J9 : ∀ (H : Heap) (locs : List Loc) (ls : Array Slot) (a_n_9 : Int32) (a_over_9 : Int32) (a_out_9f : Nat → Int32), lv_has ls 5 [(4, .int x4_3), (3, .int r1), (0, .ref a), (1, .ref nms), (2, .int kk)] → PD g A H [(a, .inr (13, [.ref a_out, .ref a_walk, .ref a_next, .ref a_seen, .int a_n_9, .int a_over_9, .int a_order])), (a_out, .inl (cs 1, a_out_n, .inl a_out_9f)), (nms, .inr (10, [.ref nms_text, .ref nms_from, .ref nms_next, .ref nms_first, .int nms_size, .int nms_texted])), (nms_text, .inl (cs 1, nms_text_n, .inl nms_text_f)), (nms_from, .inl (cs 0, nms_from_n, .inl nms_from_f))] → va_S A s.heap H locs → p_MoPaper_name_47 n kk a_order a_out_n nms_size nms_texted nms_text_n nms_text_f nms_from_n nms_from_f x4_3 (fun w0 w1 w2 w3 => p_MoPaper_name_19 n kk a_order a_out_n nms_size nms_texted nms_text_n nms_text_f nms_from_n nms_from_f r1 kf3 w0 w1 w2 w3) a_n_9 a_over_9 a_out_9f = some (o_a_n, o_a_over, o_a_out_f) → W p l e (headSpec (.code y_MoPaper_name b_MoPaper_name 5 none :: GW) { frames := 6, cells := 0, slots := 0, locals := 138 }).room s m ([.ref a, .ref nms, .int kk] : List Value).toArray below meth c H locs 0 0 Q (F0 m 47 ls []) := by
            intro H locs ls a_n_9 a_over_9 a_out_9f hl ⟨hP, hD⟩ hS hok
            unfold p_MoPaper_name_47 at hok
            refine lv_aload_n hx hb d_MoPaper_name_47 rfl (lv_at hl 2 rfl) ?_
            refine lv_aload_n hx hb d_MoPaper_name_48 rfl (lv_at hl 3 rfl) ?_
            refine lv_iload_n hx hb d_MoPaper_name_49 rfl (lv_at hl 4 rfl) ?_
            refine lv_iload hx hb d_MoPaper_name_50 (lv_at hl 0 rfl) ?_
            obtain ⟨r10, hc10, hok⟩ := bd_some hok
            obtain ⟨hPc, hDc, hFc⟩ := cut0 (wc := [(nms, .inr (10, [.ref nms_text, .ref nms_from, .ref nms_next, .ref nms_first, .int nms_size, .int nms_texted])), (nms_text, .inl (cs 1, nms_text_n, .inl nms_text_f)), (nms_from, .inl (cs 0, nms_from_n, .inl nms_from_f))]) hP hD hS hA [2, 3, 4] (by decide) rfl
            refine va_calli (va_runV (As := [.int kk, .int x4_3]) (rest := [.ref a]) ⟨hx, hb, hml, hown, hg⟩ (c_MoNames_at l g cs ka nms_next nms_first nms nms_text nms_from H.size kk x4_3 nms_size nms_texted nms_text_n nms_text_f nms_from_n nms_from_f r10 hc10) (cwV (C := R_MoNames) 2 hg (gw_V wd_748 wd_728 wd_729 wd_717 wd_726) rfl rfl rfl (by decide +kernel) ⟨Nat.le_of_ble_eq_true rfl, Nat.le_of_ble_eq_true rfl⟩) ⟨gP_blind, va_recv (q0 := 2) (ci := 10) (q := (R_MoNames, F_MoNames, 6)) hK hP rfl rfl, gP_pre hPc hDc hK hgl hkn hkr hS hFc⟩ rfl rfl hl.1 rfl (lv_room (Nat.le_of_ble_eq_true rfl)) d_MoPaper_name_52 ⟨Nat.le_of_ble_eq_true rfl, Nat.le_of_ble_eq_true rfl⟩) hS (fun q _ h => hFc q h) hFc (fun r10' u t H locs ht hvm hr10 hB hz1 hk1 hS => ?_)
            subst hr10
            rw [ht] at hB
            obtain ⟨hP1, hD1⟩ := hB
            obtain ⟨hP, hD⟩ := jn_A hP hD [2, 3, 4] [0, 1] rfl rfl (by decide) (by decide) hk1 hFc hP1 hD1
            obtain ⟨hP, hD⟩ : PD g A H [(a, .inr (13, [.ref a_out, .ref a_walk, .ref a_next, .ref a_seen, .int a_n_9, .int a_over_9, .int a_order])), (a_out, .inl (cs 1, a_out_n, .inl a_out_9f)), (nms, .inr (10, [.ref nms_text, .ref nms_from, .ref nms_next, .ref nms_first, .int nms_size, .int nms_texted])), (nms_text, .inl (cs 1, nms_text_n, .inl nms_text_f)), (nms_from, .inl (cs 0, nms_from_n, .inl nms_from_f))] := ⟨hP, hD⟩
            obtain ⟨⟨a_n_11, a_over_11, a_out_f_11⟩, hc11, hok⟩ := bd_some hok
            dsimp only at hok
            obtain ⟨hPc, hDc, hFc⟩ := cut0 (wc := [(a, .inr (13, [.ref a_out, .ref a_walk, .ref a_next, .ref a_seen, .int a_n_9, .int a_over_9, .int a_order])), (a_out, .inl (cs 1, a_out_n, .inl a_out_9f))]) hP hD hS hA [0, 1] (by decide) rfl
            refine va_callv (va_runV (As := [.int r10]) (rest := []) ⟨hx, hb, hml, hown, hg⟩ (c_MoPaper_put l g cs ka a_walk a_next a_seen a a_out H.size r10 a_n_9 a_over_9 a_order a_out_n a_out_9f a_n_11 a_over_11 a_out_f_11 hc11) (cwV (C := R_MoPaper) 1 hg (gw_V wd_743 wd_744 wd_745 wd_742 wd_741) rfl rfl rfl (by decide +kernel) ⟨Nat.le_of_ble_eq_true rfl, Nat.le_of_ble_eq_true rfl⟩) ⟨gP_blind, va_recv (q0 := 0) (ci := 13) (q := (R_MoPaper, F_MoPaper, 7)) hK hP rfl rfl, gP_pre hPc hDc hK hgl hkn hkr hS hFc⟩ rfl rfl hl.1 rfl (lv_room (Nat.le_of_ble_eq_true rfl)) d_MoPaper_name_55 ⟨Nat.le_of_ble_eq_true rfl, Nat.le_of_ble_eq_true rfl⟩) hS (fun q _ h => hFc q h) hFc (fun u t H locs ht hvm hr11 hB hz1 hk1 hS => ?_)
            rw [ht] at hB
            obtain ⟨hP1, hD1⟩ := hB
            obtain ⟨hP, hD⟩ := jn_A hP hD [0, 1] [2, 3, 4] rfl rfl (by decide) (by decide) hk1 hFc hP1 hD1
            obtain ⟨hP, hD⟩ : PD g A H [(nms, .inr (10, [.ref nms_text, .ref nms_from, .ref nms_next, .ref nms_first, .int nms_size, .int nms_texted])), (nms_text, .inl (cs 1, nms_text_n, .inl nms_text_f)), (nms_from, .inl (cs 0, nms_from_n, .inl nms_from_f)), (a, .inr (13, [.ref a_out, .ref a_walk, .ref a_next, .ref a_seen, .int a_n_11, .int a_over_11, .int a_order])), (a_out, .inl (cs 1, a_out_n, .inl a_out_f_11))] := ⟨hP, hD⟩
            refine lv_iinc (k := 0) (v := x4_3 + 1) hx hb d_MoPaper_name_58 hl rfl rfl (by decide) rfl (fun ls hl => ?_)
            have hl : lv_has ls 5 [(4, .int (x4_3 + 1)), (3, .int r1), (0, .ref a), (1, .ref nms), (2, .int kk)] := hl
            refine lv_goto hx hb d_MoPaper_name_61 rfl ?_
            exact ih3 _ _ _ (x4_3 + 1) a_n_11 a_over_11 a_out_f_11 (lv_sub hl [0, 1, 2, 3, 4] rfl) (sub3 hP hD [3, 4, 0, 1, 2] (by decide)) hS hok
          refine lv_icmp_ne hx hb d_MoPaper_name_38 rfl (fun h12 => ?_) (fun h12 => ?_)
          · rw [if_neg h12] at hok
            exact J9 _ _ _ a_n_3 a_over_3 a_out_3f (lv_sub hl [0, 1, 2, 3, 4] rfl) (sub3 hP hD [0, 1, 2, 3, 4] (by decide)) hS hok
          · rw [if_pos h12] at hok
            refine lv_aload_n hx hb d_MoPaper_name_41 rfl (lv_at hl 2 rfl) ?_
            refine lv_bipush (v := 39) hx hb d_MoPaper_name_42 (by decide) ?_
            obtain ⟨⟨a_n_13, a_over_13, a_out_f_13⟩, hc13, hok⟩ := bd_some hok
            dsimp only at hok
            obtain ⟨hPc, hDc, hFc⟩ := cut0 (wc := [(a, .inr (13, [.ref a_out, .ref a_walk, .ref a_next, .ref a_seen, .int a_n_3, .int a_over_3, .int a_order])), (a_out, .inl (cs 1, a_out_n, .inl a_out_3f))]) hP hD hS hA [0, 1] (by decide) rfl
            refine va_callv (va_runV (As := [.int 39]) (rest := []) ⟨hx, hb, hml, hown, hg⟩ (c_MoPaper_put l g cs ka a_walk a_next a_seen a a_out H.size (39 : Int32) a_n_3 a_over_3 a_order a_out_n a_out_3f a_n_13 a_over_13 a_out_f_13 hc13) (cwV (C := R_MoPaper) 1 hg (gw_V wd_743 wd_744 wd_745 wd_742 wd_741) rfl rfl rfl (by decide +kernel) ⟨Nat.le_of_ble_eq_true rfl, Nat.le_of_ble_eq_true rfl⟩) ⟨gP_blind, va_recv (q0 := 0) (ci := 13) (q := (R_MoPaper, F_MoPaper, 7)) hK hP rfl rfl, gP_pre hPc hDc hK hgl hkn hkr hS hFc⟩ rfl rfl hl.1 rfl (lv_room (Nat.le_of_ble_eq_true rfl)) d_MoPaper_name_44 ⟨Nat.le_of_ble_eq_true rfl, Nat.le_of_ble_eq_true rfl⟩) hS (fun q _ h => hFc q h) hFc (fun u t H locs ht hvm hr13 hB hz1 hk1 hS => ?_)
            rw [ht] at hB
            obtain ⟨hP1, hD1⟩ := hB
            obtain ⟨hP, hD⟩ := jn_A hP hD [0, 1] [2, 3, 4] rfl rfl (by decide) (by decide) hk1 hFc hP1 hD1
            obtain ⟨hP, hD⟩ : PD g A H [(nms, .inr (10, [.ref nms_text, .ref nms_from, .ref nms_next, .ref nms_first, .int nms_size, .int nms_texted])), (nms_text, .inl (cs 1, nms_text_n, .inl nms_text_f)), (nms_from, .inl (cs 0, nms_from_n, .inl nms_from_f)), (a, .inr (13, [.ref a_out, .ref a_walk, .ref a_next, .ref a_seen, .int a_n_13, .int a_over_13, .int a_order])), (a_out, .inl (cs 1, a_out_n, .inl a_out_f_13))] := ⟨hP, hD⟩
            exact J9 _ _ _ a_n_13 a_over_13 a_out_f_13 (lv_sub hl [0, 1, 2, 3, 4] rfl) (sub3 hP hD [3, 4, 0, 1, 2] (by decide)) hS hok
    exact J3 n H locs ls (0 : Int32) a_n a_over a_out_f hl ⟨hP, hD⟩ hS hok
  · rw [if_pos h2] at hok
    refine lv_aload_n hx hb d_MoPaper_name_10 rfl (lv_at hl 1 rfl) ?_
    refine lv_bipush (v := 39) hx hb d_MoPaper_name_11 (by decide) ?_
    obtain ⟨⟨a_n_14, a_over_14, a_out_f_14⟩, hc14, hok⟩ := bd_some hok
    dsimp only at hok
    obtain ⟨hPc, hDc, hFc⟩ := cut0 (wc := [(a, .inr (13, [.ref a_out, .ref a_walk, .ref a_next, .ref a_seen, .int a_n, .int a_over, .int a_order])), (a_out, .inl (cs 1, a_out_n, .inl a_out_f))]) hP hD hS hA [0, 1] (by decide) rfl
    refine va_callv (va_runV (As := [.int 39]) (rest := []) ⟨hx, hb, hml, hown, hg⟩ (c_MoPaper_put l g cs ka a_walk a_next a_seen a a_out H.size (39 : Int32) a_n a_over a_order a_out_n a_out_f a_n_14 a_over_14 a_out_f_14 hc14) (cwV (C := R_MoPaper) 1 hg (gw_V wd_743 wd_744 wd_745 wd_742 wd_741) rfl rfl rfl (by decide +kernel) ⟨Nat.le_of_ble_eq_true rfl, Nat.le_of_ble_eq_true rfl⟩) ⟨gP_blind, va_recv (q0 := 0) (ci := 13) (q := (R_MoPaper, F_MoPaper, 7)) hK hP rfl rfl, gP_pre hPc hDc hK hgl hkn hkr hS hFc⟩ rfl rfl hl.1 rfl (lv_room (Nat.le_of_ble_eq_true rfl)) d_MoPaper_name_13 ⟨Nat.le_of_ble_eq_true rfl, Nat.le_of_ble_eq_true rfl⟩) hS (fun q _ h => hFc q h) hFc (fun u t H locs ht hvm hr14 hB hz1 hk1 hS => ?_)
    rw [ht] at hB
    obtain ⟨hP1, hD1⟩ := hB
    obtain ⟨hP, hD⟩ := jn_A hP hD [0, 1] [2, 3, 4] rfl rfl (by decide) (by decide) hk1 hFc hP1 hD1
    obtain ⟨hP, hD⟩ : PD g A H [(nms, .inr (10, [.ref nms_text, .ref nms_from, .ref nms_next, .ref nms_first, .int nms_size, .int nms_texted])), (nms_text, .inl (cs 1, nms_text_n, .inl nms_text_f)), (nms_from, .inl (cs 0, nms_from_n, .inl nms_from_f)), (a, .inr (13, [.ref a_out, .ref a_walk, .ref a_next, .ref a_seen, .int a_n_14, .int a_over_14, .int a_order])), (a_out, .inl (cs 1, a_out_n, .inl a_out_f_14))] := ⟨hP, hD⟩
    refine lv_iconst (v := 0) hx hb d_MoPaper_name_16 (by decide) ?_
    refine lv_istore hx hb d_MoPaper_name_17 hl (by decide) rfl (fun ls hl => ?_)
    have hl : lv_has ls 5 [(4, .int 0), (3, .int r1), (0, .ref a), (1, .ref nms), (2, .int kk)] := hl
    have J15 : ∀ (kf15 : Nat) (H : Heap) (locs : List Loc) (ls : Array Slot) (x4_15 : Int32) (a_n_15 : Int32) (a_over_15 : Int32) (a_out_15f : Nat → Int32), lv_has ls 5 [(4, .int x4_15), (3, .int r1), (0, .ref a), (1, .ref nms), (2, .int kk)] → PD g A H [(nms, .inr (10, [.ref nms_text, .ref nms_from, .ref nms_next, .ref nms_first, .int nms_size, .int nms_texted])), (nms_text, .inl (cs 1, nms_text_n, .inl nms_text_f)), (nms_from, .inl (cs 0, nms_from_n, .inl nms_from_f)), (a, .inr (13, [.ref a_out, .ref a_walk, .ref a_next, .ref a_seen, .int a_n_15, .int a_over_15, .int a_order])), (a_out, .inl (cs 1, a_out_n, .inl a_out_15f))] → va_S A s.heap H locs → p_MoPaper_name_19_15 n kk a_order a_out_n nms_size nms_texted nms_text_n nms_text_f nms_from_n nms_from_f r1 kf15 x4_15 a_n_15 a_over_15 a_out_15f = some (o_a_n, o_a_over, o_a_out_f) → W p l e (headSpec (.code y_MoPaper_name b_MoPaper_name 5 none :: GW) { frames := 6, cells := 0, slots := 0, locals := 138 }).room s m ([.ref a, .ref nms, .int kk] : List Value).toArray below meth c H locs 0 0 Q (F0 m 19 ls []) := by
      intro kf15
      induction kf15 with
      | zero => intro H locs ls x4_15 a_n_15 a_over_15 a_out_15f hl ⟨hP, hD⟩ hS hok; rw [p_MoPaper_name_19_15] at hok; cases hok
      | succ kf15 ih15 =>
        intro H locs ls x4_15 a_n_15 a_over_15 a_out_15f hl ⟨hP, hD⟩ hS hok
        rw [p_MoPaper_name_19_15] at hok
        refine lv_iload hx hb d_MoPaper_name_19 (lv_at hl 0 rfl) ?_
        refine lv_aload_n hx hb d_MoPaper_name_21 rfl (lv_at hl 3 rfl) ?_
        refine lv_iload_n hx hb d_MoPaper_name_22 rfl (lv_at hl 4 rfl) ?_
        obtain ⟨r16, hc16, hok⟩ := bd_some hok
        obtain ⟨hPc, hDc, hFc⟩ := cut0 (wc := [(nms, .inr (10, [.ref nms_text, .ref nms_from, .ref nms_next, .ref nms_first, .int nms_size, .int nms_texted])), (nms_from, .inl (cs 0, nms_from_n, .inl nms_from_f))]) hP hD hS hA [0, 2] (by decide) rfl
        refine va_calli (va_runV (As := [.int kk]) (rest := [.int x4_15]) ⟨hx, hb, hml, hown, hg⟩ (c_MoNames_length l g cs ka nms_text nms_next nms_first nms nms_from H.size kk nms_size nms_texted nms_from_n nms_from_f r16 hc16) (cwV (C := R_MoNames) 1 hg (gw_V wd_747 wd_723 wd_724 wd_717 wd_721) rfl rfl rfl (by decide +kernel) ⟨Nat.le_of_ble_eq_true rfl, Nat.le_of_ble_eq_true rfl⟩) ⟨gP_blind, va_recv (q0 := 0) (ci := 10) (q := (R_MoNames, F_MoNames, 6)) hK hP rfl rfl, gP_pre hPc hDc hK hgl hkn hkr hS hFc⟩ rfl rfl hl.1 rfl (lv_room (Nat.le_of_ble_eq_true rfl)) d_MoPaper_name_23 ⟨Nat.le_of_ble_eq_true rfl, Nat.le_of_ble_eq_true rfl⟩) hS (fun q _ h => hFc q h) hFc (fun r16' u t H locs ht hvm hr16 hB hz1 hk1 hS => ?_)
        subst hr16
        rw [ht] at hB
        obtain ⟨hP1, hD1⟩ := hB
        obtain ⟨hP, hD⟩ := jn_A hP hD [0, 2] [1, 3, 4] rfl rfl (by decide) (by decide) hk1 hFc hP1 hD1
        obtain ⟨hP, hD⟩ : PD g A H [(nms_text, .inl (cs 1, nms_text_n, .inl nms_text_f)), (a, .inr (13, [.ref a_out, .ref a_walk, .ref a_next, .ref a_seen, .int a_n_15, .int a_over_15, .int a_order])), (a_out, .inl (cs 1, a_out_n, .inl a_out_15f)), (nms, .inr (10, [.ref nms_text, .ref nms_from, .ref nms_next, .ref nms_first, .int nms_size, .int nms_texted])), (nms_from, .inl (cs 0, nms_from_n, .inl nms_from_f))] := ⟨hP, hD⟩
        refine lv_icmp_ge hx hb d_MoPaper_name_26 rfl (fun h17 => ?_) (fun h17 => ?_)
        · rw [if_pos h17] at hok
          refine lv_iload_n hx hb d_MoPaper_name_64 rfl (lv_at hl 1 rfl) ?_
          refine lv_if_ne hx hb d_MoPaper_name_65 rfl (fun h18 => ?_) (fun h18 => ?_)
          · rw [if_neg h18] at hok
            have hq := Option.some.inj hok
            obtain ⟨hq0, hq⟩ := Prod.mk.inj hq
            obtain ⟨hq1, hq⟩ := Prod.mk.inj hq
            have hq2 := hq
            subst hq0
            subst hq1
            subst hq2
            obtain ⟨hP9, hD9⟩ := sub2 (ws' := [(a, .inr (13, [.ref a_out, .ref a_walk, .ref a_next, .ref a_seen, .int a_n_15, .int a_over_15, .int a_order])), (a_out, .inl (cs 1, a_out_n, .inl a_out_15f)), (nms, .inr (10, [.ref nms_text, .ref nms_from, .ref nms_next, .ref nms_first, .int nms_size, .int nms_texted])), (nms_text, .inl (cs 1, nms_text_n, .inl nms_text_f)), (nms_from, .inl (cs 0, nms_from_n, .inl nms_from_f))]) hP hD [1, 2, 3, 0, 4] rfl (by decide) rfl
            rw [hQ]
            exact W.vret hx hb hr (fun t ht hW => ⟨⟨(), rfl, trivial, by rw [ht]; exact hP9, hD9⟩, hS.F ht⟩) hS.2.2 d_MoPaper_name_74
          · rw [if_pos h18] at hok
            refine lv_aload_n hx hb d_MoPaper_name_68 rfl (lv_at hl 2 rfl) ?_
            refine lv_bipush (v := 39) hx hb d_MoPaper_name_69 (by decide) ?_
            obtain ⟨⟨a_n_19, a_over_19, a_out_f_19⟩, hc19, hok⟩ := bd_some hok
            dsimp only at hok
            obtain ⟨hPc, hDc, hFc⟩ := cut0 (wc := [(a, .inr (13, [.ref a_out, .ref a_walk, .ref a_next, .ref a_seen, .int a_n_15, .int a_over_15, .int a_order])), (a_out, .inl (cs 1, a_out_n, .inl a_out_15f))]) hP hD hS hA [1, 2] (by decide) rfl
            refine va_callv (va_runV (As := [.int 39]) (rest := []) ⟨hx, hb, hml, hown, hg⟩ (c_MoPaper_put l g cs ka a_walk a_next a_seen a a_out H.size (39 : Int32) a_n_15 a_over_15 a_order a_out_n a_out_15f a_n_19 a_over_19 a_out_f_19 hc19) (cwV (C := R_MoPaper) 1 hg (gw_V wd_743 wd_744 wd_745 wd_742 wd_741) rfl rfl rfl (by decide +kernel) ⟨Nat.le_of_ble_eq_true rfl, Nat.le_of_ble_eq_true rfl⟩) ⟨gP_blind, va_recv (q0 := 1) (ci := 13) (q := (R_MoPaper, F_MoPaper, 7)) hK hP rfl rfl, gP_pre hPc hDc hK hgl hkn hkr hS hFc⟩ rfl rfl hl.1 rfl (lv_room (Nat.le_of_ble_eq_true rfl)) d_MoPaper_name_71 ⟨Nat.le_of_ble_eq_true rfl, Nat.le_of_ble_eq_true rfl⟩) hS (fun q _ h => hFc q h) hFc (fun u t H locs ht hvm hr19 hB hz1 hk1 hS => ?_)
            rw [ht] at hB
            obtain ⟨hP1, hD1⟩ := hB
            obtain ⟨hP, hD⟩ := jn_A hP hD [1, 2] [0, 3, 4] rfl rfl (by decide) (by decide) hk1 hFc hP1 hD1
            obtain ⟨hP, hD⟩ : PD g A H [(nms_text, .inl (cs 1, nms_text_n, .inl nms_text_f)), (nms, .inr (10, [.ref nms_text, .ref nms_from, .ref nms_next, .ref nms_first, .int nms_size, .int nms_texted])), (nms_from, .inl (cs 0, nms_from_n, .inl nms_from_f)), (a, .inr (13, [.ref a_out, .ref a_walk, .ref a_next, .ref a_seen, .int a_n_19, .int a_over_19, .int a_order])), (a_out, .inl (cs 1, a_out_n, .inl a_out_f_19))] := ⟨hP, hD⟩
            have hq := Option.some.inj hok
            obtain ⟨hq0, hq⟩ := Prod.mk.inj hq
            obtain ⟨hq1, hq⟩ := Prod.mk.inj hq
            have hq2 := hq
            subst hq0
            subst hq1
            subst hq2
            obtain ⟨hP9, hD9⟩ := sub2 (ws' := [(a, .inr (13, [.ref a_out, .ref a_walk, .ref a_next, .ref a_seen, .int a_n_19, .int a_over_19, .int a_order])), (a_out, .inl (cs 1, a_out_n, .inl a_out_f_19)), (nms, .inr (10, [.ref nms_text, .ref nms_from, .ref nms_next, .ref nms_first, .int nms_size, .int nms_texted])), (nms_text, .inl (cs 1, nms_text_n, .inl nms_text_f)), (nms_from, .inl (cs 0, nms_from_n, .inl nms_from_f))]) hP hD [3, 4, 1, 0, 2] rfl (by decide) rfl
            rw [hQ]
            exact W.vret hx hb hr (fun t ht hW => ⟨⟨(), rfl, trivial, by rw [ht]; exact hP9, hD9⟩, hS.F ht⟩) hS.2.2 d_MoPaper_name_74
        · rw [if_neg h17] at hok
          refine lv_aload_n hx hb d_MoPaper_name_29 rfl (lv_at hl 3 rfl) ?_
          refine lv_iload_n hx hb d_MoPaper_name_30 rfl (lv_at hl 4 rfl) ?_
          refine lv_iload hx hb d_MoPaper_name_31 (lv_at hl 0 rfl) ?_
          obtain ⟨r20, hc20, hok⟩ := bd_some hok
          obtain ⟨hPc, hDc, hFc⟩ := cut0 (wc := [(nms, .inr (10, [.ref nms_text, .ref nms_from, .ref nms_next, .ref nms_first, .int nms_size, .int nms_texted])), (nms_text, .inl (cs 1, nms_text_n, .inl nms_text_f)), (nms_from, .inl (cs 0, nms_from_n, .inl nms_from_f))]) hP hD hS hA [3, 0, 4] (by decide) rfl
          refine va_calli (va_runV (As := [.int kk, .int x4_15]) (rest := []) ⟨hx, hb, hml, hown, hg⟩ (c_MoNames_at l g cs ka nms_next nms_first nms nms_text nms_from H.size kk x4_15 nms_size nms_texted nms_text_n nms_text_f nms_from_n nms_from_f r20 hc20) (cwV (C := R_MoNames) 2 hg (gw_V wd_748 wd_728 wd_729 wd_717 wd_726) rfl rfl rfl (by decide +kernel) ⟨Nat.le_of_ble_eq_true rfl, Nat.le_of_ble_eq_true rfl⟩) ⟨gP_blind, va_recv (q0 := 3) (ci := 10) (q := (R_MoNames, F_MoNames, 6)) hK hP rfl rfl, gP_pre hPc hDc hK hgl hkn hkr hS hFc⟩ rfl rfl hl.1 rfl (lv_room (Nat.le_of_ble_eq_true rfl)) d_MoPaper_name_33 ⟨Nat.le_of_ble_eq_true rfl, Nat.le_of_ble_eq_true rfl⟩) hS (fun q _ h => hFc q h) hFc (fun r20' u t H locs ht hvm hr20 hB hz1 hk1 hS => ?_)
          subst hr20
          rw [ht] at hB
          obtain ⟨hP1, hD1⟩ := hB
          obtain ⟨hP, hD⟩ := jn_A hP hD [3, 0, 4] [1, 2] rfl rfl (by decide) (by decide) hk1 hFc hP1 hD1
          obtain ⟨hP, hD⟩ : PD g A H [(a, .inr (13, [.ref a_out, .ref a_walk, .ref a_next, .ref a_seen, .int a_n_15, .int a_over_15, .int a_order])), (a_out, .inl (cs 1, a_out_n, .inl a_out_15f)), (nms, .inr (10, [.ref nms_text, .ref nms_from, .ref nms_next, .ref nms_first, .int nms_size, .int nms_texted])), (nms_text, .inl (cs 1, nms_text_n, .inl nms_text_f)), (nms_from, .inl (cs 0, nms_from_n, .inl nms_from_f))] := ⟨hP, hD⟩
          refine lv_bipush (v := 39) hx hb d_MoPaper_name_36 (by decide) ?_
          have J21 : ∀ (H : Heap) (locs : List Loc) (ls : Array Slot) (a_n_21 : Int32) (a_over_21 : Int32) (a_out_21f : Nat → Int32), lv_has ls 5 [(4, .int x4_15), (3, .int r1), (0, .ref a), (1, .ref nms), (2, .int kk)] → PD g A H [(a, .inr (13, [.ref a_out, .ref a_walk, .ref a_next, .ref a_seen, .int a_n_21, .int a_over_21, .int a_order])), (a_out, .inl (cs 1, a_out_n, .inl a_out_21f)), (nms, .inr (10, [.ref nms_text, .ref nms_from, .ref nms_next, .ref nms_first, .int nms_size, .int nms_texted])), (nms_text, .inl (cs 1, nms_text_n, .inl nms_text_f)), (nms_from, .inl (cs 0, nms_from_n, .inl nms_from_f))] → va_S A s.heap H locs → p_MoPaper_name_47_21 n kk a_order a_out_n nms_size nms_texted nms_text_n nms_text_f nms_from_n nms_from_f x4_15 (fun w0 w1 w2 w3 => p_MoPaper_name_19_15 n kk a_order a_out_n nms_size nms_texted nms_text_n nms_text_f nms_from_n nms_from_f r1 kf15 w0 w1 w2 w3) a_n_21 a_over_21 a_out_21f = some (o_a_n, o_a_over, o_a_out_f) → W p l e (headSpec (.code y_MoPaper_name b_MoPaper_name 5 none :: GW) { frames := 6, cells := 0, slots := 0, locals := 138 }).room s m ([.ref a, .ref nms, .int kk] : List Value).toArray below meth c H locs 0 0 Q (F0 m 47 ls []) := by
            intro H locs ls a_n_21 a_over_21 a_out_21f hl ⟨hP, hD⟩ hS hok
            unfold p_MoPaper_name_47_21 at hok
            refine lv_aload_n hx hb d_MoPaper_name_47 rfl (lv_at hl 2 rfl) ?_
            refine lv_aload_n hx hb d_MoPaper_name_48 rfl (lv_at hl 3 rfl) ?_
            refine lv_iload_n hx hb d_MoPaper_name_49 rfl (lv_at hl 4 rfl) ?_
            refine lv_iload hx hb d_MoPaper_name_50 (lv_at hl 0 rfl) ?_
            obtain ⟨r22, hc22, hok⟩ := bd_some hok
            obtain ⟨hPc, hDc, hFc⟩ := cut0 (wc := [(nms, .inr (10, [.ref nms_text, .ref nms_from, .ref nms_next, .ref nms_first, .int nms_size, .int nms_texted])), (nms_text, .inl (cs 1, nms_text_n, .inl nms_text_f)), (nms_from, .inl (cs 0, nms_from_n, .inl nms_from_f))]) hP hD hS hA [2, 3, 4] (by decide) rfl
            refine va_calli (va_runV (As := [.int kk, .int x4_15]) (rest := [.ref a]) ⟨hx, hb, hml, hown, hg⟩ (c_MoNames_at l g cs ka nms_next nms_first nms nms_text nms_from H.size kk x4_15 nms_size nms_texted nms_text_n nms_text_f nms_from_n nms_from_f r22 hc22) (cwV (C := R_MoNames) 2 hg (gw_V wd_748 wd_728 wd_729 wd_717 wd_726) rfl rfl rfl (by decide +kernel) ⟨Nat.le_of_ble_eq_true rfl, Nat.le_of_ble_eq_true rfl⟩) ⟨gP_blind, va_recv (q0 := 2) (ci := 10) (q := (R_MoNames, F_MoNames, 6)) hK hP rfl rfl, gP_pre hPc hDc hK hgl hkn hkr hS hFc⟩ rfl rfl hl.1 rfl (lv_room (Nat.le_of_ble_eq_true rfl)) d_MoPaper_name_52 ⟨Nat.le_of_ble_eq_true rfl, Nat.le_of_ble_eq_true rfl⟩) hS (fun q _ h => hFc q h) hFc (fun r22' u t H locs ht hvm hr22 hB hz1 hk1 hS => ?_)
            subst hr22
            rw [ht] at hB
            obtain ⟨hP1, hD1⟩ := hB
            obtain ⟨hP, hD⟩ := jn_A hP hD [2, 3, 4] [0, 1] rfl rfl (by decide) (by decide) hk1 hFc hP1 hD1
            obtain ⟨hP, hD⟩ : PD g A H [(a, .inr (13, [.ref a_out, .ref a_walk, .ref a_next, .ref a_seen, .int a_n_21, .int a_over_21, .int a_order])), (a_out, .inl (cs 1, a_out_n, .inl a_out_21f)), (nms, .inr (10, [.ref nms_text, .ref nms_from, .ref nms_next, .ref nms_first, .int nms_size, .int nms_texted])), (nms_text, .inl (cs 1, nms_text_n, .inl nms_text_f)), (nms_from, .inl (cs 0, nms_from_n, .inl nms_from_f))] := ⟨hP, hD⟩
            obtain ⟨⟨a_n_23, a_over_23, a_out_f_23⟩, hc23, hok⟩ := bd_some hok
            dsimp only at hok
            obtain ⟨hPc, hDc, hFc⟩ := cut0 (wc := [(a, .inr (13, [.ref a_out, .ref a_walk, .ref a_next, .ref a_seen, .int a_n_21, .int a_over_21, .int a_order])), (a_out, .inl (cs 1, a_out_n, .inl a_out_21f))]) hP hD hS hA [0, 1] (by decide) rfl
            refine va_callv (va_runV (As := [.int r22]) (rest := []) ⟨hx, hb, hml, hown, hg⟩ (c_MoPaper_put l g cs ka a_walk a_next a_seen a a_out H.size r22 a_n_21 a_over_21 a_order a_out_n a_out_21f a_n_23 a_over_23 a_out_f_23 hc23) (cwV (C := R_MoPaper) 1 hg (gw_V wd_743 wd_744 wd_745 wd_742 wd_741) rfl rfl rfl (by decide +kernel) ⟨Nat.le_of_ble_eq_true rfl, Nat.le_of_ble_eq_true rfl⟩) ⟨gP_blind, va_recv (q0 := 0) (ci := 13) (q := (R_MoPaper, F_MoPaper, 7)) hK hP rfl rfl, gP_pre hPc hDc hK hgl hkn hkr hS hFc⟩ rfl rfl hl.1 rfl (lv_room (Nat.le_of_ble_eq_true rfl)) d_MoPaper_name_55 ⟨Nat.le_of_ble_eq_true rfl, Nat.le_of_ble_eq_true rfl⟩) hS (fun q _ h => hFc q h) hFc (fun u t H locs ht hvm hr23 hB hz1 hk1 hS => ?_)
            rw [ht] at hB
            obtain ⟨hP1, hD1⟩ := hB
            obtain ⟨hP, hD⟩ := jn_A hP hD [0, 1] [2, 3, 4] rfl rfl (by decide) (by decide) hk1 hFc hP1 hD1
            obtain ⟨hP, hD⟩ : PD g A H [(nms, .inr (10, [.ref nms_text, .ref nms_from, .ref nms_next, .ref nms_first, .int nms_size, .int nms_texted])), (nms_text, .inl (cs 1, nms_text_n, .inl nms_text_f)), (nms_from, .inl (cs 0, nms_from_n, .inl nms_from_f)), (a, .inr (13, [.ref a_out, .ref a_walk, .ref a_next, .ref a_seen, .int a_n_23, .int a_over_23, .int a_order])), (a_out, .inl (cs 1, a_out_n, .inl a_out_f_23))] := ⟨hP, hD⟩
            refine lv_iinc (k := 0) (v := x4_15 + 1) hx hb d_MoPaper_name_58 hl rfl rfl (by decide) rfl (fun ls hl => ?_)
            have hl : lv_has ls 5 [(4, .int (x4_15 + 1)), (3, .int r1), (0, .ref a), (1, .ref nms), (2, .int kk)] := hl
            refine lv_goto hx hb d_MoPaper_name_61 rfl ?_
            exact ih15 _ _ _ (x4_15 + 1) a_n_23 a_over_23 a_out_f_23 (lv_sub hl [0, 1, 2, 3, 4] rfl) (sub3 hP hD [0, 1, 2, 3, 4] (by decide)) hS hok
          refine lv_icmp_ne hx hb d_MoPaper_name_38 rfl (fun h24 => ?_) (fun h24 => ?_)
          · rw [if_neg h24] at hok
            exact J21 _ _ _ a_n_15 a_over_15 a_out_15f (lv_sub hl [0, 1, 2, 3, 4] rfl) (sub3 hP hD [0, 1, 2, 3, 4] (by decide)) hS hok
          · rw [if_pos h24] at hok
            refine lv_aload_n hx hb d_MoPaper_name_41 rfl (lv_at hl 2 rfl) ?_
            refine lv_bipush (v := 39) hx hb d_MoPaper_name_42 (by decide) ?_
            obtain ⟨⟨a_n_25, a_over_25, a_out_f_25⟩, hc25, hok⟩ := bd_some hok
            dsimp only at hok
            obtain ⟨hPc, hDc, hFc⟩ := cut0 (wc := [(a, .inr (13, [.ref a_out, .ref a_walk, .ref a_next, .ref a_seen, .int a_n_15, .int a_over_15, .int a_order])), (a_out, .inl (cs 1, a_out_n, .inl a_out_15f))]) hP hD hS hA [0, 1] (by decide) rfl
            refine va_callv (va_runV (As := [.int 39]) (rest := []) ⟨hx, hb, hml, hown, hg⟩ (c_MoPaper_put l g cs ka a_walk a_next a_seen a a_out H.size (39 : Int32) a_n_15 a_over_15 a_order a_out_n a_out_15f a_n_25 a_over_25 a_out_f_25 hc25) (cwV (C := R_MoPaper) 1 hg (gw_V wd_743 wd_744 wd_745 wd_742 wd_741) rfl rfl rfl (by decide +kernel) ⟨Nat.le_of_ble_eq_true rfl, Nat.le_of_ble_eq_true rfl⟩) ⟨gP_blind, va_recv (q0 := 0) (ci := 13) (q := (R_MoPaper, F_MoPaper, 7)) hK hP rfl rfl, gP_pre hPc hDc hK hgl hkn hkr hS hFc⟩ rfl rfl hl.1 rfl (lv_room (Nat.le_of_ble_eq_true rfl)) d_MoPaper_name_44 ⟨Nat.le_of_ble_eq_true rfl, Nat.le_of_ble_eq_true rfl⟩) hS (fun q _ h => hFc q h) hFc (fun u t H locs ht hvm hr25 hB hz1 hk1 hS => ?_)
            rw [ht] at hB
            obtain ⟨hP1, hD1⟩ := hB
            obtain ⟨hP, hD⟩ := jn_A hP hD [0, 1] [2, 3, 4] rfl rfl (by decide) (by decide) hk1 hFc hP1 hD1
            obtain ⟨hP, hD⟩ : PD g A H [(nms, .inr (10, [.ref nms_text, .ref nms_from, .ref nms_next, .ref nms_first, .int nms_size, .int nms_texted])), (nms_text, .inl (cs 1, nms_text_n, .inl nms_text_f)), (nms_from, .inl (cs 0, nms_from_n, .inl nms_from_f)), (a, .inr (13, [.ref a_out, .ref a_walk, .ref a_next, .ref a_seen, .int a_n_25, .int a_over_25, .int a_order])), (a_out, .inl (cs 1, a_out_n, .inl a_out_f_25))] := ⟨hP, hD⟩
            exact J21 _ _ _ a_n_25 a_over_25 a_out_f_25 (lv_sub hl [0, 1, 2, 3, 4] rfl) (sub3 hP hD [3, 4, 0, 1, 2] (by decide)) hS hok
    exact J15 n H locs ls (0 : Int32) a_n_14 a_over_14 a_out_f_14 hl ⟨hP, hD⟩ hS hok

theorem d_MoPaper_variable_0 : decode b_MoPaper_variable 0 = .ok (.iconst 0, 1) := by decide +kernel
theorem d_MoPaper_variable_1 : decode b_MoPaper_variable 1 = .ok (.istore_n 2, 1) := by decide +kernel
theorem d_MoPaper_variable_2 : decode b_MoPaper_variable 2 = .ok (.iload_n 2, 1) := by decide +kernel
theorem d_MoPaper_variable_3 : decode b_MoPaper_variable 3 = .ok (.aload_n 0, 1) := by decide +kernel
theorem d_MoPaper_variable_4 : decode b_MoPaper_variable 4 = .ok (.getfield 71, 3) := by decide +kernel
theorem d_MoPaper_variable_7 : decode b_MoPaper_variable 7 = .ok (.if_icmp .ge 19, 3) := by decide +kernel
theorem d_MoPaper_variable_10 : decode b_MoPaper_variable 10 = .ok (.aload_n 0, 1) := by decide +kernel
theorem d_MoPaper_variable_11 : decode b_MoPaper_variable 11 = .ok (.getfield 22, 3) := by decide +kernel
theorem d_MoPaper_variable_14 : decode b_MoPaper_variable 14 = .ok (.iload_n 2, 1) := by decide +kernel
theorem d_MoPaper_variable_15 : decode b_MoPaper_variable 15 = .ok (.iaload, 1) := by decide +kernel
theorem d_MoPaper_variable_16 : decode b_MoPaper_variable 16 = .ok (.iload_n 1, 1) := by decide +kernel
theorem d_MoPaper_variable_17 : decode b_MoPaper_variable 17 = .ok (.if_icmp .eq 9, 3) := by decide +kernel
theorem d_MoPaper_variable_20 : decode b_MoPaper_variable 20 = .ok (.iinc 2 1, 3) := by decide +kernel
theorem d_MoPaper_variable_23 : decode b_MoPaper_variable 23 = .ok (.goto (-21), 3) := by decide +kernel
theorem d_MoPaper_variable_26 : decode b_MoPaper_variable 26 = .ok (.iload_n 2, 1) := by decide +kernel
theorem d_MoPaper_variable_27 : decode b_MoPaper_variable 27 = .ok (.aload_n 0, 1) := by decide +kernel
theorem d_MoPaper_variable_28 : decode b_MoPaper_variable 28 = .ok (.getfield 71, 3) := by decide +kernel
theorem d_MoPaper_variable_31 : decode b_MoPaper_variable 31 = .ok (.if_icmp .ne 23, 3) := by decide +kernel
theorem d_MoPaper_variable_34 : decode b_MoPaper_variable 34 = .ok (.aload_n 0, 1) := by decide +kernel
theorem d_MoPaper_variable_35 : decode b_MoPaper_variable 35 = .ok (.getfield 22, 3) := by decide +kernel
theorem d_MoPaper_variable_38 : decode b_MoPaper_variable 38 = .ok (.aload_n 0, 1) := by decide +kernel
theorem d_MoPaper_variable_39 : decode b_MoPaper_variable 39 = .ok (.getfield 71, 3) := by decide +kernel
theorem d_MoPaper_variable_42 : decode b_MoPaper_variable 42 = .ok (.iload_n 1, 1) := by decide +kernel
theorem d_MoPaper_variable_43 : decode b_MoPaper_variable 43 = .ok (.iastore, 1) := by decide +kernel
theorem d_MoPaper_variable_44 : decode b_MoPaper_variable 44 = .ok (.aload_n 0, 1) := by decide +kernel
theorem d_MoPaper_variable_45 : decode b_MoPaper_variable 45 = .ok (.dup, 1) := by decide +kernel
theorem d_MoPaper_variable_46 : decode b_MoPaper_variable 46 = .ok (.getfield 71, 3) := by decide +kernel
theorem d_MoPaper_variable_49 : decode b_MoPaper_variable 49 = .ok (.iconst 1, 1) := by decide +kernel
theorem d_MoPaper_variable_50 : decode b_MoPaper_variable 50 = .ok (.iadd, 1) := by decide +kernel
theorem d_MoPaper_variable_51 : decode b_MoPaper_variable 51 = .ok (.putfield 71, 3) := by decide +kernel
theorem d_MoPaper_variable_54 : decode b_MoPaper_variable 54 = .ok (.aload_n 0, 1) := by decide +kernel
theorem d_MoPaper_variable_55 : decode b_MoPaper_variable 55 = .ok (.bipush 95, 2) := by decide +kernel
theorem d_MoPaper_variable_57 : decode b_MoPaper_variable 57 = .ok (.invokevirtual 33, 3) := by decide +kernel
theorem d_MoPaper_variable_60 : decode b_MoPaper_variable 60 = .ok (.aload_n 0, 1) := by decide +kernel
theorem d_MoPaper_variable_61 : decode b_MoPaper_variable 61 = .ok (.iload_n 2, 1) := by decide +kernel
theorem d_MoPaper_variable_62 : decode b_MoPaper_variable 62 = .ok (.i2l, 1) := by decide +kernel
theorem d_MoPaper_variable_63 : decode b_MoPaper_variable 63 = .ok (.invokevirtual 74, 3) := by decide +kernel
theorem d_MoPaper_variable_66 : decode b_MoPaper_variable 66 = .ok (.return_, 1) := by decide +kernel
def p_MoPaper_variable_26 (n : Nat) (v : Int32) (a_n : Int32) (a_over : Int32) (a_order : Int32) (a_out_n : Nat) (a_out_f : Nat → Int32) (a_seen_n : Nat) (a_seen_f : Nat → Int32) (x2_1 : Int32) : Option (Int32 × Int32 × Int32 × (Nat → Int32) × (Nat → Int32)) := if x2_1 = a_order then (ck (ixb a_order a_seen_n) ((p_MoPaper_put (95 : Int32) a_n a_over (a_order + 1) a_out_n a_out_f).bind (fun (a_n_7, a_over_7, a_out_f_7) => (p_MoPaper_number n x2_1.toInt64 a_n_7 a_over_7 (a_order + 1) a_out_n a_out_f_7).bind (fun (a_n_8, a_over_8, a_out_f_8) => some (a_n_8, a_over_8, a_order + 1, a_out_f_8, upd a_seen_f a_order.toNatClampNeg v))))) else ((p_MoPaper_put (95 : Int32) a_n a_over a_order a_out_n a_out_f).bind (fun (a_n_4, a_over_4, a_out_f_4) => (p_MoPaper_number n x2_1.toInt64 a_n_4 a_over_4 a_order a_out_n a_out_f_4).bind (fun (a_n_5, a_over_5, a_out_f_5) => some (a_n_5, a_over_5, a_order, a_out_f_5, a_seen_f))))
def p_MoPaper_variable_2 (n : Nat) (v : Int32) (a_n : Int32) (a_over : Int32) (a_order : Int32) (a_out_n : Nat) (a_out_f : Nat → Int32) (a_seen_n : Nat) (a_seen_f : Nat → Int32) (kf1 : Nat) (x2_1 : Int32) : Option (Int32 × Int32 × Int32 × (Nat → Int32) × (Nat → Int32)) := match kf1 with
  | 0 => none
  | kf1 + 1 => if a_order ≤ x2_1 then (p_MoPaper_variable_26 n v a_n a_over a_order a_out_n a_out_f a_seen_n a_seen_f x2_1) else (ck (ixb x2_1 a_seen_n) (if (a_seen_f x2_1.toNatClampNeg) = v then (p_MoPaper_variable_26 n v a_n a_over a_order a_out_n a_out_f a_seen_n a_seen_f x2_1) else (p_MoPaper_variable_2 n v a_n a_over a_order a_out_n a_out_f a_seen_n a_seen_f kf1 (x2_1 + 1))))
def p_MoPaper_variable (n : Nat) (v : Int32) (a_n : Int32) (a_over : Int32) (a_order : Int32) (a_out_n : Nat) (a_out_f : Nat → Int32) (a_seen_n : Nat) (a_seen_f : Nat → Int32) : Option (Int32 × Int32 × Int32 × (Nat → Int32) × (Nat → Int32)) := p_MoPaper_variable_2 n v a_n a_over a_order a_out_n a_out_f a_seen_n a_seen_f n (0 : Int32)
set_option maxHeartbeats 40000000 in
set_option maxRecDepth 100000 in
theorem c_MoPaper_variable (l : Launch) (g : va_G) (cs : Nat → ClassId) (ka : Nat → Nat) (a_walk : Nat) (a_next : Nat) (a a_out a_seen : Nat) (sz : Nat) (n : Nat) (v : Int32) (a_n : Int32) (a_over : Int32) (a_order : Int32) (a_out_n : Nat) (a_out_f : Nat → Int32) (a_seen_n : Nat) (a_seen_f : Nat → Int32) (o_a_n : Int32) (o_a_over : Int32) (o_a_order : Int32) (o_a_out_f : Nat → Int32) (o_a_seen_f : Nat → Int32) (hok : p_MoPaper_variable n v a_n a_over a_order a_out_n a_out_f a_seen_n a_seen_f = some (o_a_n, o_a_over, o_a_order, o_a_out_f, o_a_seen_f)) : Met l y_MoPaper_variable (.code y_MoPaper_variable b_MoPaper_variable 3 none :: GW) { frames := 2, cells := 0, slots := 0, locals := 47 } (va_Pc [.ref a, .int v] (gP g cs ka [(a, .inr (13, [.ref a_out, .ref a_walk, .ref a_next, .ref a_seen, .int a_n, .int a_over, .int a_order])), (a_out, .inl (cs 1, a_out_n, .inl a_out_f)), (a_seen, .inl (cs 0, a_seen_n, .inl a_seen_f))] sz)) (va_Qv (fun _ : Unit => True) (fun _ t => va_P g classes [(a, .inr (13, [.ref a_out, .ref a_walk, .ref a_next, .ref a_seen, .int o_a_n, .int o_a_over, .int o_a_order])), (a_out, .inl (cs 1, a_out_n, .inl o_a_out_f)), (a_seen, .inl (cs 0, a_seen_n, .inl o_a_seen_f))] t.heap ∧ va_D (va_A [(a, .inr (13, [.ref a_out, .ref a_walk, .ref a_next, .ref a_seen, .int a_n, .int a_over, .int a_order])), (a_out, .inl (cs 1, a_out_n, .inl a_out_f)), (a_seen, .inl (cs 0, a_seen_n, .inl a_seen_f))] sz) [(a, .inr (13, [.ref a_out, .ref a_walk, .ref a_next, .ref a_seen, .int o_a_n, .int o_a_over, .int o_a_order])), (a_out, .inl (cs 1, a_out_n, .inl o_a_out_f)), (a_seen, .inl (cs 0, a_seen_n, .inl o_a_seen_f))]) (va_A [(a, .inr (13, [.ref a_out, .ref a_walk, .ref a_next, .ref a_seen, .int a_n, .int a_over, .int a_order])), (a_out, .inl (cs 1, a_out_n, .inl a_out_f)), (a_seen, .inl (cs 0, a_seen_n, .inl a_seen_f))] sz)) 0 0 (va_A [(a, .inr (13, [.ref a_out, .ref a_walk, .ref a_next, .ref a_seen, .int a_n, .int a_over, .int a_order])), (a_out, .inl (cs 1, a_out_n, .inl a_out_f)), (a_seen, .inl (cs 0, a_seen_n, .inl a_seen_f))] sz) := by
  refine Met.ofW (cc := b_MoPaper_variable) (maxL := 3) (ret := none) (by decide) rfl ?_
  intro p e s m args below meth c s₁ B hml hv
  obtain ⟨rfl, hsz, hP, hK, hD0, hgl, hkn, hkr⟩ := hv
  have hx := B.exec
  have hb := B.bytes
  have hr := B.returns
  have hg : ∀ w ∈ GW, w.before ([.ref a, .int v] : List Value).toArray s = true := fun w hw => atoms_spec (ws := .code y_MoPaper_variable b_MoPaper_variable 3 none :: GW) B.pre w (List.mem_cons_of_mem _ hw)
  have hown : s.vm.findClass R_MoPaper = some m.cls := findClass_of_methodNamed B.named
  have hlocks := B.notSynchronized
  subst hsz
  have hD := hD0.self (sz := s.heap.size)
  generalize hAe : va_A [(a, .inr (13, [.ref a_out, .ref a_walk, .ref a_next, .ref a_seen, .int a_n, .int a_over, .int a_order])), (a_out, .inl (cs 1, a_out_n, .inl a_out_f)), (a_seen, .inl (cs 0, a_seen_n, .inl a_seen_f))] s.heap.size = A at hD hkn ⊢
  have hA : ∀ q : Nat, s.heap.size ≤ q → A q := fun q h => by rw [← hAe]; exact Or.inr h
  have hS : va_S A s.heap s.heap [] := va_S.rf
  have hP : va_P g classes [(a, .inr (13, [.ref a_out, .ref a_walk, .ref a_next, .ref a_seen, .int a_n, .int a_over, .int a_order])), (a_out, .inl (cs 1, a_out_n, .inl a_out_f)), (a_seen, .inl (cs 0, a_seen_n, .inl a_seen_f))] s.heap := hP
  have hl := lv_entry ([.ref a, .int v]) (n := 3) (Nat.le_of_ble_eq_true rfl)
  rw [lg_entry_eq]
  generalize (lg_sl ([.ref a, .int v]) ++ List.replicate (3 - (lg_sl ([.ref a, .int v])).length) Slot.unset).toArray = ls at hl ⊢
  have hl : lv_has ls 3 [(0, .ref a), (1, .int v)] := hl
  refine gq (fun Q hQ => ?_)
  obtain ⟨H, hH⟩ : ∃ H : Heap, H = s.heap := ⟨_, rfl⟩
  rw [← hH] at hP
  have hS : va_S A s.heap H [] := by rw [hH]; exact hS
  refine W.eqH hH ?_
  obtain ⟨locs, hlc⟩ : ∃ L : List Loc, L = [] := ⟨_, rfl⟩
  rw [← hlc] at hS ⊢
  unfold p_MoPaper_variable at hok
  refine lv_iconst (v := 0) hx hb d_MoPaper_variable_0 (by decide) ?_
  refine lv_istore_n hx hb d_MoPaper_variable_1 rfl hl (by decide) rfl (fun ls hl => ?_)
  have hl : lv_has ls 3 [(2, .int 0), (0, .ref a), (1, .int v)] := hl
  have J1 : ∀ (kf1 : Nat) (H : Heap) (locs : List Loc) (ls : Array Slot) (x2_1 : Int32), lv_has ls 3 [(2, .int x2_1), (0, .ref a), (1, .int v)] → PD g A H [(a, .inr (13, [.ref a_out, .ref a_walk, .ref a_next, .ref a_seen, .int a_n, .int a_over, .int a_order])), (a_out, .inl (cs 1, a_out_n, .inl a_out_f)), (a_seen, .inl (cs 0, a_seen_n, .inl a_seen_f))] → va_S A s.heap H locs → p_MoPaper_variable_2 n v a_n a_over a_order a_out_n a_out_f a_seen_n a_seen_f kf1 x2_1 = some (o_a_n, o_a_over, o_a_order, o_a_out_f, o_a_seen_f) → W p l e (headSpec (.code y_MoPaper_variable b_MoPaper_variable 3 none :: GW) { frames := 2, cells := 0, slots := 0, locals := 47 }).room s m ([.ref a, .int v] : List Value).toArray below meth c H locs 0 0 Q (F0 m 2 ls []) := by
    intro kf1
    induction kf1 with
    | zero => intro H locs ls x2_1 hl ⟨hP, hD⟩ hS hok; rw [p_MoPaper_variable_2] at hok; cases hok
    | succ kf1 ih1 =>
      intro H locs ls x2_1 hl ⟨hP, hD⟩ hS hok
      rw [p_MoPaper_variable_2] at hok
      refine lv_iload_n hx hb d_MoPaper_variable_2 rfl (lv_at hl 0 rfl) ?_
      refine lv_aload_n hx hb d_MoPaper_variable_3 rfl (lv_at hl 1 rfl) ?_
      refine va_get (D := g) (ci := 13) (v := .int a_order) (C := R_MoPaper) (T := F_MoPaper) (N := 7) hx hb hg ul_MoPaper hown hK hP 0 rfl rfl 6 (by decide) (hg _ wd_760) (fun _ h9 => h9) rfl d_MoPaper_variable_4 ?_
      have J2 : ∀ (H : Heap) (locs : List Loc) (ls : Array Slot), lv_has ls 3 [(2, .int x2_1), (0, .ref a), (1, .int v)] → PD g A H [(a, .inr (13, [.ref a_out, .ref a_walk, .ref a_next, .ref a_seen, .int a_n, .int a_over, .int a_order])), (a_out, .inl (cs 1, a_out_n, .inl a_out_f)), (a_seen, .inl (cs 0, a_seen_n, .inl a_seen_f))] → va_S A s.heap H locs → p_MoPaper_variable_26 n v a_n a_over a_order a_out_n a_out_f a_seen_n a_seen_f x2_1 = some (o_a_n, o_a_over, o_a_order, o_a_out_f, o_a_seen_f) → W p l e (headSpec (.code y_MoPaper_variable b_MoPaper_variable 3 none :: GW) { frames := 2, cells := 0, slots := 0, locals := 47 }).room s m ([.ref a, .int v] : List Value).toArray below meth c H locs 0 0 Q (F0 m 26 ls []) := by
        intro H locs ls hl ⟨hP, hD⟩ hS hok
        unfold p_MoPaper_variable_26 at hok
        refine lv_iload_n hx hb d_MoPaper_variable_26 rfl (lv_at hl 0 rfl) ?_
        refine lv_aload_n hx hb d_MoPaper_variable_27 rfl (lv_at hl 1 rfl) ?_
        refine va_get (D := g) (ci := 13) (v := .int a_order) (C := R_MoPaper) (T := F_MoPaper) (N := 7) hx hb hg ul_MoPaper hown hK hP 0 rfl rfl 6 (by decide) (hg _ wd_760) (fun _ h9 => h9) rfl d_MoPaper_variable_28 ?_
        refine lv_icmp_ne hx hb d_MoPaper_variable_31 rfl (fun h3 => ?_) (fun h3 => ?_)
        · rw [if_neg h3] at hok
          refine lv_aload_n hx hb d_MoPaper_variable_54 rfl (lv_at hl 1 rfl) ?_
          refine lv_bipush (v := 95) hx hb d_MoPaper_variable_55 (by decide) ?_
          obtain ⟨⟨a_n_4, a_over_4, a_out_f_4⟩, hc4, hok⟩ := bd_some hok
          dsimp only at hok
          obtain ⟨hPc, hDc, hFc⟩ := cut0 (wc := [(a, .inr (13, [.ref a_out, .ref a_walk, .ref a_next, .ref a_seen, .int a_n, .int a_over, .int a_order])), (a_out, .inl (cs 1, a_out_n, .inl a_out_f))]) hP hD hS hA [0, 1] (by decide) rfl
          refine va_callv (va_runV (As := [.int 95]) (rest := []) ⟨hx, hb, hml, hown, hg⟩ (c_MoPaper_put l g cs ka a_walk a_next a_seen a a_out H.size (95 : Int32) a_n a_over a_order a_out_n a_out_f a_n_4 a_over_4 a_out_f_4 hc4) (cwV (C := R_MoPaper) 1 hg (gw_V wd_743 wd_744 wd_745 wd_742 wd_741) rfl rfl rfl (by decide +kernel) ⟨Nat.le_of_ble_eq_true rfl, Nat.le_of_ble_eq_true rfl⟩) ⟨gP_blind, va_recv (q0 := 0) (ci := 13) (q := (R_MoPaper, F_MoPaper, 7)) hK hP rfl rfl, gP_pre hPc hDc hK hgl hkn hkr hS hFc⟩ rfl rfl hl.1 rfl (lv_room (Nat.le_of_ble_eq_true rfl)) d_MoPaper_variable_57 ⟨Nat.le_of_ble_eq_true rfl, Nat.le_of_ble_eq_true rfl⟩) hS (fun q _ h => hFc q h) hFc (fun u t H locs ht hvm hr4 hB hz1 hk1 hS => ?_)
          rw [ht] at hB
          obtain ⟨hP1, hD1⟩ := hB
          obtain ⟨hP, hD⟩ := jn_A hP hD [0, 1] [2] rfl rfl (by decide) (by decide) hk1 hFc hP1 hD1
          obtain ⟨hP, hD⟩ : PD g A H [(a_seen, .inl (cs 0, a_seen_n, .inl a_seen_f)), (a, .inr (13, [.ref a_out, .ref a_walk, .ref a_next, .ref a_seen, .int a_n_4, .int a_over_4, .int a_order])), (a_out, .inl (cs 1, a_out_n, .inl a_out_f_4))] := ⟨hP, hD⟩
          refine lv_aload_n hx hb d_MoPaper_variable_60 rfl (lv_at hl 1 rfl) ?_
          refine lv_iload_n hx hb d_MoPaper_variable_61 rfl (lv_at hl 0 rfl) ?_
          refine lv_i2l hx hb d_MoPaper_variable_62 rfl ?_
          obtain ⟨⟨a_n_5, a_over_5, a_out_f_5⟩, hc5, hok⟩ := bd_some hok
          dsimp only at hok
          obtain ⟨hPc, hDc, hFc⟩ := cut0 (wc := [(a, .inr (13, [.ref a_out, .ref a_walk, .ref a_next, .ref a_seen, .int a_n_4, .int a_over_4, .int a_order])), (a_out, .inl (cs 1, a_out_n, .inl a_out_f_4))]) hP hD hS hA [1, 2] (by decide) rfl
          refine va_callv (va_runV (As := [.long x2_1.toInt64]) (rest := []) ⟨hx, hb, hml, hown, hg⟩ (c_MoPaper_number l g cs ka a_walk a_next a_seen a a_out H.size n x2_1.toInt64 a_n_4 a_over_4 a_order a_out_n a_out_f_4 a_n_5 a_over_5 a_out_f_5 hc5) (cwV (C := R_MoPaper) 1 hg (gw_V wd_762 wd_763 wd_764 wd_742 wd_761) rfl rfl rfl (by decide +kernel) ⟨Nat.le_of_ble_eq_true rfl, Nat.le_of_ble_eq_true rfl⟩) ⟨gP_blind, va_recv (q0 := 1) (ci := 13) (q := (R_MoPaper, F_MoPaper, 7)) hK hP rfl rfl, gP_pre hPc hDc hK hgl hkn hkr hS hFc⟩ rfl rfl hl.1 rfl (lv_room (Nat.le_of_ble_eq_true rfl)) d_MoPaper_variable_63 ⟨Nat.le_of_ble_eq_true rfl, Nat.le_of_ble_eq_true rfl⟩) hS (fun q _ h => hFc q h) hFc (fun u t H locs ht hvm hr5 hB hz1 hk1 hS => ?_)
          rw [ht] at hB
          obtain ⟨hP1, hD1⟩ := hB
          obtain ⟨hP, hD⟩ := jn_A hP hD [1, 2] [0] rfl rfl (by decide) (by decide) hk1 hFc hP1 hD1
          obtain ⟨hP, hD⟩ : PD g A H [(a_seen, .inl (cs 0, a_seen_n, .inl a_seen_f)), (a, .inr (13, [.ref a_out, .ref a_walk, .ref a_next, .ref a_seen, .int a_n_5, .int a_over_5, .int a_order])), (a_out, .inl (cs 1, a_out_n, .inl a_out_f_5))] := ⟨hP, hD⟩
          have hq := Option.some.inj hok
          obtain ⟨hq0, hq⟩ := Prod.mk.inj hq
          obtain ⟨hq1, hq⟩ := Prod.mk.inj hq
          obtain ⟨hq2, hq⟩ := Prod.mk.inj hq
          obtain ⟨hq3, hq⟩ := Prod.mk.inj hq
          have hq4 := hq
          subst hq0
          subst hq1
          subst hq2
          subst hq3
          subst hq4
          obtain ⟨hP9, hD9⟩ := sub2 (ws' := [(a, .inr (13, [.ref a_out, .ref a_walk, .ref a_next, .ref a_seen, .int a_n_5, .int a_over_5, .int a_order])), (a_out, .inl (cs 1, a_out_n, .inl a_out_f_5)), (a_seen, .inl (cs 0, a_seen_n, .inl a_seen_f))]) hP hD [1, 2, 0] rfl (by decide) rfl
          rw [hQ]
          exact W.vret hx hb hr (fun t ht hW => ⟨⟨(), rfl, trivial, by rw [ht]; exact hP9, hD9⟩, hS.F ht⟩) hS.2.2 d_MoPaper_variable_66
        · rw [if_pos h3] at hok
          refine lv_aload_n hx hb d_MoPaper_variable_34 rfl (lv_at hl 1 rfl) ?_
          refine va_get (D := g) (ci := 13) (v := .ref a_seen) (C := R_MoPaper) (T := F_MoPaper) (N := 7) hx hb hg ul_MoPaper hown hK hP 0 rfl rfl 3 (by decide) (hg _ wd_735) (fun _ h9 => h9) rfl d_MoPaper_variable_35 ?_
          refine lv_aload_n hx hb d_MoPaper_variable_38 rfl (lv_at hl 1 rfl) ?_
          refine va_get (D := g) (ci := 13) (v := .int a_order) (C := R_MoPaper) (T := F_MoPaper) (N := 7) hx hb hg ul_MoPaper hown hK hP 0 rfl rfl 6 (by decide) (hg _ wd_760) (fun _ h9 => h9) rfl d_MoPaper_variable_39 ?_
          refine lv_iload_n hx hb d_MoPaper_variable_42 rfl (lv_at hl 2 rfl) ?_
          obtain ⟨hi6, hok⟩ := ck_some hok
          refine va_iast hx hb hK hP hD hS 2 0 rfl rfl (ixb_in hi6) d_MoPaper_variable_43 (fun H locs hP hD hS => ?_)
          obtain ⟨hP, hD⟩ : PD g A H [(a, .inr (13, [.ref a_out, .ref a_walk, .ref a_next, .ref a_seen, .int a_n, .int a_over, .int a_order])), (a_out, .inl (cs 1, a_out_n, .inl a_out_f)), (a_seen, .inl (cs 0, a_seen_n, .inl (upd a_seen_f a_order.toNatClampNeg v)))] := ⟨hP, hD⟩
          refine lv_aload_n hx hb d_MoPaper_variable_44 rfl (lv_at hl 1 rfl) ?_
          refine lv_dup hx hb d_MoPaper_variable_45 rfl ?_
          refine va_get (D := g) (ci := 13) (v := .int a_order) (C := R_MoPaper) (T := F_MoPaper) (N := 7) hx hb hg ul_MoPaper hown hK hP 0 rfl rfl 6 (by decide) (hg _ wd_760) (fun _ h9 => h9) rfl d_MoPaper_variable_46 ?_
          refine lv_iconst (v := 1) hx hb d_MoPaper_variable_49 (by decide) ?_
          refine lv_iadd hx hb d_MoPaper_variable_50 ?_
          refine va_put (D := g) (ci := 13) (v := .int (a_order + 1)) (ty := .int) (C := R_MoPaper) (T := F_MoPaper) (N := 7) hx hb hg ul_MoPaper t_MoPaper tk_MoPaper n_MoPaper hown hK hP hD hS 0 rfl rfl 6 (by decide) (hg _ wd_760) (fun _ h9 => h9) rfl (by decide +kernel) rfl rfl (Nat.le_of_ble_eq_true rfl) d_MoPaper_variable_51 (fun H locs hP hD hS => ?_)
          obtain ⟨hP, hD⟩ : PD g A H [(a, .inr (13, [.ref a_out, .ref a_walk, .ref a_next, .ref a_seen, .int a_n, .int a_over, .int (a_order + 1)])), (a_out, .inl (cs 1, a_out_n, .inl a_out_f)), (a_seen, .inl (cs 0, a_seen_n, .inl (upd a_seen_f a_order.toNatClampNeg v)))] := ⟨hP, hD⟩
          refine lv_aload_n hx hb d_MoPaper_variable_54 rfl (lv_at hl 1 rfl) ?_
          refine lv_bipush (v := 95) hx hb d_MoPaper_variable_55 (by decide) ?_
          obtain ⟨⟨a_n_7, a_over_7, a_out_f_7⟩, hc7, hok⟩ := bd_some hok
          dsimp only at hok
          obtain ⟨hPc, hDc, hFc⟩ := cut0 (wc := [(a, .inr (13, [.ref a_out, .ref a_walk, .ref a_next, .ref a_seen, .int a_n, .int a_over, .int (a_order + 1)])), (a_out, .inl (cs 1, a_out_n, .inl a_out_f))]) hP hD hS hA [0, 1] (by decide) rfl
          refine va_callv (va_runV (As := [.int 95]) (rest := []) ⟨hx, hb, hml, hown, hg⟩ (c_MoPaper_put l g cs ka a_walk a_next a_seen a a_out H.size (95 : Int32) a_n a_over (a_order + 1) a_out_n a_out_f a_n_7 a_over_7 a_out_f_7 hc7) (cwV (C := R_MoPaper) 1 hg (gw_V wd_743 wd_744 wd_745 wd_742 wd_741) rfl rfl rfl (by decide +kernel) ⟨Nat.le_of_ble_eq_true rfl, Nat.le_of_ble_eq_true rfl⟩) ⟨gP_blind, va_recv (q0 := 0) (ci := 13) (q := (R_MoPaper, F_MoPaper, 7)) hK hP rfl rfl, gP_pre hPc hDc hK hgl hkn hkr hS hFc⟩ rfl rfl hl.1 rfl (lv_room (Nat.le_of_ble_eq_true rfl)) d_MoPaper_variable_57 ⟨Nat.le_of_ble_eq_true rfl, Nat.le_of_ble_eq_true rfl⟩) hS (fun q _ h => hFc q h) hFc (fun u t H locs ht hvm hr7 hB hz1 hk1 hS => ?_)
          rw [ht] at hB
          obtain ⟨hP1, hD1⟩ := hB
          obtain ⟨hP, hD⟩ := jn_A hP hD [0, 1] [2] rfl rfl (by decide) (by decide) hk1 hFc hP1 hD1
          obtain ⟨hP, hD⟩ : PD g A H [(a_seen, .inl (cs 0, a_seen_n, .inl (upd a_seen_f a_order.toNatClampNeg v))), (a, .inr (13, [.ref a_out, .ref a_walk, .ref a_next, .ref a_seen, .int a_n_7, .int a_over_7, .int (a_order + 1)])), (a_out, .inl (cs 1, a_out_n, .inl a_out_f_7))] := ⟨hP, hD⟩
          refine lv_aload_n hx hb d_MoPaper_variable_60 rfl (lv_at hl 1 rfl) ?_
          refine lv_iload_n hx hb d_MoPaper_variable_61 rfl (lv_at hl 0 rfl) ?_
          refine lv_i2l hx hb d_MoPaper_variable_62 rfl ?_
          obtain ⟨⟨a_n_8, a_over_8, a_out_f_8⟩, hc8, hok⟩ := bd_some hok
          dsimp only at hok
          obtain ⟨hPc, hDc, hFc⟩ := cut0 (wc := [(a, .inr (13, [.ref a_out, .ref a_walk, .ref a_next, .ref a_seen, .int a_n_7, .int a_over_7, .int (a_order + 1)])), (a_out, .inl (cs 1, a_out_n, .inl a_out_f_7))]) hP hD hS hA [1, 2] (by decide) rfl
          refine va_callv (va_runV (As := [.long x2_1.toInt64]) (rest := []) ⟨hx, hb, hml, hown, hg⟩ (c_MoPaper_number l g cs ka a_walk a_next a_seen a a_out H.size n x2_1.toInt64 a_n_7 a_over_7 (a_order + 1) a_out_n a_out_f_7 a_n_8 a_over_8 a_out_f_8 hc8) (cwV (C := R_MoPaper) 1 hg (gw_V wd_762 wd_763 wd_764 wd_742 wd_761) rfl rfl rfl (by decide +kernel) ⟨Nat.le_of_ble_eq_true rfl, Nat.le_of_ble_eq_true rfl⟩) ⟨gP_blind, va_recv (q0 := 1) (ci := 13) (q := (R_MoPaper, F_MoPaper, 7)) hK hP rfl rfl, gP_pre hPc hDc hK hgl hkn hkr hS hFc⟩ rfl rfl hl.1 rfl (lv_room (Nat.le_of_ble_eq_true rfl)) d_MoPaper_variable_63 ⟨Nat.le_of_ble_eq_true rfl, Nat.le_of_ble_eq_true rfl⟩) hS (fun q _ h => hFc q h) hFc (fun u t H locs ht hvm hr8 hB hz1 hk1 hS => ?_)
          rw [ht] at hB
          obtain ⟨hP1, hD1⟩ := hB
          obtain ⟨hP, hD⟩ := jn_A hP hD [1, 2] [0] rfl rfl (by decide) (by decide) hk1 hFc hP1 hD1
          obtain ⟨hP, hD⟩ : PD g A H [(a_seen, .inl (cs 0, a_seen_n, .inl (upd a_seen_f a_order.toNatClampNeg v))), (a, .inr (13, [.ref a_out, .ref a_walk, .ref a_next, .ref a_seen, .int a_n_8, .int a_over_8, .int (a_order + 1)])), (a_out, .inl (cs 1, a_out_n, .inl a_out_f_8))] := ⟨hP, hD⟩
          have hq := Option.some.inj hok
          obtain ⟨hq0, hq⟩ := Prod.mk.inj hq
          obtain ⟨hq1, hq⟩ := Prod.mk.inj hq
          obtain ⟨hq2, hq⟩ := Prod.mk.inj hq
          obtain ⟨hq3, hq⟩ := Prod.mk.inj hq
          have hq4 := hq
          subst hq0
          subst hq1
          subst hq2
          subst hq3
          subst hq4
          obtain ⟨hP9, hD9⟩ := sub2 (ws' := [(a, .inr (13, [.ref a_out, .ref a_walk, .ref a_next, .ref a_seen, .int a_n_8, .int a_over_8, .int (a_order + 1)])), (a_out, .inl (cs 1, a_out_n, .inl a_out_f_8)), (a_seen, .inl (cs 0, a_seen_n, .inl (upd a_seen_f a_order.toNatClampNeg v)))]) hP hD [1, 2, 0] rfl (by decide) rfl
          rw [hQ]
          exact W.vret hx hb hr (fun t ht hW => ⟨⟨(), rfl, trivial, by rw [ht]; exact hP9, hD9⟩, hS.F ht⟩) hS.2.2 d_MoPaper_variable_66
      refine lv_icmp_ge hx hb d_MoPaper_variable_7 rfl (fun h9 => ?_) (fun h9 => ?_)
      · rw [if_pos h9] at hok
        exact J2 _ _ _ (lv_sub hl [0, 1, 2] rfl) (sub3 hP hD [0, 1, 2] (by decide)) hS hok
      · rw [if_neg h9] at hok
        refine lv_aload_n hx hb d_MoPaper_variable_10 rfl (lv_at hl 1 rfl) ?_
        refine va_get (D := g) (ci := 13) (v := .ref a_seen) (C := R_MoPaper) (T := F_MoPaper) (N := 7) hx hb hg ul_MoPaper hown hK hP 0 rfl rfl 3 (by decide) (hg _ wd_735) (fun _ h9 => h9) rfl d_MoPaper_variable_11 ?_
        refine lv_iload_n hx hb d_MoPaper_variable_14 rfl (lv_at hl 0 rfl) ?_
        obtain ⟨hi10, hok⟩ := ck_some hok
        refine va_iald hx hb hK hP 2 0 rfl rfl (ixb_in hi10) d_MoPaper_variable_15 ?_
        refine lv_iload_n hx hb d_MoPaper_variable_16 rfl (lv_at hl 2 rfl) ?_
        refine lv_icmp_eq hx hb d_MoPaper_variable_17 rfl (fun h11 => ?_) (fun h11 => ?_)
        · rw [if_pos h11] at hok
          exact J2 _ _ _ (lv_sub hl [0, 1, 2] rfl) (sub3 hP hD [0, 1, 2] (by decide)) hS hok
        · rw [if_neg h11] at hok
          refine lv_iinc (k := 0) (v := x2_1 + 1) hx hb d_MoPaper_variable_20 hl rfl rfl (by decide) rfl (fun ls hl => ?_)
          have hl : lv_has ls 3 [(2, .int (x2_1 + 1)), (0, .ref a), (1, .int v)] := hl
          refine lv_goto hx hb d_MoPaper_variable_23 rfl ?_
          exact ih1 _ _ _ (x2_1 + 1) (lv_sub hl [0, 1, 2] rfl) (sub3 hP hD [0, 1, 2] (by decide)) hS hok
  exact J1 n H locs ls (0 : Int32) hl ⟨hP, hD⟩ hS hok

theorem d_MoPaper_compound_0 : decode b_MoPaper_compound 0 = .ok (.iload 4, 2) := by decide +kernel
theorem d_MoPaper_compound_2 : decode b_MoPaper_compound 2 = .ok (.ifCond .ne 14, 3) := by decide +kernel
theorem d_MoPaper_compound_5 : decode b_MoPaper_compound 5 = .ok (.aload_n 0, 1) := by decide +kernel
theorem d_MoPaper_compound_6 : decode b_MoPaper_compound 6 = .ok (.aload_n 2, 1) := by decide +kernel
theorem d_MoPaper_compound_7 : decode b_MoPaper_compound 7 = .ok (.aload_n 1, 1) := by decide +kernel
theorem d_MoPaper_compound_8 : decode b_MoPaper_compound 8 = .ok (.getfield 83, 3) := by decide +kernel
theorem d_MoPaper_compound_11 : decode b_MoPaper_compound 11 = .ok (.iload_n 3, 1) := by decide +kernel
theorem d_MoPaper_compound_12 : decode b_MoPaper_compound 12 = .ok (.iaload, 1) := by decide +kernel
theorem d_MoPaper_compound_13 : decode b_MoPaper_compound 13 = .ok (.invokevirtual 102, 3) := by decide +kernel
theorem d_MoPaper_compound_16 : decode b_MoPaper_compound 16 = .ok (.aload_n 1, 1) := by decide +kernel
theorem d_MoPaper_compound_17 : decode b_MoPaper_compound 17 = .ok (.getfield 92, 3) := by decide +kernel
theorem d_MoPaper_compound_20 : decode b_MoPaper_compound 20 = .ok (.iload_n 3, 1) := by decide +kernel
theorem d_MoPaper_compound_21 : decode b_MoPaper_compound 21 = .ok (.iaload, 1) := by decide +kernel
theorem d_MoPaper_compound_22 : decode b_MoPaper_compound 22 = .ok (.ifCond .ne 8, 3) := by decide +kernel
theorem d_MoPaper_compound_25 : decode b_MoPaper_compound 25 = .ok (.iload 5, 2) := by decide +kernel
theorem d_MoPaper_compound_27 : decode b_MoPaper_compound 27 = .ok (.iconst 1, 1) := by decide +kernel
theorem d_MoPaper_compound_28 : decode b_MoPaper_compound 28 = .ok (.isub, 1) := by decide +kernel
theorem d_MoPaper_compound_29 : decode b_MoPaper_compound 29 = .ok (.ireturn, 1) := by decide +kernel
theorem d_MoPaper_compound_30 : decode b_MoPaper_compound 30 = .ok (.iload 4, 2) := by decide +kernel
theorem d_MoPaper_compound_32 : decode b_MoPaper_compound 32 = .ok (.aload_n 1, 1) := by decide +kernel
theorem d_MoPaper_compound_33 : decode b_MoPaper_compound 33 = .ok (.getfield 92, 3) := by decide +kernel
theorem d_MoPaper_compound_36 : decode b_MoPaper_compound 36 = .ok (.iload_n 3, 1) := by decide +kernel
theorem d_MoPaper_compound_37 : decode b_MoPaper_compound 37 = .ok (.iaload, 1) := by decide +kernel
theorem d_MoPaper_compound_38 : decode b_MoPaper_compound 38 = .ok (.if_icmp .ne 14, 3) := by decide +kernel
theorem d_MoPaper_compound_41 : decode b_MoPaper_compound 41 = .ok (.aload_n 0, 1) := by decide +kernel
theorem d_MoPaper_compound_42 : decode b_MoPaper_compound 42 = .ok (.bipush 41, 2) := by decide +kernel
theorem d_MoPaper_compound_44 : decode b_MoPaper_compound 44 = .ok (.invokevirtual 33, 3) := by decide +kernel
theorem d_MoPaper_compound_47 : decode b_MoPaper_compound 47 = .ok (.iload 5, 2) := by decide +kernel
theorem d_MoPaper_compound_49 : decode b_MoPaper_compound 49 = .ok (.iconst 1, 1) := by decide +kernel
theorem d_MoPaper_compound_50 : decode b_MoPaper_compound 50 = .ok (.isub, 1) := by decide +kernel
theorem d_MoPaper_compound_51 : decode b_MoPaper_compound 51 = .ok (.ireturn, 1) := by decide +kernel
theorem d_MoPaper_compound_52 : decode b_MoPaper_compound 52 = .ok (.aload_n 0, 1) := by decide +kernel
theorem d_MoPaper_compound_53 : decode b_MoPaper_compound 53 = .ok (.iload 4, 2) := by decide +kernel
theorem d_MoPaper_compound_55 : decode b_MoPaper_compound 55 = .ok (.ifCond .ne 8, 3) := by decide +kernel
theorem d_MoPaper_compound_58 : decode b_MoPaper_compound 58 = .ok (.bipush 40, 2) := by decide +kernel
theorem d_MoPaper_compound_60 : decode b_MoPaper_compound 60 = .ok (.goto 5, 3) := by decide +kernel
theorem d_MoPaper_compound_63 : decode b_MoPaper_compound 63 = .ok (.bipush 44, 2) := by decide +kernel
theorem d_MoPaper_compound_65 : decode b_MoPaper_compound 65 = .ok (.invokevirtual 33, 3) := by decide +kernel
theorem d_MoPaper_compound_68 : decode b_MoPaper_compound 68 = .ok (.aload_n 0, 1) := by decide +kernel
theorem d_MoPaper_compound_69 : decode b_MoPaper_compound 69 = .ok (.getfield 19, 3) := by decide +kernel
theorem d_MoPaper_compound_72 : decode b_MoPaper_compound 72 = .ok (.iload 5, 2) := by decide +kernel
theorem d_MoPaper_compound_74 : decode b_MoPaper_compound 74 = .ok (.iload 4, 2) := by decide +kernel
theorem d_MoPaper_compound_76 : decode b_MoPaper_compound 76 = .ok (.iconst 1, 1) := by decide +kernel
theorem d_MoPaper_compound_77 : decode b_MoPaper_compound 77 = .ok (.iadd, 1) := by decide +kernel
theorem d_MoPaper_compound_78 : decode b_MoPaper_compound 78 = .ok (.iastore, 1) := by decide +kernel
theorem d_MoPaper_compound_79 : decode b_MoPaper_compound 79 = .ok (.aload_n 0, 1) := by decide +kernel
theorem d_MoPaper_compound_80 : decode b_MoPaper_compound 80 = .ok (.getfield 15, 3) := by decide +kernel
theorem d_MoPaper_compound_83 : decode b_MoPaper_compound 83 = .ok (.iload 5, 2) := by decide +kernel
theorem d_MoPaper_compound_85 : decode b_MoPaper_compound 85 = .ok (.iconst 1, 1) := by decide +kernel
theorem d_MoPaper_compound_86 : decode b_MoPaper_compound 86 = .ok (.iadd, 1) := by decide +kernel
theorem d_MoPaper_compound_87 : decode b_MoPaper_compound 87 = .ok (.aload_n 1, 1) := by decide +kernel
theorem d_MoPaper_compound_88 : decode b_MoPaper_compound 88 = .ok (.iload_n 3, 1) := by decide +kernel
theorem d_MoPaper_compound_89 : decode b_MoPaper_compound 89 = .ok (.iload 4, 2) := by decide +kernel
theorem d_MoPaper_compound_91 : decode b_MoPaper_compound 91 = .ok (.invokevirtual 95, 3) := by decide +kernel
theorem d_MoPaper_compound_94 : decode b_MoPaper_compound 94 = .ok (.iastore, 1) := by decide +kernel
theorem d_MoPaper_compound_95 : decode b_MoPaper_compound 95 = .ok (.aload_n 0, 1) := by decide +kernel
theorem d_MoPaper_compound_96 : decode b_MoPaper_compound 96 = .ok (.getfield 19, 3) := by decide +kernel
theorem d_MoPaper_compound_99 : decode b_MoPaper_compound 99 = .ok (.iload 5, 2) := by decide +kernel
theorem d_MoPaper_compound_101 : decode b_MoPaper_compound 101 = .ok (.iconst 1, 1) := by decide +kernel
theorem d_MoPaper_compound_102 : decode b_MoPaper_compound 102 = .ok (.iadd, 1) := by decide +kernel
theorem d_MoPaper_compound_103 : decode b_MoPaper_compound 103 = .ok (.iconst 0, 1) := by decide +kernel
theorem d_MoPaper_compound_104 : decode b_MoPaper_compound 104 = .ok (.iastore, 1) := by decide +kernel
theorem d_MoPaper_compound_105 : decode b_MoPaper_compound 105 = .ok (.iload 5, 2) := by decide +kernel
theorem d_MoPaper_compound_107 : decode b_MoPaper_compound 107 = .ok (.iconst 1, 1) := by decide +kernel
theorem d_MoPaper_compound_108 : decode b_MoPaper_compound 108 = .ok (.iadd, 1) := by decide +kernel
theorem d_MoPaper_compound_109 : decode b_MoPaper_compound 109 = .ok (.ireturn, 1) := by decide +kernel
def p_MoPaper_compound_65 (n : Nat) (tm : Int32) (i : Int32) (dp : Int32) (a_order : Int32) (a_out_n : Nat) (a_walk_n : Nat) (a_walk_f : Nat → Int32) (a_next_n : Nat) (a_next_f : Nat → Int32) (tms_size : Int32) (tms_parts : Int32) (tms_first_n : Nat) (tms_first_f : Nat → Int32) (tms_part_n : Nat) (tms_part_f : Nat → Int32) (a_n_1 : Int32) (a_over_1 : Int32) (a_out_1f : Nat → Int32) (y0_6 : Int32) : Option (Int32 × Int32 × Int32 × (Nat → Int32) × (Nat → Int32) × (Nat → Int32)) := (p_MoPaper_put y0_6 a_n_1 a_over_1 a_order a_out_n a_out_1f).bind (fun (a_n_7, a_over_7, a_out_f_7) => ck (ixb dp a_next_n) ((p_MoTerms_part tm i tms_size tms_parts tms_first_n tms_first_f tms_part_n tms_part_f).bind (fun r9 => ck (ixb (dp + 1) a_walk_n) (ck (ixb (dp + 1) a_next_n) (some (dp + 1, a_n_7, a_over_7, a_out_f_7, upd a_walk_f (dp + 1).toNatClampNeg r9, upd (upd a_next_f dp.toNatClampNeg (i + 1)) (dp + 1).toNatClampNeg 0))))))
def p_MoPaper_compound_16 (n : Nat) (tm : Int32) (i : Int32) (dp : Int32) (a_order : Int32) (a_out_n : Nat) (a_walk_n : Nat) (a_walk_f : Nat → Int32) (a_next_n : Nat) (a_next_f : Nat → Int32) (tms_size : Int32) (tms_parts : Int32) (tms_first_n : Nat) (tms_first_f : Nat → Int32) (tms_many_n : Nat) (tms_many_f : Nat → Int32) (tms_part_n : Nat) (tms_part_f : Nat → Int32) (a_n_1 : Int32) (a_over_1 : Int32) (a_out_1f : Nat → Int32) : Option (Int32 × Int32 × Int32 × (Nat → Int32) × (Nat → Int32) × (Nat → Int32)) := ck (ixb tm tms_many_n) (if (tms_many_f tm.toNatClampNeg) = 0 then (some (dp - 1, a_n_1, a_over_1, a_out_1f, a_walk_f, a_next_f)) else (ck (ixb tm tms_many_n) (if i = (tms_many_f tm.toNatClampNeg) then ((p_MoPaper_put (41 : Int32) a_n_1 a_over_1 a_order a_out_n a_out_1f).bind (fun (a_n_13, a_over_13, a_out_f_13) => some (dp - 1, a_n_13, a_over_13, a_out_f_13, a_walk_f, a_next_f))) else (if i = 0 then (p_MoPaper_compound_65 n tm i dp a_order a_out_n a_walk_n a_walk_f a_next_n a_next_f tms_size tms_parts tms_first_n tms_first_f tms_part_n tms_part_f a_n_1 a_over_1 a_out_1f (40 : Int32)) else (p_MoPaper_compound_65 n tm i dp a_order a_out_n a_walk_n a_walk_f a_next_n a_next_f tms_size tms_parts tms_first_n tms_first_f tms_part_n tms_part_f a_n_1 a_over_1 a_out_1f (44 : Int32))))))
def p_MoPaper_compound (n : Nat) (tm : Int32) (i : Int32) (dp : Int32) (a_n : Int32) (a_over : Int32) (a_order : Int32) (a_out_n : Nat) (a_out_f : Nat → Int32) (a_walk_n : Nat) (a_walk_f : Nat → Int32) (a_next_n : Nat) (a_next_f : Nat → Int32) (tms_size : Int32) (tms_parts : Int32) (tms_name_n : Nat) (tms_name_f : Nat → Int32) (tms_first_n : Nat) (tms_first_f : Nat → Int32) (tms_many_n : Nat) (tms_many_f : Nat → Int32) (tms_part_n : Nat) (tms_part_f : Nat → Int32) (nms_size : Int32) (nms_texted : Int32) (nms_text_n : Nat) (nms_text_f : Nat → Int32) (nms_from_n : Nat) (nms_from_f : Nat → Int32) : Option (Int32 × Int32 × Int32 × (Nat → Int32) × (Nat → Int32) × (Nat → Int32)) := if i = 0 then (ck (ixb tm tms_name_n) ((p_MoPaper_name n (tms_name_f tm.toNatClampNeg) a_n a_over a_order a_out_n a_out_f nms_size nms_texted nms_text_n nms_text_f nms_from_n nms_from_f).bind (fun (a_n_16, a_over_16, a_out_f_16) => p_MoPaper_compound_16 n tm i dp a_order a_out_n a_walk_n a_walk_f a_next_n a_next_f tms_size tms_parts tms_first_n tms_first_f tms_many_n tms_many_f tms_part_n tms_part_f a_n_16 a_over_16 a_out_f_16))) else (p_MoPaper_compound_16 n tm i dp a_order a_out_n a_walk_n a_walk_f a_next_n a_next_f tms_size tms_parts tms_first_n tms_first_f tms_many_n tms_many_f tms_part_n tms_part_f a_n a_over a_out_f)
set_option maxHeartbeats 40000000 in
set_option maxRecDepth 100000 in
theorem c_MoPaper_compound (l : Launch) (g : va_G) (cs : Nat → ClassId) (ka : Nat → Nat) (a_seen : Nat) (tms_kind : Nat) (tms_number : Nat) (nms_next : Nat) (nms_first : Nat) (a a_out a_walk a_next tms tms_name tms_first tms_many tms_part nms nms_text nms_from : Nat) (sz : Nat) (n : Nat) (tm : Int32) (i : Int32) (dp : Int32) (a_n : Int32) (a_over : Int32) (a_order : Int32) (a_out_n : Nat) (a_out_f : Nat → Int32) (a_walk_n : Nat) (a_walk_f : Nat → Int32) (a_next_n : Nat) (a_next_f : Nat → Int32) (tms_size : Int32) (tms_parts : Int32) (tms_name_n : Nat) (tms_name_f : Nat → Int32) (tms_first_n : Nat) (tms_first_f : Nat → Int32) (tms_many_n : Nat) (tms_many_f : Nat → Int32) (tms_part_n : Nat) (tms_part_f : Nat → Int32) (nms_size : Int32) (nms_texted : Int32) (nms_text_n : Nat) (nms_text_f : Nat → Int32) (nms_from_n : Nat) (nms_from_f : Nat → Int32) (r : Int32) (o_a_n : Int32) (o_a_over : Int32) (o_a_out_f : Nat → Int32) (o_a_walk_f : Nat → Int32) (o_a_next_f : Nat → Int32) (hok : p_MoPaper_compound n tm i dp a_n a_over a_order a_out_n a_out_f a_walk_n a_walk_f a_next_n a_next_f tms_size tms_parts tms_name_n tms_name_f tms_first_n tms_first_f tms_many_n tms_many_f tms_part_n tms_part_f nms_size nms_texted nms_text_n nms_text_f nms_from_n nms_from_f = some (r, o_a_n, o_a_over, o_a_out_f, o_a_walk_f, o_a_next_f)) : Met l y_MoPaper_compound (.code y_MoPaper_compound b_MoPaper_compound 6 (some .int) :: GW) { frames := 7, cells := 0, slots := 0, locals := 162 } (va_Pc [.ref a, .ref tms, .ref nms, .int tm, .int i, .int dp] (gP g cs ka [(a, .inr (13, [.ref a_out, .ref a_walk, .ref a_next, .ref a_seen, .int a_n, .int a_over, .int a_order])), (a_out, .inl (cs 1, a_out_n, .inl a_out_f)), (a_walk, .inl (cs 0, a_walk_n, .inl a_walk_f)), (a_next, .inl (cs 0, a_next_n, .inl a_next_f)), (tms, .inr (11, [.ref tms_kind, .ref tms_name, .ref tms_first, .ref tms_many, .ref tms_part, .ref tms_number, .int tms_size, .int tms_parts])), (tms_name, .inl (cs 0, tms_name_n, .inl tms_name_f)), (tms_first, .inl (cs 0, tms_first_n, .inl tms_first_f)), (tms_many, .inl (cs 0, tms_many_n, .inl tms_many_f)), (tms_part, .inl (cs 0, tms_part_n, .inl tms_part_f)), (nms, .inr (10, [.ref nms_text, .ref nms_from, .ref nms_next, .ref nms_first, .int nms_size, .int nms_texted])), (nms_text, .inl (cs 1, nms_text_n, .inl nms_text_f)), (nms_from, .inl (cs 0, nms_from_n, .inl nms_from_f))] sz)) (va_Qi (fun (r' : Int32) (_ : Unit) => r = r') (fun _ t => va_P g classes [(a, .inr (13, [.ref a_out, .ref a_walk, .ref a_next, .ref a_seen, .int o_a_n, .int o_a_over, .int a_order])), (a_out, .inl (cs 1, a_out_n, .inl o_a_out_f)), (a_walk, .inl (cs 0, a_walk_n, .inl o_a_walk_f)), (a_next, .inl (cs 0, a_next_n, .inl o_a_next_f)), (tms, .inr (11, [.ref tms_kind, .ref tms_name, .ref tms_first, .ref tms_many, .ref tms_part, .ref tms_number, .int tms_size, .int tms_parts])), (tms_name, .inl (cs 0, tms_name_n, .inl tms_name_f)), (tms_first, .inl (cs 0, tms_first_n, .inl tms_first_f)), (tms_many, .inl (cs 0, tms_many_n, .inl tms_many_f)), (tms_part, .inl (cs 0, tms_part_n, .inl tms_part_f)), (nms, .inr (10, [.ref nms_text, .ref nms_from, .ref nms_next, .ref nms_first, .int nms_size, .int nms_texted])), (nms_text, .inl (cs 1, nms_text_n, .inl nms_text_f)), (nms_from, .inl (cs 0, nms_from_n, .inl nms_from_f))] t.heap ∧ va_D (va_A [(a, .inr (13, [.ref a_out, .ref a_walk, .ref a_next, .ref a_seen, .int a_n, .int a_over, .int a_order])), (a_out, .inl (cs 1, a_out_n, .inl a_out_f)), (a_walk, .inl (cs 0, a_walk_n, .inl a_walk_f)), (a_next, .inl (cs 0, a_next_n, .inl a_next_f)), (tms, .inr (11, [.ref tms_kind, .ref tms_name, .ref tms_first, .ref tms_many, .ref tms_part, .ref tms_number, .int tms_size, .int tms_parts])), (tms_name, .inl (cs 0, tms_name_n, .inl tms_name_f)), (tms_first, .inl (cs 0, tms_first_n, .inl tms_first_f)), (tms_many, .inl (cs 0, tms_many_n, .inl tms_many_f)), (tms_part, .inl (cs 0, tms_part_n, .inl tms_part_f)), (nms, .inr (10, [.ref nms_text, .ref nms_from, .ref nms_next, .ref nms_first, .int nms_size, .int nms_texted])), (nms_text, .inl (cs 1, nms_text_n, .inl nms_text_f)), (nms_from, .inl (cs 0, nms_from_n, .inl nms_from_f))] sz) [(a, .inr (13, [.ref a_out, .ref a_walk, .ref a_next, .ref a_seen, .int o_a_n, .int o_a_over, .int a_order])), (a_out, .inl (cs 1, a_out_n, .inl o_a_out_f)), (a_walk, .inl (cs 0, a_walk_n, .inl o_a_walk_f)), (a_next, .inl (cs 0, a_next_n, .inl o_a_next_f)), (tms, .inr (11, [.ref tms_kind, .ref tms_name, .ref tms_first, .ref tms_many, .ref tms_part, .ref tms_number, .int tms_size, .int tms_parts])), (tms_name, .inl (cs 0, tms_name_n, .inl tms_name_f)), (tms_first, .inl (cs 0, tms_first_n, .inl tms_first_f)), (tms_many, .inl (cs 0, tms_many_n, .inl tms_many_f)), (tms_part, .inl (cs 0, tms_part_n, .inl tms_part_f)), (nms, .inr (10, [.ref nms_text, .ref nms_from, .ref nms_next, .ref nms_first, .int nms_size, .int nms_texted])), (nms_text, .inl (cs 1, nms_text_n, .inl nms_text_f)), (nms_from, .inl (cs 0, nms_from_n, .inl nms_from_f))]) (va_A [(a, .inr (13, [.ref a_out, .ref a_walk, .ref a_next, .ref a_seen, .int a_n, .int a_over, .int a_order])), (a_out, .inl (cs 1, a_out_n, .inl a_out_f)), (a_walk, .inl (cs 0, a_walk_n, .inl a_walk_f)), (a_next, .inl (cs 0, a_next_n, .inl a_next_f)), (tms, .inr (11, [.ref tms_kind, .ref tms_name, .ref tms_first, .ref tms_many, .ref tms_part, .ref tms_number, .int tms_size, .int tms_parts])), (tms_name, .inl (cs 0, tms_name_n, .inl tms_name_f)), (tms_first, .inl (cs 0, tms_first_n, .inl tms_first_f)), (tms_many, .inl (cs 0, tms_many_n, .inl tms_many_f)), (tms_part, .inl (cs 0, tms_part_n, .inl tms_part_f)), (nms, .inr (10, [.ref nms_text, .ref nms_from, .ref nms_next, .ref nms_first, .int nms_size, .int nms_texted])), (nms_text, .inl (cs 1, nms_text_n, .inl nms_text_f)), (nms_from, .inl (cs 0, nms_from_n, .inl nms_from_f))] sz)) 0 0 (va_A [(a, .inr (13, [.ref a_out, .ref a_walk, .ref a_next, .ref a_seen, .int a_n, .int a_over, .int a_order])), (a_out, .inl (cs 1, a_out_n, .inl a_out_f)), (a_walk, .inl (cs 0, a_walk_n, .inl a_walk_f)), (a_next, .inl (cs 0, a_next_n, .inl a_next_f)), (tms, .inr (11, [.ref tms_kind, .ref tms_name, .ref tms_first, .ref tms_many, .ref tms_part, .ref tms_number, .int tms_size, .int tms_parts])), (tms_name, .inl (cs 0, tms_name_n, .inl tms_name_f)), (tms_first, .inl (cs 0, tms_first_n, .inl tms_first_f)), (tms_many, .inl (cs 0, tms_many_n, .inl tms_many_f)), (tms_part, .inl (cs 0, tms_part_n, .inl tms_part_f)), (nms, .inr (10, [.ref nms_text, .ref nms_from, .ref nms_next, .ref nms_first, .int nms_size, .int nms_texted])), (nms_text, .inl (cs 1, nms_text_n, .inl nms_text_f)), (nms_from, .inl (cs 0, nms_from_n, .inl nms_from_f))] sz) := by
  refine Met.ofW (cc := b_MoPaper_compound) (maxL := 6) (ret := (some .int)) (by decide) rfl ?_
  intro p e s m args below meth c s₁ B hml hv
  obtain ⟨rfl, hsz, hP, hK, hD0, hgl, hkn, hkr⟩ := hv
  have hx := B.exec
  have hb := B.bytes
  have hr := B.returns
  have hg : ∀ w ∈ GW, w.before ([.ref a, .ref tms, .ref nms, .int tm, .int i, .int dp] : List Value).toArray s = true := fun w hw => atoms_spec (ws := .code y_MoPaper_compound b_MoPaper_compound 6 (some .int) :: GW) B.pre w (List.mem_cons_of_mem _ hw)
  have hown : s.vm.findClass R_MoPaper = some m.cls := findClass_of_methodNamed B.named
  have hlocks := B.notSynchronized
  subst hsz
  have hD := hD0.self (sz := s.heap.size)
  generalize hAe : va_A [(a, .inr (13, [.ref a_out, .ref a_walk, .ref a_next, .ref a_seen, .int a_n, .int a_over, .int a_order])), (a_out, .inl (cs 1, a_out_n, .inl a_out_f)), (a_walk, .inl (cs 0, a_walk_n, .inl a_walk_f)), (a_next, .inl (cs 0, a_next_n, .inl a_next_f)), (tms, .inr (11, [.ref tms_kind, .ref tms_name, .ref tms_first, .ref tms_many, .ref tms_part, .ref tms_number, .int tms_size, .int tms_parts])), (tms_name, .inl (cs 0, tms_name_n, .inl tms_name_f)), (tms_first, .inl (cs 0, tms_first_n, .inl tms_first_f)), (tms_many, .inl (cs 0, tms_many_n, .inl tms_many_f)), (tms_part, .inl (cs 0, tms_part_n, .inl tms_part_f)), (nms, .inr (10, [.ref nms_text, .ref nms_from, .ref nms_next, .ref nms_first, .int nms_size, .int nms_texted])), (nms_text, .inl (cs 1, nms_text_n, .inl nms_text_f)), (nms_from, .inl (cs 0, nms_from_n, .inl nms_from_f))] s.heap.size = A at hD hkn ⊢
  have hA : ∀ q : Nat, s.heap.size ≤ q → A q := fun q h => by rw [← hAe]; exact Or.inr h
  have hS : va_S A s.heap s.heap [] := va_S.rf
  have hP : va_P g classes [(a, .inr (13, [.ref a_out, .ref a_walk, .ref a_next, .ref a_seen, .int a_n, .int a_over, .int a_order])), (a_out, .inl (cs 1, a_out_n, .inl a_out_f)), (a_walk, .inl (cs 0, a_walk_n, .inl a_walk_f)), (a_next, .inl (cs 0, a_next_n, .inl a_next_f)), (tms, .inr (11, [.ref tms_kind, .ref tms_name, .ref tms_first, .ref tms_many, .ref tms_part, .ref tms_number, .int tms_size, .int tms_parts])), (tms_name, .inl (cs 0, tms_name_n, .inl tms_name_f)), (tms_first, .inl (cs 0, tms_first_n, .inl tms_first_f)), (tms_many, .inl (cs 0, tms_many_n, .inl tms_many_f)), (tms_part, .inl (cs 0, tms_part_n, .inl tms_part_f)), (nms, .inr (10, [.ref nms_text, .ref nms_from, .ref nms_next, .ref nms_first, .int nms_size, .int nms_texted])), (nms_text, .inl (cs 1, nms_text_n, .inl nms_text_f)), (nms_from, .inl (cs 0, nms_from_n, .inl nms_from_f))] s.heap := hP
  have hl := lv_entry ([.ref a, .ref tms, .ref nms, .int tm, .int i, .int dp]) (n := 6) (Nat.le_of_ble_eq_true rfl)
  rw [lg_entry_eq]
  generalize (lg_sl ([.ref a, .ref tms, .ref nms, .int tm, .int i, .int dp]) ++ List.replicate (6 - (lg_sl ([.ref a, .ref tms, .ref nms, .int tm, .int i, .int dp])).length) Slot.unset).toArray = ls at hl ⊢
  have hl : lv_has ls 6 [(0, .ref a), (1, .ref tms), (2, .ref nms), (3, .int tm), (4, .int i), (5, .int dp)] := hl
  refine gq (fun Q hQ => ?_)
  obtain ⟨H, hH⟩ : ∃ H : Heap, H = s.heap := ⟨_, rfl⟩
  rw [← hH] at hP
  have hS : va_S A s.heap H [] := by rw [hH]; exact hS
  refine W.eqH hH ?_
  obtain ⟨locs, hlc⟩ : ∃ L : List Loc, L = [] := ⟨_, rfl⟩
  rw [← hlc] at hS ⊢
  unfold p_MoPaper_compound at hok
  refine lv_iload hx hb d_MoPaper_compound_0 (lv_at hl 4 rfl) ?_
  have J1 : ∀ (H : Heap) (locs : List Loc) (ls : Array Slot) (a_n_1 : Int32) (a_over_1 : Int32) (a_out_1f : Nat → Int32), lv_has ls 6 [(0, .ref a), (1, .ref tms), (2, .ref nms), (3, .int tm), (4, .int i), (5, .int dp)] → PD g A H [(a, .inr (13, [.ref a_out, .ref a_walk, .ref a_next, .ref a_seen, .int a_n_1, .int a_over_1, .int a_order])), (a_out, .inl (cs 1, a_out_n, .inl a_out_1f)), (a_walk, .inl (cs 0, a_walk_n, .inl a_walk_f)), (a_next, .inl (cs 0, a_next_n, .inl a_next_f)), (tms, .inr (11, [.ref tms_kind, .ref tms_name, .ref tms_first, .ref tms_many, .ref tms_part, .ref tms_number, .int tms_size, .int tms_parts])), (tms_name, .inl (cs 0, tms_name_n, .inl tms_name_f)), (tms_first, .inl (cs 0, tms_first_n, .inl tms_first_f)), (tms_many, .inl (cs 0, tms_many_n, .inl tms_many_f)), (tms_part, .inl (cs 0, tms_part_n, .inl tms_part_f)), (nms, .inr (10, [.ref nms_text, .ref nms_from, .ref nms_next, .ref nms_first, .int nms_size, .int nms_texted])), (nms_text, .inl (cs 1, nms_text_n, .inl nms_text_f)), (nms_from, .inl (cs 0, nms_from_n, .inl nms_from_f))] → va_S A s.heap H locs → p_MoPaper_compound_16 n tm i dp a_order a_out_n a_walk_n a_walk_f a_next_n a_next_f tms_size tms_parts tms_first_n tms_first_f tms_many_n tms_many_f tms_part_n tms_part_f a_n_1 a_over_1 a_out_1f = some (r, o_a_n, o_a_over, o_a_out_f, o_a_walk_f, o_a_next_f) → W p l e (headSpec (.code y_MoPaper_compound b_MoPaper_compound 6 (some .int) :: GW) { frames := 7, cells := 0, slots := 0, locals := 162 }).room s m ([.ref a, .ref tms, .ref nms, .int tm, .int i, .int dp] : List Value).toArray below meth c H locs 0 0 Q (F0 m 16 ls []) := by
    intro H locs ls a_n_1 a_over_1 a_out_1f hl ⟨hP, hD⟩ hS hok
    unfold p_MoPaper_compound_16 at hok
    refine lv_aload_n hx hb d_MoPaper_compound_16 rfl (lv_at hl 1 rfl) ?_
    refine va_get (D := g) (ci := 11) (v := .ref tms_many) (C := R_MoTerms) (T := F_MoTerms) (N := 8) hx hb hg ul_MoTerms hown hK hP 4 rfl rfl 3 (by decide) (hg _ wd_765) (fun _ h9 => h9) rfl d_MoPaper_compound_17 ?_
    refine lv_iload_n hx hb d_MoPaper_compound_20 rfl (lv_at hl 3 rfl) ?_
    obtain ⟨hi2, hok⟩ := ck_some hok
    refine va_iald hx hb hK hP 7 0 rfl rfl (ixb_in hi2) d_MoPaper_compound_21 ?_
    refine lv_if_ne hx hb d_MoPaper_compound_22 rfl (fun h3 => ?_) (fun h3 => ?_)
    · rw [if_neg h3] at hok
      refine lv_iload hx hb d_MoPaper_compound_30 (lv_at hl 4 rfl) ?_
      refine lv_aload_n hx hb d_MoPaper_compound_32 rfl (lv_at hl 1 rfl) ?_
      refine va_get (D := g) (ci := 11) (v := .ref tms_many) (C := R_MoTerms) (T := F_MoTerms) (N := 8) hx hb hg ul_MoTerms hown hK hP 4 rfl rfl 3 (by decide) (hg _ wd_765) (fun _ h9 => h9) rfl d_MoPaper_compound_33 ?_
      refine lv_iload_n hx hb d_MoPaper_compound_36 rfl (lv_at hl 3 rfl) ?_
      obtain ⟨hi4, hok⟩ := ck_some hok
      refine va_iald hx hb hK hP 7 0 rfl rfl (ixb_in hi4) d_MoPaper_compound_37 ?_
      refine lv_icmp_ne hx hb d_MoPaper_compound_38 rfl (fun h5 => ?_) (fun h5 => ?_)
      · rw [if_neg h5] at hok
        refine lv_aload_n hx hb d_MoPaper_compound_52 rfl (lv_at hl 0 rfl) ?_
        refine lv_iload hx hb d_MoPaper_compound_53 (lv_at hl 4 rfl) ?_
        have J6 : ∀ (H : Heap) (locs : List Loc) (ls : Array Slot) (y0_6 : Int32), lv_has ls 6 [(0, .ref a), (1, .ref tms), (2, .ref nms), (3, .int tm), (4, .int i), (5, .int dp)] → PD g A H [(a, .inr (13, [.ref a_out, .ref a_walk, .ref a_next, .ref a_seen, .int a_n_1, .int a_over_1, .int a_order])), (a_out, .inl (cs 1, a_out_n, .inl a_out_1f)), (a_walk, .inl (cs 0, a_walk_n, .inl a_walk_f)), (a_next, .inl (cs 0, a_next_n, .inl a_next_f)), (tms, .inr (11, [.ref tms_kind, .ref tms_name, .ref tms_first, .ref tms_many, .ref tms_part, .ref tms_number, .int tms_size, .int tms_parts])), (tms_name, .inl (cs 0, tms_name_n, .inl tms_name_f)), (tms_first, .inl (cs 0, tms_first_n, .inl tms_first_f)), (tms_many, .inl (cs 0, tms_many_n, .inl tms_many_f)), (tms_part, .inl (cs 0, tms_part_n, .inl tms_part_f)), (nms, .inr (10, [.ref nms_text, .ref nms_from, .ref nms_next, .ref nms_first, .int nms_size, .int nms_texted])), (nms_text, .inl (cs 1, nms_text_n, .inl nms_text_f)), (nms_from, .inl (cs 0, nms_from_n, .inl nms_from_f))] → va_S A s.heap H locs → p_MoPaper_compound_65 n tm i dp a_order a_out_n a_walk_n a_walk_f a_next_n a_next_f tms_size tms_parts tms_first_n tms_first_f tms_part_n tms_part_f a_n_1 a_over_1 a_out_1f y0_6 = some (r, o_a_n, o_a_over, o_a_out_f, o_a_walk_f, o_a_next_f) → W p l e (headSpec (.code y_MoPaper_compound b_MoPaper_compound 6 (some .int) :: GW) { frames := 7, cells := 0, slots := 0, locals := 162 }).room s m ([.ref a, .ref tms, .ref nms, .int tm, .int i, .int dp] : List Value).toArray below meth c H locs 0 0 Q (F0 m 65 ls [.int y0_6, .ref a]) := by
          intro H locs ls y0_6 hl ⟨hP, hD⟩ hS hok
          unfold p_MoPaper_compound_65 at hok
          obtain ⟨⟨a_n_7, a_over_7, a_out_f_7⟩, hc7, hok⟩ := bd_some hok
          dsimp only at hok
          obtain ⟨hPc, hDc, hFc⟩ := cut0 (wc := [(a, .inr (13, [.ref a_out, .ref a_walk, .ref a_next, .ref a_seen, .int a_n_1, .int a_over_1, .int a_order])), (a_out, .inl (cs 1, a_out_n, .inl a_out_1f))]) hP hD hS hA [0, 1] (by decide) rfl
          refine va_callv (va_runV (As := [.int y0_6]) (rest := []) ⟨hx, hb, hml, hown, hg⟩ (c_MoPaper_put l g cs ka a_walk a_next a_seen a a_out H.size y0_6 a_n_1 a_over_1 a_order a_out_n a_out_1f a_n_7 a_over_7 a_out_f_7 hc7) (cwV (C := R_MoPaper) 1 hg (gw_V wd_743 wd_744 wd_745 wd_742 wd_741) rfl rfl rfl (by decide +kernel) ⟨Nat.le_of_ble_eq_true rfl, Nat.le_of_ble_eq_true rfl⟩) ⟨gP_blind, va_recv (q0 := 0) (ci := 13) (q := (R_MoPaper, F_MoPaper, 7)) hK hP rfl rfl, gP_pre hPc hDc hK hgl hkn hkr hS hFc⟩ rfl rfl hl.1 rfl (lv_room (Nat.le_of_ble_eq_true rfl)) d_MoPaper_compound_65 ⟨Nat.le_of_ble_eq_true rfl, Nat.le_of_ble_eq_true rfl⟩) hS (fun q _ h => hFc q h) hFc (fun u t H locs ht hvm hr7 hB hz1 hk1 hS => ?_)
          rw [ht] at hB
          obtain ⟨hP1, hD1⟩ := hB
          obtain ⟨hP, hD⟩ := jn_A hP hD [0, 1] [2, 3, 4, 5, 6, 7, 8, 9, 10, 11] rfl rfl (by decide) (by decide) hk1 hFc hP1 hD1
          obtain ⟨hP, hD⟩ : PD g A H [(a_walk, .inl (cs 0, a_walk_n, .inl a_walk_f)), (a_next, .inl (cs 0, a_next_n, .inl a_next_f)), (tms, .inr (11, [.ref tms_kind, .ref tms_name, .ref tms_first, .ref tms_many, .ref tms_part, .ref tms_number, .int tms_size, .int tms_parts])), (tms_name, .inl (cs 0, tms_name_n, .inl tms_name_f)), (tms_first, .inl (cs 0, tms_first_n, .inl tms_first_f)), (tms_many, .inl (cs 0, tms_many_n, .inl tms_many_f)), (tms_part, .inl (cs 0, tms_part_n, .inl tms_part_f)), (nms, .inr (10, [.ref nms_text, .ref nms_from, .ref nms_next, .ref nms_first, .int nms_size, .int nms_texted])), (nms_text, .inl (cs 1, nms_text_n, .inl nms_text_f)), (nms_from, .inl (cs 0, nms_from_n, .inl nms_from_f)), (a, .inr (13, [.ref a_out, .ref a_walk, .ref a_next, .ref a_seen, .int a_n_7, .int a_over_7, .int a_order])), (a_out, .inl (cs 1, a_out_n, .inl a_out_f_7))] := ⟨hP, hD⟩
          refine lv_aload_n hx hb d_MoPaper_compound_68 rfl (lv_at hl 0 rfl) ?_
          refine va_get (D := g) (ci := 13) (v := .ref a_next) (C := R_MoPaper) (T := F_MoPaper) (N := 7) hx hb hg ul_MoPaper hown hK hP 10 rfl rfl 2 (by decide) (hg _ wd_734) (fun _ h9 => h9) rfl d_MoPaper_compound_69 ?_
          refine lv_iload hx hb d_MoPaper_compound_72 (lv_at hl 5 rfl) ?_
          refine lv_iload hx hb d_MoPaper_compound_74 (lv_at hl 4 rfl) ?_
          refine lv_iconst (v := 1) hx hb d_MoPaper_compound_76 (by decide) ?_
          refine lv_iadd hx hb d_MoPaper_compound_77 ?_
          obtain ⟨hi8, hok⟩ := ck_some hok
          refine va_iast hx hb hK hP hD hS 1 0 rfl rfl (ixb_in hi8) d_MoPaper_compound_78 (fun H locs hP hD hS => ?_)
          obtain ⟨hP, hD⟩ : PD g A H [(a_walk, .inl (cs 0, a_walk_n, .inl a_walk_f)), (a_next, .inl (cs 0, a_next_n, .inl (upd a_next_f dp.toNatClampNeg (i + 1)))), (tms, .inr (11, [.ref tms_kind, .ref tms_name, .ref tms_first, .ref tms_many, .ref tms_part, .ref tms_number, .int tms_size, .int tms_parts])), (tms_name, .inl (cs 0, tms_name_n, .inl tms_name_f)), (tms_first, .inl (cs 0, tms_first_n, .inl tms_first_f)), (tms_many, .inl (cs 0, tms_many_n, .inl tms_many_f)), (tms_part, .inl (cs 0, tms_part_n, .inl tms_part_f)), (nms, .inr (10, [.ref nms_text, .ref nms_from, .ref nms_next, .ref nms_first, .int nms_size, .int nms_texted])), (nms_text, .inl (cs 1, nms_text_n, .inl nms_text_f)), (nms_from, .inl (cs 0, nms_from_n, .inl nms_from_f)), (a, .inr (13, [.ref a_out, .ref a_walk, .ref a_next, .ref a_seen, .int a_n_7, .int a_over_7, .int a_order])), (a_out, .inl (cs 1, a_out_n, .inl a_out_f_7))] := ⟨hP, hD⟩
          refine lv_aload_n hx hb d_MoPaper_compound_79 rfl (lv_at hl 0 rfl) ?_
          refine va_get (D := g) (ci := 13) (v := .ref a_walk) (C := R_MoPaper) (T := F_MoPaper) (N := 7) hx hb hg ul_MoPaper hown hK hP 10 rfl rfl 1 (by decide) (hg _ wd_733) (fun _ h9 => h9) rfl d_MoPaper_compound_80 ?_
          refine lv_iload hx hb d_MoPaper_compound_83 (lv_at hl 5 rfl) ?_
          refine lv_iconst (v := 1) hx hb d_MoPaper_compound_85 (by decide) ?_
          refine lv_iadd hx hb d_MoPaper_compound_86 ?_
          refine lv_aload_n hx hb d_MoPaper_compound_87 rfl (lv_at hl 1 rfl) ?_
          refine lv_iload_n hx hb d_MoPaper_compound_88 rfl (lv_at hl 3 rfl) ?_
          refine lv_iload hx hb d_MoPaper_compound_89 (lv_at hl 4 rfl) ?_
          obtain ⟨r9, hc9, hok⟩ := bd_some hok
          obtain ⟨hPc, hDc, hFc⟩ := cut0 (wc := [(tms, .inr (11, [.ref tms_kind, .ref tms_name, .ref tms_first, .ref tms_many, .ref tms_part, .ref tms_number, .int tms_size, .int tms_parts])), (tms_first, .inl (cs 0, tms_first_n, .inl tms_first_f)), (tms_part, .inl (cs 0, tms_part_n, .inl tms_part_f))]) hP hD hS hA [2, 4, 6] (by decide) rfl
          refine va_calli (va_runV (As := [.int tm, .int i]) (rest := [.int (dp + 1), .ref a_walk]) ⟨hx, hb, hml, hown, hg⟩ (c_MoTerms_part l g cs ka tms_kind tms_name tms_many tms_number tms tms_first tms_part H.size tm i tms_size tms_parts tms_first_n tms_first_f tms_part_n tms_part_f r9 hc9) (cwV (C := R_MoTerms) 2 hg (gw_V wd_768 wd_769 wd_770 wd_767 wd_766) rfl rfl rfl (by decide +kernel) ⟨Nat.le_of_ble_eq_true rfl, Nat.le_of_ble_eq_true rfl⟩) ⟨gP_blind, va_recv (q0 := 2) (ci := 11) (q := (R_MoTerms, F_MoTerms, 8)) hK hP rfl rfl, gP_pre hPc hDc hK hgl hkn hkr hS hFc⟩ rfl rfl hl.1 rfl (lv_room (Nat.le_of_ble_eq_true rfl)) d_MoPaper_compound_91 ⟨Nat.le_of_ble_eq_true rfl, Nat.le_of_ble_eq_true rfl⟩) hS (fun q _ h => hFc q h) hFc (fun r9' u t H locs ht hvm hr9 hB hz1 hk1 hS => ?_)
          subst hr9
          rw [ht] at hB
          obtain ⟨hP1, hD1⟩ := hB
          obtain ⟨hP, hD⟩ := jn_A hP hD [2, 4, 6] [0, 1, 3, 5, 7, 8, 9, 10, 11] rfl rfl (by decide) (by decide) hk1 hFc hP1 hD1
          obtain ⟨hP, hD⟩ : PD g A H [(a_walk, .inl (cs 0, a_walk_n, .inl a_walk_f)), (a_next, .inl (cs 0, a_next_n, .inl (upd a_next_f dp.toNatClampNeg (i + 1)))), (tms_name, .inl (cs 0, tms_name_n, .inl tms_name_f)), (tms_many, .inl (cs 0, tms_many_n, .inl tms_many_f)), (nms, .inr (10, [.ref nms_text, .ref nms_from, .ref nms_next, .ref nms_first, .int nms_size, .int nms_texted])), (nms_text, .inl (cs 1, nms_text_n, .inl nms_text_f)), (nms_from, .inl (cs 0, nms_from_n, .inl nms_from_f)), (a, .inr (13, [.ref a_out, .ref a_walk, .ref a_next, .ref a_seen, .int a_n_7, .int a_over_7, .int a_order])), (a_out, .inl (cs 1, a_out_n, .inl a_out_f_7)), (tms, .inr (11, [.ref tms_kind, .ref tms_name, .ref tms_first, .ref tms_many, .ref tms_part, .ref tms_number, .int tms_size, .int tms_parts])), (tms_first, .inl (cs 0, tms_first_n, .inl tms_first_f)), (tms_part, .inl (cs 0, tms_part_n, .inl tms_part_f))] := ⟨hP, hD⟩
          obtain ⟨hi10, hok⟩ := ck_some hok
          refine va_iast hx hb hK hP hD hS 0 0 rfl rfl (ixb_in hi10) d_MoPaper_compound_94 (fun H locs hP hD hS => ?_)
          obtain ⟨hP, hD⟩ : PD g A H [(a_walk, .inl (cs 0, a_walk_n, .inl (upd a_walk_f (dp + 1).toNatClampNeg r9))), (a_next, .inl (cs 0, a_next_n, .inl (upd a_next_f dp.toNatClampNeg (i + 1)))), (tms_name, .inl (cs 0, tms_name_n, .inl tms_name_f)), (tms_many, .inl (cs 0, tms_many_n, .inl tms_many_f)), (nms, .inr (10, [.ref nms_text, .ref nms_from, .ref nms_next, .ref nms_first, .int nms_size, .int nms_texted])), (nms_text, .inl (cs 1, nms_text_n, .inl nms_text_f)), (nms_from, .inl (cs 0, nms_from_n, .inl nms_from_f)), (a, .inr (13, [.ref a_out, .ref a_walk, .ref a_next, .ref a_seen, .int a_n_7, .int a_over_7, .int a_order])), (a_out, .inl (cs 1, a_out_n, .inl a_out_f_7)), (tms, .inr (11, [.ref tms_kind, .ref tms_name, .ref tms_first, .ref tms_many, .ref tms_part, .ref tms_number, .int tms_size, .int tms_parts])), (tms_first, .inl (cs 0, tms_first_n, .inl tms_first_f)), (tms_part, .inl (cs 0, tms_part_n, .inl tms_part_f))] := ⟨hP, hD⟩
          refine lv_aload_n hx hb d_MoPaper_compound_95 rfl (lv_at hl 0 rfl) ?_
          refine va_get (D := g) (ci := 13) (v := .ref a_next) (C := R_MoPaper) (T := F_MoPaper) (N := 7) hx hb hg ul_MoPaper hown hK hP 7 rfl rfl 2 (by decide) (hg _ wd_734) (fun _ h9 => h9) rfl d_MoPaper_compound_96 ?_
          refine lv_iload hx hb d_MoPaper_compound_99 (lv_at hl 5 rfl) ?_
          refine lv_iconst (v := 1) hx hb d_MoPaper_compound_101 (by decide) ?_
          refine lv_iadd hx hb d_MoPaper_compound_102 ?_
          refine lv_iconst (v := 0) hx hb d_MoPaper_compound_103 (by decide) ?_
          obtain ⟨hi11, hok⟩ := ck_some hok
          refine va_iast hx hb hK hP hD hS 1 0 rfl rfl (ixb_in hi11) d_MoPaper_compound_104 (fun H locs hP hD hS => ?_)
          obtain ⟨hP, hD⟩ : PD g A H [(a_walk, .inl (cs 0, a_walk_n, .inl (upd a_walk_f (dp + 1).toNatClampNeg r9))), (a_next, .inl (cs 0, a_next_n, .inl (upd (upd a_next_f dp.toNatClampNeg (i + 1)) (dp + 1).toNatClampNeg 0))), (tms_name, .inl (cs 0, tms_name_n, .inl tms_name_f)), (tms_many, .inl (cs 0, tms_many_n, .inl tms_many_f)), (nms, .inr (10, [.ref nms_text, .ref nms_from, .ref nms_next, .ref nms_first, .int nms_size, .int nms_texted])), (nms_text, .inl (cs 1, nms_text_n, .inl nms_text_f)), (nms_from, .inl (cs 0, nms_from_n, .inl nms_from_f)), (a, .inr (13, [.ref a_out, .ref a_walk, .ref a_next, .ref a_seen, .int a_n_7, .int a_over_7, .int a_order])), (a_out, .inl (cs 1, a_out_n, .inl a_out_f_7)), (tms, .inr (11, [.ref tms_kind, .ref tms_name, .ref tms_first, .ref tms_many, .ref tms_part, .ref tms_number, .int tms_size, .int tms_parts])), (tms_first, .inl (cs 0, tms_first_n, .inl tms_first_f)), (tms_part, .inl (cs 0, tms_part_n, .inl tms_part_f))] := ⟨hP, hD⟩
          refine lv_iload hx hb d_MoPaper_compound_105 (lv_at hl 5 rfl) ?_
          refine lv_iconst (v := 1) hx hb d_MoPaper_compound_107 (by decide) ?_
          refine lv_iadd hx hb d_MoPaper_compound_108 ?_
          have hq := Option.some.inj hok
          obtain ⟨hq0, hq⟩ := Prod.mk.inj hq
          obtain ⟨hq1, hq⟩ := Prod.mk.inj hq
          obtain ⟨hq2, hq⟩ := Prod.mk.inj hq
          obtain ⟨hq3, hq⟩ := Prod.mk.inj hq
          obtain ⟨hq4, hq⟩ := Prod.mk.inj hq
          have hq5 := hq
          subst hq0
          subst hq1
          subst hq2
          subst hq3
          subst hq4
          subst hq5
          obtain ⟨hP9, hD9⟩ := sub2 (ws' := [(a, .inr (13, [.ref a_out, .ref a_walk, .ref a_next, .ref a_seen, .int a_n_7, .int a_over_7, .int a_order])), (a_out, .inl (cs 1, a_out_n, .inl a_out_f_7)), (a_walk, .inl (cs 0, a_walk_n, .inl (upd a_walk_f (dp + 1).toNatClampNeg r9))), (a_next, .inl (cs 0, a_next_n, .inl (upd (upd a_next_f dp.toNatClampNeg (i + 1)) (dp + 1).toNatClampNeg 0))), (tms, .inr (11, [.ref tms_kind, .ref tms_name, .ref tms_first, .ref tms_many, .ref tms_part, .ref tms_number, .int tms_size, .int tms_parts])), (tms_name, .inl (cs 0, tms_name_n, .inl tms_name_f)), (tms_first, .inl (cs 0, tms_first_n, .inl tms_first_f)), (tms_many, .inl (cs 0, tms_many_n, .inl tms_many_f)), (tms_part, .inl (cs 0, tms_part_n, .inl tms_part_f)), (nms, .inr (10, [.ref nms_text, .ref nms_from, .ref nms_next, .ref nms_first, .int nms_size, .int nms_texted])), (nms_text, .inl (cs 1, nms_text_n, .inl nms_text_f)), (nms_from, .inl (cs 0, nms_from_n, .inl nms_from_f))]) hP hD [7, 8, 0, 1, 9, 2, 10, 3, 11, 4, 5, 6] rfl (by decide) rfl
          rw [hQ]
          exact W.iret (v := dp + 1) hx hb hr (fun t ht hW => ⟨⟨_, (), rfl, rfl, by rw [ht]; exact hP9, hD9⟩, hS.F ht⟩) hS.2.2 d_MoPaper_compound_109
        refine lv_if_ne hx hb d_MoPaper_compound_55 rfl (fun h12 => ?_) (fun h12 => ?_)
        · rw [if_neg h12] at hok
          refine lv_bipush (v := 44) hx hb d_MoPaper_compound_63 (by decide) ?_
          exact J6 _ _ _ (44 : Int32) (lv_sub hl [0, 1, 2, 3, 4, 5] rfl) (sub3 hP hD [0, 1, 2, 3, 4, 5, 6, 7, 8, 9, 10, 11] (by decide)) hS hok
        · rw [if_pos h12] at hok
          refine lv_bipush (v := 40) hx hb d_MoPaper_compound_58 (by decide) ?_
          refine lv_goto hx hb d_MoPaper_compound_60 rfl ?_
          exact J6 _ _ _ (40 : Int32) (lv_sub hl [0, 1, 2, 3, 4, 5] rfl) (sub3 hP hD [0, 1, 2, 3, 4, 5, 6, 7, 8, 9, 10, 11] (by decide)) hS hok
      · rw [if_pos h5] at hok
        refine lv_aload_n hx hb d_MoPaper_compound_41 rfl (lv_at hl 0 rfl) ?_
        refine lv_bipush (v := 41) hx hb d_MoPaper_compound_42 (by decide) ?_
        obtain ⟨⟨a_n_13, a_over_13, a_out_f_13⟩, hc13, hok⟩ := bd_some hok
        dsimp only at hok
        obtain ⟨hPc, hDc, hFc⟩ := cut0 (wc := [(a, .inr (13, [.ref a_out, .ref a_walk, .ref a_next, .ref a_seen, .int a_n_1, .int a_over_1, .int a_order])), (a_out, .inl (cs 1, a_out_n, .inl a_out_1f))]) hP hD hS hA [0, 1] (by decide) rfl
        refine va_callv (va_runV (As := [.int 41]) (rest := []) ⟨hx, hb, hml, hown, hg⟩ (c_MoPaper_put l g cs ka a_walk a_next a_seen a a_out H.size (41 : Int32) a_n_1 a_over_1 a_order a_out_n a_out_1f a_n_13 a_over_13 a_out_f_13 hc13) (cwV (C := R_MoPaper) 1 hg (gw_V wd_743 wd_744 wd_745 wd_742 wd_741) rfl rfl rfl (by decide +kernel) ⟨Nat.le_of_ble_eq_true rfl, Nat.le_of_ble_eq_true rfl⟩) ⟨gP_blind, va_recv (q0 := 0) (ci := 13) (q := (R_MoPaper, F_MoPaper, 7)) hK hP rfl rfl, gP_pre hPc hDc hK hgl hkn hkr hS hFc⟩ rfl rfl hl.1 rfl (lv_room (Nat.le_of_ble_eq_true rfl)) d_MoPaper_compound_44 ⟨Nat.le_of_ble_eq_true rfl, Nat.le_of_ble_eq_true rfl⟩) hS (fun q _ h => hFc q h) hFc (fun u t H locs ht hvm hr13 hB hz1 hk1 hS => ?_)
        rw [ht] at hB
        obtain ⟨hP1, hD1⟩ := hB
        obtain ⟨hP, hD⟩ := jn_A hP hD [0, 1] [2, 3, 4, 5, 6, 7, 8, 9, 10, 11] rfl rfl (by decide) (by decide) hk1 hFc hP1 hD1
        obtain ⟨hP, hD⟩ : PD g A H [(a_walk, .inl (cs 0, a_walk_n, .inl a_walk_f)), (a_next, .inl (cs 0, a_next_n, .inl a_next_f)), (tms, .inr (11, [.ref tms_kind, .ref tms_name, .ref tms_first, .ref tms_many, .ref tms_part, .ref tms_number, .int tms_size, .int tms_parts])), (tms_name, .inl (cs 0, tms_name_n, .inl tms_name_f)), (tms_first, .inl (cs 0, tms_first_n, .inl tms_first_f)), (tms_many, .inl (cs 0, tms_many_n, .inl tms_many_f)), (tms_part, .inl (cs 0, tms_part_n, .inl tms_part_f)), (nms, .inr (10, [.ref nms_text, .ref nms_from, .ref nms_next, .ref nms_first, .int nms_size, .int nms_texted])), (nms_text, .inl (cs 1, nms_text_n, .inl nms_text_f)), (nms_from, .inl (cs 0, nms_from_n, .inl nms_from_f)), (a, .inr (13, [.ref a_out, .ref a_walk, .ref a_next, .ref a_seen, .int a_n_13, .int a_over_13, .int a_order])), (a_out, .inl (cs 1, a_out_n, .inl a_out_f_13))] := ⟨hP, hD⟩
        refine lv_iload hx hb d_MoPaper_compound_47 (lv_at hl 5 rfl) ?_
        refine lv_iconst (v := 1) hx hb d_MoPaper_compound_49 (by decide) ?_
        refine lv_isub hx hb d_MoPaper_compound_50 ?_
        have hq := Option.some.inj hok
        obtain ⟨hq0, hq⟩ := Prod.mk.inj hq
        obtain ⟨hq1, hq⟩ := Prod.mk.inj hq
        obtain ⟨hq2, hq⟩ := Prod.mk.inj hq
        obtain ⟨hq3, hq⟩ := Prod.mk.inj hq
        obtain ⟨hq4, hq⟩ := Prod.mk.inj hq
        have hq5 := hq
        subst hq0
        subst hq1
        subst hq2
        subst hq3
        subst hq4
        subst hq5
        obtain ⟨hP9, hD9⟩ := sub2 (ws' := [(a, .inr (13, [.ref a_out, .ref a_walk, .ref a_next, .ref a_seen, .int a_n_13, .int a_over_13, .int a_order])), (a_out, .inl (cs 1, a_out_n, .inl a_out_f_13)), (a_walk, .inl (cs 0, a_walk_n, .inl a_walk_f)), (a_next, .inl (cs 0, a_next_n, .inl a_next_f)), (tms, .inr (11, [.ref tms_kind, .ref tms_name, .ref tms_first, .ref tms_many, .ref tms_part, .ref tms_number, .int tms_size, .int tms_parts])), (tms_name, .inl (cs 0, tms_name_n, .inl tms_name_f)), (tms_first, .inl (cs 0, tms_first_n, .inl tms_first_f)), (tms_many, .inl (cs 0, tms_many_n, .inl tms_many_f)), (tms_part, .inl (cs 0, tms_part_n, .inl tms_part_f)), (nms, .inr (10, [.ref nms_text, .ref nms_from, .ref nms_next, .ref nms_first, .int nms_size, .int nms_texted])), (nms_text, .inl (cs 1, nms_text_n, .inl nms_text_f)), (nms_from, .inl (cs 0, nms_from_n, .inl nms_from_f))]) hP hD [10, 11, 0, 1, 2, 3, 4, 5, 6, 7, 8, 9] rfl (by decide) rfl
        rw [hQ]
        exact W.iret (v := dp - 1) hx hb hr (fun t ht hW => ⟨⟨_, (), rfl, rfl, by rw [ht]; exact hP9, hD9⟩, hS.F ht⟩) hS.2.2 d_MoPaper_compound_51
    · rw [if_pos h3] at hok
      refine lv_iload hx hb d_MoPaper_compound_25 (lv_at hl 5 rfl) ?_
      refine lv_iconst (v := 1) hx hb d_MoPaper_compound_27 (by decide) ?_
      refine lv_isub hx hb d_MoPaper_compound_28 ?_
      have hq := Option.some.inj hok
      obtain ⟨hq0, hq⟩ := Prod.mk.inj hq
      obtain ⟨hq1, hq⟩ := Prod.mk.inj hq
      obtain ⟨hq2, hq⟩ := Prod.mk.inj hq
      obtain ⟨hq3, hq⟩ := Prod.mk.inj hq
      obtain ⟨hq4, hq⟩ := Prod.mk.inj hq
      have hq5 := hq
      subst hq0
      subst hq1
      subst hq2
      subst hq3
      subst hq4
      subst hq5
      obtain ⟨hP9, hD9⟩ := sub2 (ws' := [(a, .inr (13, [.ref a_out, .ref a_walk, .ref a_next, .ref a_seen, .int a_n_1, .int a_over_1, .int a_order])), (a_out, .inl (cs 1, a_out_n, .inl a_out_1f)), (a_walk, .inl (cs 0, a_walk_n, .inl a_walk_f)), (a_next, .inl (cs 0, a_next_n, .inl a_next_f)), (tms, .inr (11, [.ref tms_kind, .ref tms_name, .ref tms_first, .ref tms_many, .ref tms_part, .ref tms_number, .int tms_size, .int tms_parts])), (tms_name, .inl (cs 0, tms_name_n, .inl tms_name_f)), (tms_first, .inl (cs 0, tms_first_n, .inl tms_first_f)), (tms_many, .inl (cs 0, tms_many_n, .inl tms_many_f)), (tms_part, .inl (cs 0, tms_part_n, .inl tms_part_f)), (nms, .inr (10, [.ref nms_text, .ref nms_from, .ref nms_next, .ref nms_first, .int nms_size, .int nms_texted])), (nms_text, .inl (cs 1, nms_text_n, .inl nms_text_f)), (nms_from, .inl (cs 0, nms_from_n, .inl nms_from_f))]) hP hD [0, 1, 2, 3, 4, 5, 6, 7, 8, 9, 10, 11] rfl (by decide) rfl
      rw [hQ]
      exact W.iret (v := dp - 1) hx hb hr (fun t ht hW => ⟨⟨_, (), rfl, rfl, by rw [ht]; exact hP9, hD9⟩, hS.F ht⟩) hS.2.2 d_MoPaper_compound_29
  refine lv_if_ne hx hb d_MoPaper_compound_2 rfl (fun h14 => ?_) (fun h14 => ?_)
  · rw [if_neg h14] at hok
    exact J1 _ _ _ a_n a_over a_out_f (lv_sub hl [0, 1, 2, 3, 4, 5] rfl) (sub3 hP hD [0, 1, 2, 3, 4, 5, 6, 7, 8, 9, 10, 11] (by decide)) hS hok
  · rw [if_pos h14] at hok
    refine lv_aload_n hx hb d_MoPaper_compound_5 rfl (lv_at hl 0 rfl) ?_
    refine lv_aload_n hx hb d_MoPaper_compound_6 rfl (lv_at hl 2 rfl) ?_
    refine lv_aload_n hx hb d_MoPaper_compound_7 rfl (lv_at hl 1 rfl) ?_
    refine va_get (D := g) (ci := 11) (v := .ref tms_name) (C := R_MoTerms) (T := F_MoTerms) (N := 8) hx hb hg ul_MoTerms hown hK hP 4 rfl rfl 1 (by decide) (hg _ wd_771) (fun _ h9 => h9) rfl d_MoPaper_compound_8 ?_
    refine lv_iload_n hx hb d_MoPaper_compound_11 rfl (lv_at hl 3 rfl) ?_
    obtain ⟨hi15, hok⟩ := ck_some hok
    refine va_iald hx hb hK hP 5 0 rfl rfl (ixb_in hi15) d_MoPaper_compound_12 ?_
    obtain ⟨⟨a_n_16, a_over_16, a_out_f_16⟩, hc16, hok⟩ := bd_some hok
    dsimp only at hok
    obtain ⟨hPc, hDc, hFc⟩ := cut0 (wc := [(a, .inr (13, [.ref a_out, .ref a_walk, .ref a_next, .ref a_seen, .int a_n, .int a_over, .int a_order])), (a_out, .inl (cs 1, a_out_n, .inl a_out_f)), (nms, .inr (10, [.ref nms_text, .ref nms_from, .ref nms_next, .ref nms_first, .int nms_size, .int nms_texted])), (nms_text, .inl (cs 1, nms_text_n, .inl nms_text_f)), (nms_from, .inl (cs 0, nms_from_n, .inl nms_from_f))]) hP hD hS hA [0, 1, 9, 10, 11] (by decide) rfl
    refine va_callv (va_runV (As := [.ref nms, .int (tms_name_f tm.toNatClampNeg)]) (rest := []) ⟨hx, hb, hml, hown, hg⟩ (c_MoPaper_name l g cs ka a_walk a_next a_seen nms_next nms_first a a_out nms nms_text nms_from H.size n (tms_name_f tm.toNatClampNeg) a_n a_over a_order a_out_n a_out_f nms_size nms_texted nms_text_n nms_text_f nms_from_n nms_from_f a_n_16 a_over_16 a_out_f_16 hc16) (cwV (C := R_MoPaper) 2 hg (gw_V wd_773 wd_774 wd_775 wd_742 wd_772) rfl rfl rfl (by decide +kernel) ⟨Nat.le_of_ble_eq_true rfl, Nat.le_of_ble_eq_true rfl⟩) ⟨gP_blind, va_recv (q0 := 0) (ci := 13) (q := (R_MoPaper, F_MoPaper, 7)) hK hP rfl rfl, gP_pre hPc hDc hK hgl hkn hkr hS hFc⟩ rfl rfl hl.1 rfl (lv_room (Nat.le_of_ble_eq_true rfl)) d_MoPaper_compound_13 ⟨Nat.le_of_ble_eq_true rfl, Nat.le_of_ble_eq_true rfl⟩) hS (fun q _ h => hFc q h) hFc (fun u t H locs ht hvm hr16 hB hz1 hk1 hS => ?_)
    rw [ht] at hB
    obtain ⟨hP1, hD1⟩ := hB
    obtain ⟨hP, hD⟩ := jn_A hP hD [0, 1, 9, 10, 11] [2, 3, 4, 5, 6, 7, 8] rfl rfl (by decide) (by decide) hk1 hFc hP1 hD1
    obtain ⟨hP, hD⟩ : PD g A H [(a_walk, .inl (cs 0, a_walk_n, .inl a_walk_f)), (a_next, .inl (cs 0, a_next_n, .inl a_next_f)), (tms, .inr (11, [.ref tms_kind, .ref tms_name, .ref tms_first, .ref tms_many, .ref tms_part, .ref tms_number, .int tms_size, .int tms_parts])), (tms_name, .inl (cs 0, tms_name_n, .inl tms_name_f)), (tms_first, .inl (cs 0, tms_first_n, .inl tms_first_f)), (tms_many, .inl (cs 0, tms_many_n, .inl tms_many_f)), (tms_part, .inl (cs 0, tms_part_n, .inl tms_part_f)), (a, .inr (13, [.ref a_out, .ref a_walk, .ref a_next, .ref a_seen, .int a_n_16, .int a_over_16, .int a_order])), (a_out, .inl (cs 1, a_out_n, .inl a_out_f_16)), (nms, .inr (10, [.ref nms_text, .ref nms_from, .ref nms_next, .ref nms_first, .int nms_size, .int nms_texted])), (nms_text, .inl (cs 1, nms_text_n, .inl nms_text_f)), (nms_from, .inl (cs 0, nms_from_n, .inl nms_from_f))] := ⟨hP, hD⟩
    exact J1 _ _ _ a_n_16 a_over_16 a_out_f_16 (lv_sub hl [0, 1, 2, 3, 4, 5] rfl) (sub3 hP hD [7, 8, 0, 1, 2, 3, 4, 5, 6, 9, 10, 11] (by decide)) hS hok
