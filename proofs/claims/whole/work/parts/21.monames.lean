theorem wd_706 : ((.methodLink "UnifyBenchModel$Names" 3 y_Object_init) : Cond) ∈ GW := gw_6 129 (by decide +kernel) rfl
theorem wd_707 : ((.constant "UnifyBenchModel$Names" 9 90000) : Cond) ∈ GW := gw_6 130 (by decide +kernel) rfl
theorem wd_708 : ((.fieldLink "UnifyBenchModel$Names" 10 "UnifyBenchModel$Names" "text" "[B") : Cond) ∈ GW := gw_6 133 (by decide +kernel) rfl
theorem wd_709 : ((.constant "UnifyBenchModel$Names" 16 404301) : Cond) ∈ GW := gw_6 131 (by decide +kernel) rfl
theorem wd_710 : ((.fieldLink "UnifyBenchModel$Names" 17 "UnifyBenchModel$Names" "from" "[I") : Cond) ∈ GW := gw_6 134 (by decide +kernel) rfl
theorem wd_711 : ((.constant "UnifyBenchModel$Names" 21 404300) : Cond) ∈ GW := gw_6 132 (by decide +kernel) rfl
theorem wd_712 : ((.fieldLink "UnifyBenchModel$Names" 22 "UnifyBenchModel$Names" "next" "[I") : Cond) ∈ GW := gw_6 135 (by decide +kernel) rfl
theorem wd_713 : ((.fieldLink "UnifyBenchModel$Names" 25 "UnifyBenchModel$Names" "first" "[I") : Cond) ∈ GW := gw_6 136 (by decide +kernel) rfl
theorem wd_714 : ((.fieldLink "UnifyBenchModel$Names" 28 "UnifyBenchModel$Names" "size" "I") : Cond) ∈ GW := gw_6 137 (by decide +kernel) rfl
theorem wd_715 : ((.fieldLink "UnifyBenchModel$Names" 32 "UnifyBenchModel$Names" "texted" "I") : Cond) ∈ GW := gw_6 138 (by decide +kernel) rfl
theorem wd_716 : ((.code y_MoNames_same prog_15_method_4_code 5 (some .boolean)) : Cond) ∈ GW := gw_7 73 (by decide +kernel) rfl
theorem wd_717 : ((.initialized "UnifyBenchModel$Names") : Cond) ∈ GW := gw_1 22 (by decide +kernel) rfl
theorem wd_718 : ((.methodLink "UnifyBenchModel$Names" 35 y_MoNames_same) : Cond) ∈ GW := gw_7 70 (by decide +kernel) rfl
theorem wd_719 : ((.instanceMethod y_MoNames_same) : Cond) ∈ GW := gw_7 72 (by decide +kernel) rfl
theorem wd_720 : (.selects R_MoNames y_MoNames_same y_MoNames_same : Cond) ∈ GW := gw_pr 53 (by decide +kernel) rfl
theorem wd_721 : ((.code y_MoNames_length prog_15_method_5_code 2 (some .int)) : Cond) ∈ GW := gw_8 145 (by decide +kernel) rfl
theorem wd_722 : ((.methodLink "UnifyBenchModel$Names" 39 y_MoNames_length) : Cond) ∈ GW := gw_8 142 (by decide +kernel) rfl
theorem wd_723 : ((.instanceMethod y_MoNames_length) : Cond) ∈ GW := gw_8 143 (by decide +kernel) rfl
theorem wd_724 : ((.selects "UnifyBenchModel$Names" y_MoNames_length y_MoNames_length) : Cond) ∈ GW := gw_8 144 (by decide +kernel) rfl
theorem wd_725 : ((.methodLink "UnifyBenchModel$Names" 43 y_String_length) : Cond) ∈ GW := gw_8 146 (by decide +kernel) rfl
theorem wd_726 : ((.code y_MoNames_at prog_15_method_6_code 3 (some .int)) : Cond) ∈ GW := gw_8 150 (by decide +kernel) rfl
theorem wd_727 : ((.methodLink "UnifyBenchModel$Names" 48 y_MoNames_at) : Cond) ∈ GW := gw_8 147 (by decide +kernel) rfl
theorem wd_728 : ((.instanceMethod y_MoNames_at) : Cond) ∈ GW := gw_8 148 (by decide +kernel) rfl
theorem wd_729 : ((.selects "UnifyBenchModel$Names" y_MoNames_at y_MoNames_at) : Cond) ∈ GW := gw_8 149 (by decide +kernel) rfl
theorem wd_730 : ((.methodLink "UnifyBenchModel$Names" 52 y_String_charAt) : Cond) ∈ GW := gw_8 151 (by decide +kernel) rfl
theorem d_MoNames_init_0 : decode b_MoNames_init 0 = .ok (.aload_n 0, 1) := by decide +kernel
theorem d_MoNames_init_1 : decode b_MoNames_init 1 = .ok (.invokespecial 3, 3) := by decide +kernel
theorem d_MoNames_init_4 : decode b_MoNames_init 4 = .ok (.aload_n 0, 1) := by decide +kernel
theorem d_MoNames_init_5 : decode b_MoNames_init 5 = .ok (.ldc 9, 2) := by decide +kernel
theorem d_MoNames_init_7 : decode b_MoNames_init 7 = .ok (.newarray .byte, 2) := by decide +kernel
theorem d_MoNames_init_9 : decode b_MoNames_init 9 = .ok (.putfield 10, 3) := by decide +kernel
theorem d_MoNames_init_12 : decode b_MoNames_init 12 = .ok (.aload_n 0, 1) := by decide +kernel
theorem d_MoNames_init_13 : decode b_MoNames_init 13 = .ok (.ldc 16, 2) := by decide +kernel
theorem d_MoNames_init_15 : decode b_MoNames_init 15 = .ok (.newarray .int, 2) := by decide +kernel
theorem d_MoNames_init_17 : decode b_MoNames_init 17 = .ok (.putfield 17, 3) := by decide +kernel
theorem d_MoNames_init_20 : decode b_MoNames_init 20 = .ok (.aload_n 0, 1) := by decide +kernel
theorem d_MoNames_init_21 : decode b_MoNames_init 21 = .ok (.ldc 21, 2) := by decide +kernel
theorem d_MoNames_init_23 : decode b_MoNames_init 23 = .ok (.newarray .int, 2) := by decide +kernel
theorem d_MoNames_init_25 : decode b_MoNames_init 25 = .ok (.putfield 22, 3) := by decide +kernel
theorem d_MoNames_init_28 : decode b_MoNames_init 28 = .ok (.aload_n 0, 1) := by decide +kernel
theorem d_MoNames_init_29 : decode b_MoNames_init 29 = .ok (.sipush 1024, 3) := by decide +kernel
theorem d_MoNames_init_32 : decode b_MoNames_init 32 = .ok (.newarray .int, 2) := by decide +kernel
theorem d_MoNames_init_34 : decode b_MoNames_init 34 = .ok (.putfield 25, 3) := by decide +kernel
theorem d_MoNames_init_37 : decode b_MoNames_init 37 = .ok (.return_, 1) := by decide +kernel
def p_MoNames_init : Option ((Int32 × Int32 × Nat × (Nat → Int32) × Nat × (Nat → Int32) × Nat × (Nat → Int32) × Nat × (Nat → Int32)) × Nat × Nat) := al 1 90000 (al 1 404301 (al 1 404300 (al 1 1024 (some (((0 : Int32), (0 : Int32), 90000, (fun _ => 0 : Nat → Int32), 404301, (fun _ => 0 : Nat → Int32), 404300, (fun _ => 0 : Nat → Int32), 1024, (fun _ => 0 : Nat → Int32)), 0, 0)))))
set_option maxHeartbeats 4000000 in
set_option maxRecDepth 100000 in
theorem c_MoNames_init (l : Launch) (g : va_G) (cs : Nat → ClassId) (ka : Nat → Nat) (a : Nat) (sz : Nat) (o_a_size : Int32) (o_a_texted : Int32) (o_a_text_n : Nat) (o_a_text_f : Nat → Int32) (o_a_from_n : Nat) (o_a_from_f : Nat → Int32) (o_a_next_n : Nat) (o_a_next_f : Nat → Int32) (o_a_first_n : Nat) (o_a_first_f : Nat → Int32) (mc ms : Nat) (hok : p_MoNames_init = some ((o_a_size, o_a_texted, o_a_text_n, o_a_text_f, o_a_from_n, o_a_from_f, o_a_next_n, o_a_next_f, o_a_first_n, o_a_first_f), mc, ms)) : Met l y_MoNames_init (.code y_MoNames_init b_MoNames_init 1 none :: GW) { frames := 1, cells := mc, slots := ms, locals := 12 } (va_Pc [.ref a] (gP g cs ka [(a, .inr (10, [.null, .null, .null, .null, .int 0, .int 0]))] sz)) (va_Qv (fun _ : Unit => True) (fun _ t => ∃ b_a_text b_a_from b_a_next b_a_first : Nat, va_P g classes [(a, .inr (10, [.ref b_a_text, .ref b_a_from, .ref b_a_next, .ref b_a_first, .int o_a_size, .int o_a_texted])), (b_a_text, .inl (cs 1, o_a_text_n, .inl o_a_text_f)), (b_a_from, .inl (cs 0, o_a_from_n, .inl o_a_from_f)), (b_a_next, .inl (cs 0, o_a_next_n, .inl o_a_next_f)), (b_a_first, .inl (cs 0, o_a_first_n, .inl o_a_first_f))] t.heap ∧ va_D (va_A [(a, .inr (10, [.null, .null, .null, .null, .int 0, .int 0]))] sz) [(a, .inr (10, [.ref b_a_text, .ref b_a_from, .ref b_a_next, .ref b_a_first, .int o_a_size, .int o_a_texted])), (b_a_text, .inl (cs 1, o_a_text_n, .inl o_a_text_f)), (b_a_from, .inl (cs 0, o_a_from_n, .inl o_a_from_f)), (b_a_next, .inl (cs 0, o_a_next_n, .inl o_a_next_f)), (b_a_first, .inl (cs 0, o_a_first_n, .inl o_a_first_f))]) (va_A [(a, .inr (10, [.null, .null, .null, .null, .int 0, .int 0]))] sz)) mc ms (va_A [(a, .inr (10, [.null, .null, .null, .null, .int 0, .int 0]))] sz) := by
  refine Met.ofW (cc := b_MoNames_init) (maxL := 1) (ret := none) (by decide) rfl ?_
  intro p e s m args below meth c s₁ B hml hv
  obtain ⟨rfl, hsz, hP, hK, hD0, hgl, hkn, hkr⟩ := hv
  have hx := B.exec
  have hb := B.bytes
  have hr := B.returns
  have hg : ∀ w ∈ GW, w.before ([.ref a] : List Value).toArray s = true := fun w hw => atoms_spec (ws := .code y_MoNames_init b_MoNames_init 1 none :: GW) B.pre w (List.mem_cons_of_mem _ hw)
  have hown : s.vm.findClass R_MoNames = some m.cls := findClass_of_methodNamed B.named
  have hlocks := B.notSynchronized
  have hin : meth.name = "<init>" := (name_of_methodNamed B.named B.method).1
  subst hsz
  have hD := hD0.self (sz := s.heap.size)
  generalize hAe : va_A [(a, .inr (10, [.null, .null, .null, .null, .int 0, .int 0]))] s.heap.size = A at hD hkn ⊢
  have hA : ∀ q : Nat, s.heap.size ≤ q → A q := fun q h => by rw [← hAe]; exact Or.inr h
  have hS : va_S A s.heap s.heap [] := va_S.rf
  have hP : va_P g classes [(a, .inr (10, [.null, .null, .null, .null, .int 0, .int 0]))] s.heap := hP
  have hl := lv_entry ([.ref a]) (n := 1) (Nat.le_of_ble_eq_true rfl)
  rw [lg_entry_eq]
  generalize (lg_sl ([.ref a]) ++ List.replicate (1 - (lg_sl ([.ref a])).length) Slot.unset).toArray = ls at hl ⊢
  have hl : lv_has ls 1 [(0, .ref a)] := hl
  refine gq (fun Q hQ => ?_)
  obtain ⟨H, hH⟩ : ∃ H : Heap, H = s.heap := ⟨_, rfl⟩
  rw [← hH] at hP
  have hS : va_S A s.heap H [] := by rw [hH]; exact hS
  refine W.eqH hH ?_
  obtain ⟨locs, hlc⟩ : ∃ L : List Loc, L = [] := ⟨_, rfl⟩
  rw [← hlc] at hS ⊢
  unfold p_MoNames_init at hok
  refine lv_aload_n hx hb d_MoNames_init_0 rfl (lv_at hl 0 rfl) ?_
  refine W.objInit hx hb hown (hg _ wd_706) (hg _ wd_158) (hg _ wd_159) rfl (by rw [hml]; exact hl.1) rfl d_MoNames_init_1 (Nat.le_of_ble_eq_true rfl) (Nat.le_of_ble_eq_true rfl) ?_
  refine W.eq (g2 := F0 m 4 ls []) rfl ?_
  refine lv_aload_n hx hb d_MoNames_init_4 rfl (lv_at hl 0 rfl) ?_
  refine lv_ldc hx hb hown (hg _ wd_707) d_MoNames_init_5 ?_
  obtain ⟨m1, s1, hok, hmc1, hms1⟩ := al_some hok
  refine g_newB hx hb (hg _ wd_209) hK hP hD hS hA (90000) (by decide) (by decide) (by decide) (show 0 + 1 ≤ mc from by omega) (show 0 + 90000 ≤ ms from by omega) d_MoNames_init_7 (fun q1 H hP hD hS => ?_)
  obtain ⟨hP, hD⟩ : PD g A H [(a, .inr (10, [.null, .null, .null, .null, .int 0, .int 0])), (q1, .inl (cs 1, 90000, .inl (fun _ => 0)))] := ⟨hP, hD⟩
  refine va_putF (D := g) (ci := 10) (v := .ref q1) (ty := .array .byte) (C := R_MoNames) (T := F_MoNames) (N := 6) hx hb hg ul_MoNames t_MoNames tk_MoNames n_MoNames hown hK hP hD hS 0 rfl rfl 0 (by decide) (hg _ wd_708) (fun _ h9 => h9) rfl hin rfl (by decide +kernel) rfl rfl (Nat.le_of_ble_eq_true rfl) d_MoNames_init_9 (fun H locs hP hD hS => ?_)
  obtain ⟨hP, hD⟩ : PD g A H [(a, .inr (10, [.ref q1, .null, .null, .null, .int 0, .int 0])), (q1, .inl (cs 1, 90000, .inl (fun _ => 0)))] := ⟨hP, hD⟩
  refine lv_aload_n hx hb d_MoNames_init_12 rfl (lv_at hl 0 rfl) ?_
  refine lv_ldc hx hb hown (hg _ wd_709) d_MoNames_init_13 ?_
  obtain ⟨m2, s2, hok, hmc2, hms2⟩ := al_some hok
  refine g_newI hx hb (hg _ wd_142) hK hP hD hS hA (404301) (by decide) (by decide) (by decide) (show 0 + 1 + 1 ≤ mc from by omega) (show 0 + 90000 + 404301 ≤ ms from by omega) d_MoNames_init_15 (fun q2 H hP hD hS => ?_)
  obtain ⟨hP, hD⟩ : PD g A H [(a, .inr (10, [.ref q1, .null, .null, .null, .int 0, .int 0])), (q1, .inl (cs 1, 90000, .inl (fun _ => 0))), (q2, .inl (cs 0, 404301, .inl (fun _ => 0)))] := ⟨hP, hD⟩
  refine va_putF (D := g) (ci := 10) (v := .ref q2) (ty := .array .int) (C := R_MoNames) (T := F_MoNames) (N := 6) hx hb hg ul_MoNames t_MoNames tk_MoNames n_MoNames hown hK hP hD hS 0 rfl rfl 1 (by decide) (hg _ wd_710) (fun _ h9 => h9) rfl hin rfl (by decide +kernel) rfl rfl (Nat.le_of_ble_eq_true rfl) d_MoNames_init_17 (fun H locs hP hD hS => ?_)
  obtain ⟨hP, hD⟩ : PD g A H [(a, .inr (10, [.ref q1, .ref q2, .null, .null, .int 0, .int 0])), (q1, .inl (cs 1, 90000, .inl (fun _ => 0))), (q2, .inl (cs 0, 404301, .inl (fun _ => 0)))] := ⟨hP, hD⟩
  refine lv_aload_n hx hb d_MoNames_init_20 rfl (lv_at hl 0 rfl) ?_
  refine lv_ldc hx hb hown (hg _ wd_711) d_MoNames_init_21 ?_
  obtain ⟨m3, s3, hok, hmc3, hms3⟩ := al_some hok
  refine g_newI hx hb (hg _ wd_142) hK hP hD hS hA (404300) (by decide) (by decide) (by decide) (show 0 + 1 + 1 + 1 ≤ mc from by omega) (show 0 + 90000 + 404301 + 404300 ≤ ms from by omega) d_MoNames_init_23 (fun q3 H hP hD hS => ?_)
  obtain ⟨hP, hD⟩ : PD g A H [(a, .inr (10, [.ref q1, .ref q2, .null, .null, .int 0, .int 0])), (q1, .inl (cs 1, 90000, .inl (fun _ => 0))), (q2, .inl (cs 0, 404301, .inl (fun _ => 0))), (q3, .inl (cs 0, 404300, .inl (fun _ => 0)))] := ⟨hP, hD⟩
  refine va_putF (D := g) (ci := 10) (v := .ref q3) (ty := .array .int) (C := R_MoNames) (T := F_MoNames) (N := 6) hx hb hg ul_MoNames t_MoNames tk_MoNames n_MoNames hown hK hP hD hS 0 rfl rfl 2 (by decide) (hg _ wd_712) (fun _ h9 => h9) rfl hin rfl (by decide +kernel) rfl rfl (Nat.le_of_ble_eq_true rfl) d_MoNames_init_25 (fun H locs hP hD hS => ?_)
  obtain ⟨hP, hD⟩ : PD g A H [(a, .inr (10, [.ref q1, .ref q2, .ref q3, .null, .int 0, .int 0])), (q1, .inl (cs 1, 90000, .inl (fun _ => 0))), (q2, .inl (cs 0, 404301, .inl (fun _ => 0))), (q3, .inl (cs 0, 404300, .inl (fun _ => 0)))] := ⟨hP, hD⟩
  refine lv_aload_n hx hb d_MoNames_init_28 rfl (lv_at hl 0 rfl) ?_
  refine lv_sipush (v := 1024) hx hb d_MoNames_init_29 (by decide) ?_
  obtain ⟨m4, s4, hok, hmc4, hms4⟩ := al_some hok
  refine g_newI hx hb (hg _ wd_142) hK hP hD hS hA (1024) (by decide) (by decide) (by decide) (show 0 + 1 + 1 + 1 + 1 ≤ mc from by omega) (show 0 + 90000 + 404301 + 404300 + 1024 ≤ ms from by omega) d_MoNames_init_32 (fun q4 H hP hD hS => ?_)
  obtain ⟨hP, hD⟩ : PD g A H [(a, .inr (10, [.ref q1, .ref q2, .ref q3, .null, .int 0, .int 0])), (q1, .inl (cs 1, 90000, .inl (fun _ => 0))), (q2, .inl (cs 0, 404301, .inl (fun _ => 0))), (q3, .inl (cs 0, 404300, .inl (fun _ => 0))), (q4, .inl (cs 0, 1024, .inl (fun _ => 0)))] := ⟨hP, hD⟩
  refine va_putF (D := g) (ci := 10) (v := .ref q4) (ty := .array .int) (C := R_MoNames) (T := F_MoNames) (N := 6) hx hb hg ul_MoNames t_MoNames tk_MoNames n_MoNames hown hK hP hD hS 0 rfl rfl 3 (by decide) (hg _ wd_713) (fun _ h9 => h9) rfl hin rfl (by decide +kernel) rfl rfl (Nat.le_of_ble_eq_true rfl) d_MoNames_init_34 (fun H locs hP hD hS => ?_)
  obtain ⟨hP, hD⟩ : PD g A H [(a, .inr (10, [.ref q1, .ref q2, .ref q3, .ref q4, .int 0, .int 0])), (q1, .inl (cs 1, 90000, .inl (fun _ => 0))), (q2, .inl (cs 0, 404301, .inl (fun _ => 0))), (q3, .inl (cs 0, 404300, .inl (fun _ => 0))), (q4, .inl (cs 0, 1024, .inl (fun _ => 0)))] := ⟨hP, hD⟩
  obtain ⟨hq, hw⟩ := Prod.mk.inj (Option.some.inj hok)
  obtain ⟨hmc0, hms0⟩ := Prod.mk.inj hw
  obtain ⟨hq0, hq⟩ := Prod.mk.inj hq
  obtain ⟨hq1, hq⟩ := Prod.mk.inj hq
  obtain ⟨hq2, hq⟩ := Prod.mk.inj hq
  obtain ⟨hq3, hq⟩ := Prod.mk.inj hq
  obtain ⟨hq4, hq⟩ := Prod.mk.inj hq
  obtain ⟨hq5, hq⟩ := Prod.mk.inj hq
  obtain ⟨hq6, hq⟩ := Prod.mk.inj hq
  obtain ⟨hq7, hq⟩ := Prod.mk.inj hq
  obtain ⟨hq8, hq⟩ := Prod.mk.inj hq
  have hq9 := hq
  subst hq0
  subst hq1
  subst hq2
  subst hq3
  subst hq4
  subst hq5
  subst hq6
  subst hq7
  subst hq8
  subst hq9
  obtain ⟨hP9, hD9⟩ := sub2 (ws' := [(a, .inr (10, [.ref q1, .ref q2, .ref q3, .ref q4, .int 0, .int 0])), (q1, .inl (cs 1, 90000, .inl (fun _ => 0))), (q2, .inl (cs 0, 404301, .inl (fun _ => 0))), (q3, .inl (cs 0, 404300, .inl (fun _ => 0))), (q4, .inl (cs 0, 1024, .inl (fun _ => 0)))]) hP hD [0, 1, 2, 3, 4] rfl (by decide) rfl
  refine W.widen (k := mc) (n := ms) (by omega) (by omega) ?_
  rw [hQ]
  exact W.vret hx hb hr (fun t ht hW => ⟨⟨(), rfl, trivial, q1, q2, q3, q4, by rw [ht]; exact hP9, hD9⟩, hS.F ht⟩) hS.2.2 d_MoNames_init_37

theorem d_MoNames_clear_0 : decode b_MoNames_clear 0 = .ok (.aload_n 0, 1) := by decide +kernel
theorem d_MoNames_clear_1 : decode b_MoNames_clear 1 = .ok (.iconst 0, 1) := by decide +kernel
theorem d_MoNames_clear_2 : decode b_MoNames_clear 2 = .ok (.putfield 28, 3) := by decide +kernel
theorem d_MoNames_clear_5 : decode b_MoNames_clear 5 = .ok (.aload_n 0, 1) := by decide +kernel
theorem d_MoNames_clear_6 : decode b_MoNames_clear 6 = .ok (.iconst 0, 1) := by decide +kernel
theorem d_MoNames_clear_7 : decode b_MoNames_clear 7 = .ok (.putfield 32, 3) := by decide +kernel
theorem d_MoNames_clear_10 : decode b_MoNames_clear 10 = .ok (.aload_n 0, 1) := by decide +kernel
theorem d_MoNames_clear_11 : decode b_MoNames_clear 11 = .ok (.getfield 17, 3) := by decide +kernel
theorem d_MoNames_clear_14 : decode b_MoNames_clear 14 = .ok (.iconst 0, 1) := by decide +kernel
theorem d_MoNames_clear_15 : decode b_MoNames_clear 15 = .ok (.iconst 0, 1) := by decide +kernel
theorem d_MoNames_clear_16 : decode b_MoNames_clear 16 = .ok (.iastore, 1) := by decide +kernel
theorem d_MoNames_clear_17 : decode b_MoNames_clear 17 = .ok (.iconst 0, 1) := by decide +kernel
theorem d_MoNames_clear_18 : decode b_MoNames_clear 18 = .ok (.istore_n 1, 1) := by decide +kernel
theorem d_MoNames_clear_19 : decode b_MoNames_clear 19 = .ok (.iload_n 1, 1) := by decide +kernel
theorem d_MoNames_clear_20 : decode b_MoNames_clear 20 = .ok (.sipush 1024, 3) := by decide +kernel
theorem d_MoNames_clear_23 : decode b_MoNames_clear 23 = .ok (.if_icmp .ge 16, 3) := by decide +kernel
theorem d_MoNames_clear_26 : decode b_MoNames_clear 26 = .ok (.aload_n 0, 1) := by decide +kernel
theorem d_MoNames_clear_27 : decode b_MoNames_clear 27 = .ok (.getfield 25, 3) := by decide +kernel
theorem d_MoNames_clear_30 : decode b_MoNames_clear 30 = .ok (.iload_n 1, 1) := by decide +kernel
theorem d_MoNames_clear_31 : decode b_MoNames_clear 31 = .ok (.iconst (-1), 1) := by decide +kernel
theorem d_MoNames_clear_32 : decode b_MoNames_clear 32 = .ok (.iastore, 1) := by decide +kernel
theorem d_MoNames_clear_33 : decode b_MoNames_clear 33 = .ok (.iinc 1 1, 3) := by decide +kernel
theorem d_MoNames_clear_36 : decode b_MoNames_clear 36 = .ok (.goto (-17), 3) := by decide +kernel
theorem d_MoNames_clear_39 : decode b_MoNames_clear 39 = .ok (.return_, 1) := by decide +kernel
def p_MoNames_clear_19 (n : Nat) (a_from_f : Nat → Int32) (a_first_n : Nat) (kf2 : Nat) (x1_2 : Int32) (a_first_2f : Nat → Int32) : Option (Int32 × Int32 × (Nat → Int32) × (Nat → Int32)) := match kf2 with
  | 0 => none
  | kf2 + 1 => if 1024 ≤ x1_2 then (some ((0 : Int32), (0 : Int32), upd a_from_f (0 : Int32).toNatClampNeg 0, a_first_2f)) else (ck (ixb x1_2 a_first_n) (p_MoNames_clear_19 n a_from_f a_first_n kf2 (x1_2 + 1) (upd a_first_2f x1_2.toNatClampNeg (-1))))
def p_MoNames_clear (n : Nat) (a_size : Int32) (a_texted : Int32) (a_from_n : Nat) (a_from_f : Nat → Int32) (a_first_n : Nat) (a_first_f : Nat → Int32) : Option (Int32 × Int32 × (Nat → Int32) × (Nat → Int32)) := ck (ixb 0 a_from_n) (p_MoNames_clear_19 n a_from_f a_first_n n (0 : Int32) a_first_f)
set_option maxHeartbeats 4000000 in
set_option maxRecDepth 100000 in
theorem c_MoNames_clear (l : Launch) (g : va_G) (cs : Nat → ClassId) (ka : Nat → Nat) (a_text : Nat) (a_next : Nat) (a a_from a_first : Nat) (sz : Nat) (n : Nat) (a_size : Int32) (a_texted : Int32) (a_from_n : Nat) (a_from_f : Nat → Int32) (a_first_n : Nat) (a_first_f : Nat → Int32) (o_a_size : Int32) (o_a_texted : Int32) (o_a_from_f : Nat → Int32) (o_a_first_f : Nat → Int32) (hok : p_MoNames_clear n a_size a_texted a_from_n a_from_f a_first_n a_first_f = some (o_a_size, o_a_texted, o_a_from_f, o_a_first_f)) : Met l y_MoNames_clear (.code y_MoNames_clear b_MoNames_clear 2 none :: GW) { frames := 0, cells := 0, slots := 0, locals := 0 } (va_Pc [.ref a] (gP g cs ka [(a, .inr (10, [.ref a_text, .ref a_from, .ref a_next, .ref a_first, .int a_size, .int a_texted])), (a_from, .inl (cs 0, a_from_n, .inl a_from_f)), (a_first, .inl (cs 0, a_first_n, .inl a_first_f))] sz)) (va_Qv (fun _ : Unit => True) (fun _ t => va_P g classes [(a, .inr (10, [.ref a_text, .ref a_from, .ref a_next, .ref a_first, .int o_a_size, .int o_a_texted])), (a_from, .inl (cs 0, a_from_n, .inl o_a_from_f)), (a_first, .inl (cs 0, a_first_n, .inl o_a_first_f))] t.heap ∧ va_D (va_A [(a, .inr (10, [.ref a_text, .ref a_from, .ref a_next, .ref a_first, .int a_size, .int a_texted])), (a_from, .inl (cs 0, a_from_n, .inl a_from_f)), (a_first, .inl (cs 0, a_first_n, .inl a_first_f))] sz) [(a, .inr (10, [.ref a_text, .ref a_from, .ref a_next, .ref a_first, .int o_a_size, .int o_a_texted])), (a_from, .inl (cs 0, a_from_n, .inl o_a_from_f)), (a_first, .inl (cs 0, a_first_n, .inl o_a_first_f))]) (va_A [(a, .inr (10, [.ref a_text, .ref a_from, .ref a_next, .ref a_first, .int a_size, .int a_texted])), (a_from, .inl (cs 0, a_from_n, .inl a_from_f)), (a_first, .inl (cs 0, a_first_n, .inl a_first_f))] sz)) 0 0 (va_A [(a, .inr (10, [.ref a_text, .ref a_from, .ref a_next, .ref a_first, .int a_size, .int a_texted])), (a_from, .inl (cs 0, a_from_n, .inl a_from_f)), (a_first, .inl (cs 0, a_first_n, .inl a_first_f))] sz) := by
  refine Met.ofW (cc := b_MoNames_clear) (maxL := 2) (ret := none) (by decide) rfl ?_
  intro p e s m args below meth c s₁ B hml hv
  obtain ⟨rfl, hsz, hP, hK, hD0, hgl, hkn, hkr⟩ := hv
  have hx := B.exec
  have hb := B.bytes
  have hr := B.returns
  have hg : ∀ w ∈ GW, w.before ([.ref a] : List Value).toArray s = true := fun w hw => atoms_spec (ws := .code y_MoNames_clear b_MoNames_clear 2 none :: GW) B.pre w (List.mem_cons_of_mem _ hw)
  have hown : s.vm.findClass R_MoNames = some m.cls := findClass_of_methodNamed B.named
  have hlocks := B.notSynchronized
  subst hsz
  have hD := hD0.self (sz := s.heap.size)
  generalize hAe : va_A [(a, .inr (10, [.ref a_text, .ref a_from, .ref a_next, .ref a_first, .int a_size, .int a_texted])), (a_from, .inl (cs 0, a_from_n, .inl a_from_f)), (a_first, .inl (cs 0, a_first_n, .inl a_first_f))] s.heap.size = A at hD hkn ⊢
  have hA : ∀ q : Nat, s.heap.size ≤ q → A q := fun q h => by rw [← hAe]; exact Or.inr h
  have hS : va_S A s.heap s.heap [] := va_S.rf
  have hP : va_P g classes [(a, .inr (10, [.ref a_text, .ref a_from, .ref a_next, .ref a_first, .int a_size, .int a_texted])), (a_from, .inl (cs 0, a_from_n, .inl a_from_f)), (a_first, .inl (cs 0, a_first_n, .inl a_first_f))] s.heap := hP
  have hl := lv_entry ([.ref a]) (n := 2) (Nat.le_of_ble_eq_true rfl)
  rw [lg_entry_eq]
  generalize (lg_sl ([.ref a]) ++ List.replicate (2 - (lg_sl ([.ref a])).length) Slot.unset).toArray = ls at hl ⊢
  have hl : lv_has ls 2 [(0, .ref a)] := hl
  refine gq (fun Q hQ => ?_)
  obtain ⟨H, hH⟩ : ∃ H : Heap, H = s.heap := ⟨_, rfl⟩
  rw [← hH] at hP
  have hS : va_S A s.heap H [] := by rw [hH]; exact hS
  refine W.eqH hH ?_
  obtain ⟨locs, hlc⟩ : ∃ L : List Loc, L = [] := ⟨_, rfl⟩
  rw [← hlc] at hS ⊢
  unfold p_MoNames_clear at hok
  refine lv_aload_n hx hb d_MoNames_clear_0 rfl (lv_at hl 0 rfl) ?_
  refine lv_iconst (v := 0) hx hb d_MoNames_clear_1 (by decide) ?_
  refine va_put (D := g) (ci := 10) (v := .int 0) (ty := .int) (C := R_MoNames) (T := F_MoNames) (N := 6) hx hb hg ul_MoNames t_MoNames tk_MoNames n_MoNames hown hK hP hD hS 0 rfl rfl 4 (by decide) (hg _ wd_714) (fun _ h9 => h9) rfl (by decide +kernel) rfl rfl (Nat.le_of_ble_eq_true rfl) d_MoNames_clear_2 (fun H locs hP hD hS => ?_)
  obtain ⟨hP, hD⟩ : PD g A H [(a, .inr (10, [.ref a_text, .ref a_from, .ref a_next, .ref a_first, .int 0, .int a_texted])), (a_from, .inl (cs 0, a_from_n, .inl a_from_f)), (a_first, .inl (cs 0, a_first_n, .inl a_first_f))] := ⟨hP, hD⟩
  refine lv_aload_n hx hb d_MoNames_clear_5 rfl (lv_at hl 0 rfl) ?_
  refine lv_iconst (v := 0) hx hb d_MoNames_clear_6 (by decide) ?_
  refine va_put (D := g) (ci := 10) (v := .int 0) (ty := .int) (C := R_MoNames) (T := F_MoNames) (N := 6) hx hb hg ul_MoNames t_MoNames tk_MoNames n_MoNames hown hK hP hD hS 0 rfl rfl 5 (by decide) (hg _ wd_715) (fun _ h9 => h9) rfl (by decide +kernel) rfl rfl (Nat.le_of_ble_eq_true rfl) d_MoNames_clear_7 (fun H locs hP hD hS => ?_)
  obtain ⟨hP, hD⟩ : PD g A H [(a, .inr (10, [.ref a_text, .ref a_from, .ref a_next, .ref a_first, .int 0, .int 0])), (a_from, .inl (cs 0, a_from_n, .inl a_from_f)), (a_first, .inl (cs 0, a_first_n, .inl a_first_f))] := ⟨hP, hD⟩
  refine lv_aload_n hx hb d_MoNames_clear_10 rfl (lv_at hl 0 rfl) ?_
  refine va_get (D := g) (ci := 10) (v := .ref a_from) (C := R_MoNames) (T := F_MoNames) (N := 6) hx hb hg ul_MoNames hown hK hP 0 rfl rfl 1 (by decide) (hg _ wd_710) (fun _ h9 => h9) rfl d_MoNames_clear_11 ?_
  refine lv_iconst (v := 0) hx hb d_MoNames_clear_14 (by decide) ?_
  refine lv_iconst (v := 0) hx hb d_MoNames_clear_15 (by decide) ?_
  obtain ⟨hi1, hok⟩ := ck_some hok
  refine va_iast hx hb hK hP hD hS 1 0 rfl rfl (ixb_in hi1) d_MoNames_clear_16 (fun H locs hP hD hS => ?_)
  obtain ⟨hP, hD⟩ : PD g A H [(a, .inr (10, [.ref a_text, .ref a_from, .ref a_next, .ref a_first, .int 0, .int 0])), (a_from, .inl (cs 0, a_from_n, .inl (upd a_from_f (0 : Int32).toNatClampNeg 0))), (a_first, .inl (cs 0, a_first_n, .inl a_first_f))] := ⟨hP, hD⟩
  refine lv_iconst (v := 0) hx hb d_MoNames_clear_17 (by decide) ?_
  refine lv_istore_n hx hb d_MoNames_clear_18 rfl hl (by decide) rfl (fun ls hl => ?_)
  have hl : lv_has ls 2 [(1, .int 0), (0, .ref a)] := hl
  have J2 : ∀ (kf2 : Nat) (H : Heap) (locs : List Loc) (ls : Array Slot) (x1_2 : Int32) (a_first_2f : Nat → Int32), lv_has ls 2 [(1, .int x1_2), (0, .ref a)] → PD g A H [(a, .inr (10, [.ref a_text, .ref a_from, .ref a_next, .ref a_first, .int 0, .int 0])), (a_from, .inl (cs 0, a_from_n, .inl (upd a_from_f (0 : Int32).toNatClampNeg 0))), (a_first, .inl (cs 0, a_first_n, .inl a_first_2f))] → va_S A s.heap H locs → p_MoNames_clear_19 n a_from_f a_first_n kf2 x1_2 a_first_2f = some (o_a_size, o_a_texted, o_a_from_f, o_a_first_f) → W p l e (headSpec (.code y_MoNames_clear b_MoNames_clear 2 none :: GW) { frames := 0, cells := 0, slots := 0, locals := 0 }).room s m ([.ref a] : List Value).toArray below meth c H locs 0 0 Q (F0 m 19 ls []) := by
    intro kf2
    induction kf2 with
    | zero => intro H locs ls x1_2 a_first_2f hl ⟨hP, hD⟩ hS hok; rw [p_MoNames_clear_19] at hok; cases hok
    | succ kf2 ih2 =>
      intro H locs ls x1_2 a_first_2f hl ⟨hP, hD⟩ hS hok
      rw [p_MoNames_clear_19] at hok
      refine lv_iload_n hx hb d_MoNames_clear_19 rfl (lv_at hl 0 rfl) ?_
      refine lv_sipush (v := 1024) hx hb d_MoNames_clear_20 (by decide) ?_
      refine lv_icmp_ge hx hb d_MoNames_clear_23 rfl (fun h3 => ?_) (fun h3 => ?_)
      · rw [if_pos h3] at hok
        have hq := Option.some.inj hok
        obtain ⟨hq0, hq⟩ := Prod.mk.inj hq
        obtain ⟨hq1, hq⟩ := Prod.mk.inj hq
        obtain ⟨hq2, hq⟩ := Prod.mk.inj hq
        have hq3 := hq
        subst hq0
        subst hq1
        subst hq2
        subst hq3
        obtain ⟨hP9, hD9⟩ := sub2 (ws' := [(a, .inr (10, [.ref a_text, .ref a_from, .ref a_next, .ref a_first, .int 0, .int 0])), (a_from, .inl (cs 0, a_from_n, .inl (upd a_from_f (0 : Int32).toNatClampNeg 0))), (a_first, .inl (cs 0, a_first_n, .inl a_first_2f))]) hP hD [0, 1, 2] rfl (by decide) rfl
        rw [hQ]
        exact W.vret hx hb hr (fun t ht hW => ⟨⟨(), rfl, trivial, by rw [ht]; exact hP9, hD9⟩, hS.F ht⟩) hS.2.2 d_MoNames_clear_39
      · rw [if_neg h3] at hok
        refine lv_aload_n hx hb d_MoNames_clear_26 rfl (lv_at hl 1 rfl) ?_
        refine va_get (D := g) (ci := 10) (v := .ref a_first) (C := R_MoNames) (T := F_MoNames) (N := 6) hx hb hg ul_MoNames hown hK hP 0 rfl rfl 3 (by decide) (hg _ wd_713) (fun _ h9 => h9) rfl d_MoNames_clear_27 ?_
        refine lv_iload_n hx hb d_MoNames_clear_30 rfl (lv_at hl 0 rfl) ?_
        refine lv_iconst (v := (-1)) hx hb d_MoNames_clear_31 (by decide) ?_
        obtain ⟨hi4, hok⟩ := ck_some hok
        refine va_iast hx hb hK hP hD hS 2 0 rfl rfl (ixb_in hi4) d_MoNames_clear_32 (fun H locs hP hD hS => ?_)
        obtain ⟨hP, hD⟩ : PD g A H [(a, .inr (10, [.ref a_text, .ref a_from, .ref a_next, .ref a_first, .int 0, .int 0])), (a_from, .inl (cs 0, a_from_n, .inl (upd a_from_f (0 : Int32).toNatClampNeg 0))), (a_first, .inl (cs 0, a_first_n, .inl (upd a_first_2f x1_2.toNatClampNeg (-1))))] := ⟨hP, hD⟩
        refine lv_iinc (k := 0) (v := x1_2 + 1) hx hb d_MoNames_clear_33 hl rfl rfl (by decide) rfl (fun ls hl => ?_)
        have hl : lv_has ls 2 [(1, .int (x1_2 + 1)), (0, .ref a)] := hl
        refine lv_goto hx hb d_MoNames_clear_36 rfl ?_
        exact ih2 _ _ _ (x1_2 + 1) (upd a_first_2f x1_2.toNatClampNeg (-1)) (lv_sub hl [0, 1] rfl) (sub3 hP hD [0, 1, 2] (by decide)) hS hok
  exact J2 n H locs ls (0 : Int32) a_first_f hl ⟨hP, hD⟩ hS hok

theorem d_MoNames_same_0 : decode b_MoNames_same 0 = .ok (.aload_n 0, 1) := by decide +kernel
theorem d_MoNames_same_1 : decode b_MoNames_same 1 = .ok (.getfield 17, 3) := by decide +kernel
theorem d_MoNames_same_4 : decode b_MoNames_same 4 = .ok (.iload_n 1, 1) := by decide +kernel
theorem d_MoNames_same_5 : decode b_MoNames_same 5 = .ok (.iconst 1, 1) := by decide +kernel
theorem d_MoNames_same_6 : decode b_MoNames_same 6 = .ok (.iadd, 1) := by decide +kernel
theorem d_MoNames_same_7 : decode b_MoNames_same 7 = .ok (.iaload, 1) := by decide +kernel
theorem d_MoNames_same_8 : decode b_MoNames_same 8 = .ok (.aload_n 0, 1) := by decide +kernel
theorem d_MoNames_same_9 : decode b_MoNames_same 9 = .ok (.getfield 17, 3) := by decide +kernel
theorem d_MoNames_same_12 : decode b_MoNames_same 12 = .ok (.iload_n 1, 1) := by decide +kernel
theorem d_MoNames_same_13 : decode b_MoNames_same 13 = .ok (.iaload, 1) := by decide +kernel
theorem d_MoNames_same_14 : decode b_MoNames_same 14 = .ok (.isub, 1) := by decide +kernel
theorem d_MoNames_same_15 : decode b_MoNames_same 15 = .ok (.iload_n 3, 1) := by decide +kernel
theorem d_MoNames_same_16 : decode b_MoNames_same 16 = .ok (.if_icmp .eq 5, 3) := by decide +kernel
theorem d_MoNames_same_19 : decode b_MoNames_same 19 = .ok (.iconst 0, 1) := by decide +kernel
theorem d_MoNames_same_20 : decode b_MoNames_same 20 = .ok (.ireturn, 1) := by decide +kernel
theorem d_MoNames_same_21 : decode b_MoNames_same 21 = .ok (.iconst 0, 1) := by decide +kernel
theorem d_MoNames_same_22 : decode b_MoNames_same 22 = .ok (.istore 4, 2) := by decide +kernel
theorem d_MoNames_same_24 : decode b_MoNames_same 24 = .ok (.iload 4, 2) := by decide +kernel
theorem d_MoNames_same_26 : decode b_MoNames_same 26 = .ok (.iload_n 3, 1) := by decide +kernel
theorem d_MoNames_same_27 : decode b_MoNames_same 27 = .ok (.if_icmp .ge 32, 3) := by decide +kernel
theorem d_MoNames_same_30 : decode b_MoNames_same 30 = .ok (.aload_n 0, 1) := by decide +kernel
theorem d_MoNames_same_31 : decode b_MoNames_same 31 = .ok (.getfield 10, 3) := by decide +kernel
theorem d_MoNames_same_34 : decode b_MoNames_same 34 = .ok (.aload_n 0, 1) := by decide +kernel
theorem d_MoNames_same_35 : decode b_MoNames_same 35 = .ok (.getfield 17, 3) := by decide +kernel
theorem d_MoNames_same_38 : decode b_MoNames_same 38 = .ok (.iload_n 1, 1) := by decide +kernel
theorem d_MoNames_same_39 : decode b_MoNames_same 39 = .ok (.iaload, 1) := by decide +kernel
theorem d_MoNames_same_40 : decode b_MoNames_same 40 = .ok (.iload 4, 2) := by decide +kernel
theorem d_MoNames_same_42 : decode b_MoNames_same 42 = .ok (.iadd, 1) := by decide +kernel
theorem d_MoNames_same_43 : decode b_MoNames_same 43 = .ok (.baload, 1) := by decide +kernel
theorem d_MoNames_same_44 : decode b_MoNames_same 44 = .ok (.aload_n 2, 1) := by decide +kernel
theorem d_MoNames_same_45 : decode b_MoNames_same 45 = .ok (.iload 4, 2) := by decide +kernel
theorem d_MoNames_same_47 : decode b_MoNames_same 47 = .ok (.baload, 1) := by decide +kernel
theorem d_MoNames_same_48 : decode b_MoNames_same 48 = .ok (.if_icmp .eq 5, 3) := by decide +kernel
theorem d_MoNames_same_51 : decode b_MoNames_same 51 = .ok (.iconst 0, 1) := by decide +kernel
theorem d_MoNames_same_52 : decode b_MoNames_same 52 = .ok (.ireturn, 1) := by decide +kernel
theorem d_MoNames_same_53 : decode b_MoNames_same 53 = .ok (.iinc 4 1, 3) := by decide +kernel
theorem d_MoNames_same_56 : decode b_MoNames_same 56 = .ok (.goto (-32), 3) := by decide +kernel
theorem d_MoNames_same_59 : decode b_MoNames_same 59 = .ok (.iconst 1, 1) := by decide +kernel
theorem d_MoNames_same_60 : decode b_MoNames_same 60 = .ok (.ireturn, 1) := by decide +kernel
def p_MoNames_same_24 (n : Nat) (kk : Int32) (nn : Int32) (a_text_n : Nat) (a_text_f : Nat → Int32) (a_from_n : Nat) (a_from_f : Nat → Int32) (wd_n : Nat) (wd_f : Nat → Int32) (kf4 : Nat) (x4_4 : Int32) : Option Int32 := match kf4 with
  | 0 => none
  | kf4 + 1 => if nn ≤ x4_4 then (some (1 : Int32)) else (ck (ixb kk a_from_n) (ck (ixb ((a_from_f kk.toNatClampNeg) + x4_4) a_text_n) (ck (ixb x4_4 wd_n) (if (a_text_f ((a_from_f kk.toNatClampNeg) + x4_4).toNatClampNeg) = (wd_f x4_4.toNatClampNeg) then (p_MoNames_same_24 n kk nn a_text_n a_text_f a_from_n a_from_f wd_n wd_f kf4 (x4_4 + 1)) else (some (0 : Int32))))))
def p_MoNames_same (n : Nat) (kk : Int32) (nn : Int32) (a_size : Int32) (a_texted : Int32) (a_text_n : Nat) (a_text_f : Nat → Int32) (a_from_n : Nat) (a_from_f : Nat → Int32) (wd_n : Nat) (wd_f : Nat → Int32) : Option Int32 := ck (ixb (kk + 1) a_from_n) (ck (ixb kk a_from_n) (if ((a_from_f (kk + 1).toNatClampNeg) - (a_from_f kk.toNatClampNeg)) = nn then (p_MoNames_same_24 n kk nn a_text_n a_text_f a_from_n a_from_f wd_n wd_f n (0 : Int32)) else (some (0 : Int32))))
set_option maxHeartbeats 4000000 in
set_option maxRecDepth 100000 in
theorem c_MoNames_same (l : Launch) (g : va_G) (cs : Nat → ClassId) (ka : Nat → Nat) (a_next : Nat) (a_first : Nat) (a a_text a_from wd : Nat) (sz : Nat) (n : Nat) (kk : Int32) (nn : Int32) (a_size : Int32) (a_texted : Int32) (a_text_n : Nat) (a_text_f : Nat → Int32) (a_from_n : Nat) (a_from_f : Nat → Int32) (wd_n : Nat) (wd_f : Nat → Int32) (r : Int32) (hok : p_MoNames_same n kk nn a_size a_texted a_text_n a_text_f a_from_n a_from_f wd_n wd_f = some r) : Met l y_MoNames_same (.code y_MoNames_same b_MoNames_same 5 (some .boolean) :: GW) { frames := 0, cells := 0, slots := 0, locals := 0 } (va_Pc [.ref a, .int kk, .ref wd, .int nn] (gP g cs ka [(a, .inr (10, [.ref a_text, .ref a_from, .ref a_next, .ref a_first, .int a_size, .int a_texted])), (a_text, .inl (cs 1, a_text_n, .inl a_text_f)), (a_from, .inl (cs 0, a_from_n, .inl a_from_f)), (wd, .inl (cs 1, wd_n, .inl wd_f))] sz)) (va_Qi (fun (r' : Int32) (_ : Unit) => r = r') (fun _ t => va_P g classes [(a, .inr (10, [.ref a_text, .ref a_from, .ref a_next, .ref a_first, .int a_size, .int a_texted])), (a_text, .inl (cs 1, a_text_n, .inl a_text_f)), (a_from, .inl (cs 0, a_from_n, .inl a_from_f)), (wd, .inl (cs 1, wd_n, .inl wd_f))] t.heap ∧ va_D (va_A [(a, .inr (10, [.ref a_text, .ref a_from, .ref a_next, .ref a_first, .int a_size, .int a_texted])), (a_text, .inl (cs 1, a_text_n, .inl a_text_f)), (a_from, .inl (cs 0, a_from_n, .inl a_from_f)), (wd, .inl (cs 1, wd_n, .inl wd_f))] sz) [(a, .inr (10, [.ref a_text, .ref a_from, .ref a_next, .ref a_first, .int a_size, .int a_texted])), (a_text, .inl (cs 1, a_text_n, .inl a_text_f)), (a_from, .inl (cs 0, a_from_n, .inl a_from_f)), (wd, .inl (cs 1, wd_n, .inl wd_f))]) (va_A [(a, .inr (10, [.ref a_text, .ref a_from, .ref a_next, .ref a_first, .int a_size, .int a_texted])), (a_text, .inl (cs 1, a_text_n, .inl a_text_f)), (a_from, .inl (cs 0, a_from_n, .inl a_from_f)), (wd, .inl (cs 1, wd_n, .inl wd_f))] sz)) 0 0 (va_A [(a, .inr (10, [.ref a_text, .ref a_from, .ref a_next, .ref a_first, .int a_size, .int a_texted])), (a_text, .inl (cs 1, a_text_n, .inl a_text_f)), (a_from, .inl (cs 0, a_from_n, .inl a_from_f)), (wd, .inl (cs 1, wd_n, .inl wd_f))] sz) := by
  refine Met.ofW (cc := b_MoNames_same) (maxL := 5) (ret := (some .boolean)) (by decide) rfl ?_
  intro p e s m args below meth c s₁ B hml hv
  obtain ⟨rfl, hsz, hP, hK, hD0, hgl, hkn, hkr⟩ := hv
  have hx := B.exec
  have hb := B.bytes
  have hr := B.returns
  have hg : ∀ w ∈ GW, w.before ([.ref a, .int kk, .ref wd, .int nn] : List Value).toArray s = true := fun w hw => atoms_spec (ws := .code y_MoNames_same b_MoNames_same 5 (some .boolean) :: GW) B.pre w (List.mem_cons_of_mem _ hw)
  have hown : s.vm.findClass R_MoNames = some m.cls := findClass_of_methodNamed B.named
  have hlocks := B.notSynchronized
  subst hsz
  have hD := hD0.self (sz := s.heap.size)
  generalize hAe : va_A [(a, .inr (10, [.ref a_text, .ref a_from, .ref a_next, .ref a_first, .int a_size, .int a_texted])), (a_text, .inl (cs 1, a_text_n, .inl a_text_f)), (a_from, .inl (cs 0, a_from_n, .inl a_from_f)), (wd, .inl (cs 1, wd_n, .inl wd_f))] s.heap.size = A at hD hkn ⊢
  have hA : ∀ q : Nat, s.heap.size ≤ q → A q := fun q h => by rw [← hAe]; exact Or.inr h
  have hS : va_S A s.heap s.heap [] := va_S.rf
  have hP : va_P g classes [(a, .inr (10, [.ref a_text, .ref a_from, .ref a_next, .ref a_first, .int a_size, .int a_texted])), (a_text, .inl (cs 1, a_text_n, .inl a_text_f)), (a_from, .inl (cs 0, a_from_n, .inl a_from_f)), (wd, .inl (cs 1, wd_n, .inl wd_f))] s.heap := hP
  have hl := lv_entry ([.ref a, .int kk, .ref wd, .int nn]) (n := 5) (Nat.le_of_ble_eq_true rfl)
  rw [lg_entry_eq]
  generalize (lg_sl ([.ref a, .int kk, .ref wd, .int nn]) ++ List.replicate (5 - (lg_sl ([.ref a, .int kk, .ref wd, .int nn])).length) Slot.unset).toArray = ls at hl ⊢
  have hl : lv_has ls 5 [(0, .ref a), (1, .int kk), (2, .ref wd), (3, .int nn)] := hl
  refine gq (fun Q hQ => ?_)
  obtain ⟨H, hH⟩ : ∃ H : Heap, H = s.heap := ⟨_, rfl⟩
  rw [← hH] at hP
  have hS : va_S A s.heap H [] := by rw [hH]; exact hS
  refine W.eqH hH ?_
  obtain ⟨locs, hlc⟩ : ∃ L : List Loc, L = [] := ⟨_, rfl⟩
  rw [← hlc] at hS ⊢
  unfold p_MoNames_same at hok
  refine lv_aload_n hx hb d_MoNames_same_0 rfl (lv_at hl 0 rfl) ?_
  refine va_get (D := g) (ci := 10) (v := .ref a_from) (C := R_MoNames) (T := F_MoNames) (N := 6) hx hb hg ul_MoNames hown hK hP 0 rfl rfl 1 (by decide) (hg _ wd_710) (fun _ h9 => h9) rfl d_MoNames_same_1 ?_
  refine lv_iload_n hx hb d_MoNames_same_4 rfl (lv_at hl 1 rfl) ?_
  refine lv_iconst (v := 1) hx hb d_MoNames_same_5 (by decide) ?_
  refine lv_iadd hx hb d_MoNames_same_6 ?_
  obtain ⟨hi1, hok⟩ := ck_some hok
  refine va_iald hx hb hK hP 2 0 rfl rfl (ixb_in hi1) d_MoNames_same_7 ?_
  refine lv_aload_n hx hb d_MoNames_same_8 rfl (lv_at hl 0 rfl) ?_
  refine va_get (D := g) (ci := 10) (v := .ref a_from) (C := R_MoNames) (T := F_MoNames) (N := 6) hx hb hg ul_MoNames hown hK hP 0 rfl rfl 1 (by decide) (hg _ wd_710) (fun _ h9 => h9) rfl d_MoNames_same_9 ?_
  refine lv_iload_n hx hb d_MoNames_same_12 rfl (lv_at hl 1 rfl) ?_
  obtain ⟨hi2, hok⟩ := ck_some hok
  refine va_iald hx hb hK hP 2 0 rfl rfl (ixb_in hi2) d_MoNames_same_13 ?_
  refine lv_isub hx hb d_MoNames_same_14 ?_
  refine lv_iload_n hx hb d_MoNames_same_15 rfl (lv_at hl 3 rfl) ?_
  refine lv_icmp_eq hx hb d_MoNames_same_16 rfl (fun h3 => ?_) (fun h3 => ?_)
  · rw [if_pos h3] at hok
    refine lv_iconst (v := 0) hx hb d_MoNames_same_21 (by decide) ?_
    refine lv_istore hx hb d_MoNames_same_22 hl (by decide) rfl (fun ls hl => ?_)
    have hl : lv_has ls 5 [(4, .int 0), (0, .ref a), (1, .int kk), (2, .ref wd), (3, .int nn)] := hl
    have J4 : ∀ (kf4 : Nat) (H : Heap) (locs : List Loc) (ls : Array Slot) (x4_4 : Int32), lv_has ls 5 [(4, .int x4_4), (0, .ref a), (1, .int kk), (2, .ref wd), (3, .int nn)] → PD g A H [(a, .inr (10, [.ref a_text, .ref a_from, .ref a_next, .ref a_first, .int a_size, .int a_texted])), (a_text, .inl (cs 1, a_text_n, .inl a_text_f)), (a_from, .inl (cs 0, a_from_n, .inl a_from_f)), (wd, .inl (cs 1, wd_n, .inl wd_f))] → va_S A s.heap H locs → p_MoNames_same_24 n kk nn a_text_n a_text_f a_from_n a_from_f wd_n wd_f kf4 x4_4 = some r → W p l e (headSpec (.code y_MoNames_same b_MoNames_same 5 (some .boolean) :: GW) { frames := 0, cells := 0, slots := 0, locals := 0 }).room s m ([.ref a, .int kk, .ref wd, .int nn] : List Value).toArray below meth c H locs 0 0 Q (F0 m 24 ls []) := by
      intro kf4
      induction kf4 with
      | zero => intro H locs ls x4_4 hl ⟨hP, hD⟩ hS hok; rw [p_MoNames_same_24] at hok; cases hok
      | succ kf4 ih4 =>
        intro H locs ls x4_4 hl ⟨hP, hD⟩ hS hok
        rw [p_MoNames_same_24] at hok
        refine lv_iload hx hb d_MoNames_same_24 (lv_at hl 0 rfl) ?_
        refine lv_iload_n hx hb d_MoNames_same_26 rfl (lv_at hl 4 rfl) ?_
        refine lv_icmp_ge hx hb d_MoNames_same_27 rfl (fun h5 => ?_) (fun h5 => ?_)
        · rw [if_pos h5] at hok
          refine lv_iconst (v := 1) hx hb d_MoNames_same_59 (by decide) ?_
          have hq := Option.some.inj hok
          have hq0 := hq
          subst hq0
          obtain ⟨hP9, hD9⟩ := sub2 (ws' := [(a, .inr (10, [.ref a_text, .ref a_from, .ref a_next, .ref a_first, .int a_size, .int a_texted])), (a_text, .inl (cs 1, a_text_n, .inl a_text_f)), (a_from, .inl (cs 0, a_from_n, .inl a_from_f)), (wd, .inl (cs 1, wd_n, .inl wd_f))]) hP hD [0, 1, 2, 3] rfl (by decide) rfl
          rw [hQ]
          exact W.zret (v := 1) hx hb hr rfl (fun t ht hW => ⟨⟨_, (), rfl, rfl, by rw [ht]; exact hP9, hD9⟩, hS.F ht⟩) hS.2.2 d_MoNames_same_60
        · rw [if_neg h5] at hok
          refine lv_aload_n hx hb d_MoNames_same_30 rfl (lv_at hl 1 rfl) ?_
          refine va_get (D := g) (ci := 10) (v := .ref a_text) (C := R_MoNames) (T := F_MoNames) (N := 6) hx hb hg ul_MoNames hown hK hP 0 rfl rfl 0 (by decide) (hg _ wd_708) (fun _ h9 => h9) rfl d_MoNames_same_31 ?_
          refine lv_aload_n hx hb d_MoNames_same_34 rfl (lv_at hl 1 rfl) ?_
          refine va_get (D := g) (ci := 10) (v := .ref a_from) (C := R_MoNames) (T := F_MoNames) (N := 6) hx hb hg ul_MoNames hown hK hP 0 rfl rfl 1 (by decide) (hg _ wd_710) (fun _ h9 => h9) rfl d_MoNames_same_35 ?_
          refine lv_iload_n hx hb d_MoNames_same_38 rfl (lv_at hl 2 rfl) ?_
          obtain ⟨hi6, hok⟩ := ck_some hok
          refine va_iald hx hb hK hP 2 0 rfl rfl (ixb_in hi6) d_MoNames_same_39 ?_
          refine lv_iload hx hb d_MoNames_same_40 (lv_at hl 0 rfl) ?_
          refine lv_iadd hx hb d_MoNames_same_42 ?_
          obtain ⟨hi7, hok⟩ := ck_some hok
          refine va_bald hx hb hK hP 1 1 rfl rfl (ixb_in hi7) d_MoNames_same_43 ?_
          refine lv_aload_n hx hb d_MoNames_same_44 rfl (lv_at hl 3 rfl) ?_
          refine lv_iload hx hb d_MoNames_same_45 (lv_at hl 0 rfl) ?_
          obtain ⟨hi8, hok⟩ := ck_some hok
          refine va_bald hx hb hK hP 3 1 rfl rfl (ixb_in hi8) d_MoNames_same_47 ?_
          refine lv_icmp_eq hx hb d_MoNames_same_48 rfl (fun h9 => ?_) (fun h9 => ?_)
          · rw [if_pos h9] at hok
            refine lv_iinc (k := 0) (v := x4_4 + 1) hx hb d_MoNames_same_53 hl rfl rfl (by decide) rfl (fun ls hl => ?_)
            have hl : lv_has ls 5 [(4, .int (x4_4 + 1)), (0, .ref a), (1, .int kk), (2, .ref wd), (3, .int nn)] := hl
            refine lv_goto hx hb d_MoNames_same_56 rfl ?_
            exact ih4 _ _ _ (x4_4 + 1) (lv_sub hl [0, 1, 2, 3, 4] rfl) (sub3 hP hD [0, 1, 2, 3] (by decide)) hS hok
          · rw [if_neg h9] at hok
            refine lv_iconst (v := 0) hx hb d_MoNames_same_51 (by decide) ?_
            have hq := Option.some.inj hok
            have hq0 := hq
            subst hq0
            obtain ⟨hP9, hD9⟩ := sub2 (ws' := [(a, .inr (10, [.ref a_text, .ref a_from, .ref a_next, .ref a_first, .int a_size, .int a_texted])), (a_text, .inl (cs 1, a_text_n, .inl a_text_f)), (a_from, .inl (cs 0, a_from_n, .inl a_from_f)), (wd, .inl (cs 1, wd_n, .inl wd_f))]) hP hD [0, 1, 2, 3] rfl (by decide) rfl
            rw [hQ]
            exact W.zret (v := 0) hx hb hr rfl (fun t ht hW => ⟨⟨_, (), rfl, rfl, by rw [ht]; exact hP9, hD9⟩, hS.F ht⟩) hS.2.2 d_MoNames_same_52
    exact J4 n H locs ls (0 : Int32) hl ⟨hP, hD⟩ hS hok
  · rw [if_neg h3] at hok
    refine lv_iconst (v := 0) hx hb d_MoNames_same_19 (by decide) ?_
    have hq := Option.some.inj hok
    have hq0 := hq
    subst hq0
    obtain ⟨hP9, hD9⟩ := sub2 (ws' := [(a, .inr (10, [.ref a_text, .ref a_from, .ref a_next, .ref a_first, .int a_size, .int a_texted])), (a_text, .inl (cs 1, a_text_n, .inl a_text_f)), (a_from, .inl (cs 0, a_from_n, .inl a_from_f)), (wd, .inl (cs 1, wd_n, .inl wd_f))]) hP hD [0, 1, 2, 3] rfl (by decide) rfl
    rw [hQ]
    exact W.zret (v := 0) hx hb hr rfl (fun t ht hW => ⟨⟨_, (), rfl, rfl, by rw [ht]; exact hP9, hD9⟩, hS.F ht⟩) hS.2.2 d_MoNames_same_20

theorem d_MoNames_of_0 : decode b_MoNames_of 0 = .ok (.iload_n 2, 1) := by decide +kernel
theorem d_MoNames_of_1 : decode b_MoNames_of 1 = .ok (.istore_n 3, 1) := by decide +kernel
theorem d_MoNames_of_2 : decode b_MoNames_of 2 = .ok (.iconst 0, 1) := by decide +kernel
theorem d_MoNames_of_3 : decode b_MoNames_of 3 = .ok (.istore 4, 2) := by decide +kernel
theorem d_MoNames_of_5 : decode b_MoNames_of 5 = .ok (.iload 4, 2) := by decide +kernel
theorem d_MoNames_of_7 : decode b_MoNames_of 7 = .ok (.iload_n 2, 1) := by decide +kernel
theorem d_MoNames_of_8 : decode b_MoNames_of 8 = .ok (.if_icmp .ge 19, 3) := by decide +kernel
theorem d_MoNames_of_11 : decode b_MoNames_of 11 = .ok (.bipush 31, 2) := by decide +kernel
theorem d_MoNames_of_13 : decode b_MoNames_of 13 = .ok (.iload_n 3, 1) := by decide +kernel
theorem d_MoNames_of_14 : decode b_MoNames_of 14 = .ok (.imul, 1) := by decide +kernel
theorem d_MoNames_of_15 : decode b_MoNames_of 15 = .ok (.aload_n 1, 1) := by decide +kernel
theorem d_MoNames_of_16 : decode b_MoNames_of 16 = .ok (.iload 4, 2) := by decide +kernel
theorem d_MoNames_of_18 : decode b_MoNames_of 18 = .ok (.baload, 1) := by decide +kernel
theorem d_MoNames_of_19 : decode b_MoNames_of 19 = .ok (.iadd, 1) := by decide +kernel
theorem d_MoNames_of_20 : decode b_MoNames_of 20 = .ok (.istore_n 3, 1) := by decide +kernel
theorem d_MoNames_of_21 : decode b_MoNames_of 21 = .ok (.iinc 4 1, 3) := by decide +kernel
theorem d_MoNames_of_24 : decode b_MoNames_of 24 = .ok (.goto (-19), 3) := by decide +kernel
theorem d_MoNames_of_27 : decode b_MoNames_of 27 = .ok (.iload_n 3, 1) := by decide +kernel
theorem d_MoNames_of_28 : decode b_MoNames_of 28 = .ok (.iload_n 3, 1) := by decide +kernel
theorem d_MoNames_of_29 : decode b_MoNames_of 29 = .ok (.bipush 11, 2) := by decide +kernel
theorem d_MoNames_of_31 : decode b_MoNames_of 31 = .ok (.iushr, 1) := by decide +kernel
theorem d_MoNames_of_32 : decode b_MoNames_of 32 = .ok (.ixor, 1) := by decide +kernel
theorem d_MoNames_of_33 : decode b_MoNames_of 33 = .ok (.sipush 1023, 3) := by decide +kernel
theorem d_MoNames_of_36 : decode b_MoNames_of 36 = .ok (.iand, 1) := by decide +kernel
theorem d_MoNames_of_37 : decode b_MoNames_of 37 = .ok (.istore_n 3, 1) := by decide +kernel
theorem d_MoNames_of_38 : decode b_MoNames_of 38 = .ok (.aload_n 0, 1) := by decide +kernel
theorem d_MoNames_of_39 : decode b_MoNames_of 39 = .ok (.getfield 25, 3) := by decide +kernel
theorem d_MoNames_of_42 : decode b_MoNames_of 42 = .ok (.iload_n 3, 1) := by decide +kernel
theorem d_MoNames_of_43 : decode b_MoNames_of 43 = .ok (.iaload, 1) := by decide +kernel
theorem d_MoNames_of_44 : decode b_MoNames_of 44 = .ok (.istore 4, 2) := by decide +kernel
theorem d_MoNames_of_46 : decode b_MoNames_of 46 = .ok (.iload 4, 2) := by decide +kernel
theorem d_MoNames_of_48 : decode b_MoNames_of 48 = .ok (.iconst (-1), 1) := by decide +kernel
theorem d_MoNames_of_49 : decode b_MoNames_of 49 = .ok (.if_icmp .eq 29, 3) := by decide +kernel
theorem d_MoNames_of_52 : decode b_MoNames_of 52 = .ok (.aload_n 0, 1) := by decide +kernel
theorem d_MoNames_of_53 : decode b_MoNames_of 53 = .ok (.iload 4, 2) := by decide +kernel
theorem d_MoNames_of_55 : decode b_MoNames_of 55 = .ok (.aload_n 1, 1) := by decide +kernel
theorem d_MoNames_of_56 : decode b_MoNames_of 56 = .ok (.iload_n 2, 1) := by decide +kernel
theorem d_MoNames_of_57 : decode b_MoNames_of 57 = .ok (.invokevirtual 35, 3) := by decide +kernel
theorem d_MoNames_of_60 : decode b_MoNames_of 60 = .ok (.ifCond .eq 6, 3) := by decide +kernel
theorem d_MoNames_of_63 : decode b_MoNames_of 63 = .ok (.iload 4, 2) := by decide +kernel
theorem d_MoNames_of_65 : decode b_MoNames_of 65 = .ok (.ireturn, 1) := by decide +kernel
theorem d_MoNames_of_66 : decode b_MoNames_of 66 = .ok (.aload_n 0, 1) := by decide +kernel
theorem d_MoNames_of_67 : decode b_MoNames_of 67 = .ok (.getfield 22, 3) := by decide +kernel
theorem d_MoNames_of_70 : decode b_MoNames_of 70 = .ok (.iload 4, 2) := by decide +kernel
theorem d_MoNames_of_72 : decode b_MoNames_of 72 = .ok (.iaload, 1) := by decide +kernel
theorem d_MoNames_of_73 : decode b_MoNames_of 73 = .ok (.istore 4, 2) := by decide +kernel
theorem d_MoNames_of_75 : decode b_MoNames_of 75 = .ok (.goto (-29), 3) := by decide +kernel
theorem d_MoNames_of_78 : decode b_MoNames_of 78 = .ok (.iconst 0, 1) := by decide +kernel
theorem d_MoNames_of_79 : decode b_MoNames_of 79 = .ok (.istore 4, 2) := by decide +kernel
theorem d_MoNames_of_81 : decode b_MoNames_of 81 = .ok (.iload 4, 2) := by decide +kernel
theorem d_MoNames_of_83 : decode b_MoNames_of 83 = .ok (.iload_n 2, 1) := by decide +kernel
theorem d_MoNames_of_84 : decode b_MoNames_of 84 = .ok (.if_icmp .ge 25, 3) := by decide +kernel
theorem d_MoNames_of_87 : decode b_MoNames_of 87 = .ok (.aload_n 0, 1) := by decide +kernel
theorem d_MoNames_of_88 : decode b_MoNames_of 88 = .ok (.getfield 10, 3) := by decide +kernel
theorem d_MoNames_of_91 : decode b_MoNames_of 91 = .ok (.aload_n 0, 1) := by decide +kernel
theorem d_MoNames_of_92 : decode b_MoNames_of 92 = .ok (.getfield 32, 3) := by decide +kernel
theorem d_MoNames_of_95 : decode b_MoNames_of 95 = .ok (.iload 4, 2) := by decide +kernel
theorem d_MoNames_of_97 : decode b_MoNames_of 97 = .ok (.iadd, 1) := by decide +kernel
theorem d_MoNames_of_98 : decode b_MoNames_of 98 = .ok (.aload_n 1, 1) := by decide +kernel
theorem d_MoNames_of_99 : decode b_MoNames_of 99 = .ok (.iload 4, 2) := by decide +kernel
theorem d_MoNames_of_101 : decode b_MoNames_of 101 = .ok (.baload, 1) := by decide +kernel
theorem d_MoNames_of_102 : decode b_MoNames_of 102 = .ok (.bastore, 1) := by decide +kernel
theorem d_MoNames_of_103 : decode b_MoNames_of 103 = .ok (.iinc 4 1, 3) := by decide +kernel
theorem d_MoNames_of_106 : decode b_MoNames_of 106 = .ok (.goto (-25), 3) := by decide +kernel
theorem d_MoNames_of_109 : decode b_MoNames_of 109 = .ok (.aload_n 0, 1) := by decide +kernel
theorem d_MoNames_of_110 : decode b_MoNames_of 110 = .ok (.dup, 1) := by decide +kernel
theorem d_MoNames_of_111 : decode b_MoNames_of 111 = .ok (.getfield 32, 3) := by decide +kernel
theorem d_MoNames_of_114 : decode b_MoNames_of 114 = .ok (.iload_n 2, 1) := by decide +kernel
theorem d_MoNames_of_115 : decode b_MoNames_of 115 = .ok (.iadd, 1) := by decide +kernel
theorem d_MoNames_of_116 : decode b_MoNames_of 116 = .ok (.putfield 32, 3) := by decide +kernel
theorem d_MoNames_of_119 : decode b_MoNames_of 119 = .ok (.aload_n 0, 1) := by decide +kernel
theorem d_MoNames_of_120 : decode b_MoNames_of 120 = .ok (.getfield 22, 3) := by decide +kernel
theorem d_MoNames_of_123 : decode b_MoNames_of 123 = .ok (.aload_n 0, 1) := by decide +kernel
theorem d_MoNames_of_124 : decode b_MoNames_of 124 = .ok (.getfield 28, 3) := by decide +kernel
theorem d_MoNames_of_127 : decode b_MoNames_of 127 = .ok (.aload_n 0, 1) := by decide +kernel
theorem d_MoNames_of_128 : decode b_MoNames_of 128 = .ok (.getfield 25, 3) := by decide +kernel
theorem d_MoNames_of_131 : decode b_MoNames_of 131 = .ok (.iload_n 3, 1) := by decide +kernel
theorem d_MoNames_of_132 : decode b_MoNames_of 132 = .ok (.iaload, 1) := by decide +kernel
theorem d_MoNames_of_133 : decode b_MoNames_of 133 = .ok (.iastore, 1) := by decide +kernel
theorem d_MoNames_of_134 : decode b_MoNames_of 134 = .ok (.aload_n 0, 1) := by decide +kernel
theorem d_MoNames_of_135 : decode b_MoNames_of 135 = .ok (.getfield 25, 3) := by decide +kernel
theorem d_MoNames_of_138 : decode b_MoNames_of 138 = .ok (.iload_n 3, 1) := by decide +kernel
theorem d_MoNames_of_139 : decode b_MoNames_of 139 = .ok (.aload_n 0, 1) := by decide +kernel
theorem d_MoNames_of_140 : decode b_MoNames_of 140 = .ok (.getfield 28, 3) := by decide +kernel
theorem d_MoNames_of_143 : decode b_MoNames_of 143 = .ok (.iastore, 1) := by decide +kernel
theorem d_MoNames_of_144 : decode b_MoNames_of 144 = .ok (.aload_n 0, 1) := by decide +kernel
theorem d_MoNames_of_145 : decode b_MoNames_of 145 = .ok (.dup, 1) := by decide +kernel
theorem d_MoNames_of_146 : decode b_MoNames_of 146 = .ok (.getfield 28, 3) := by decide +kernel
theorem d_MoNames_of_149 : decode b_MoNames_of 149 = .ok (.iconst 1, 1) := by decide +kernel
theorem d_MoNames_of_150 : decode b_MoNames_of 150 = .ok (.iadd, 1) := by decide +kernel
theorem d_MoNames_of_151 : decode b_MoNames_of 151 = .ok (.putfield 28, 3) := by decide +kernel
theorem d_MoNames_of_154 : decode b_MoNames_of 154 = .ok (.aload_n 0, 1) := by decide +kernel
theorem d_MoNames_of_155 : decode b_MoNames_of 155 = .ok (.getfield 17, 3) := by decide +kernel
theorem d_MoNames_of_158 : decode b_MoNames_of 158 = .ok (.aload_n 0, 1) := by decide +kernel
theorem d_MoNames_of_159 : decode b_MoNames_of 159 = .ok (.getfield 28, 3) := by decide +kernel
theorem d_MoNames_of_162 : decode b_MoNames_of 162 = .ok (.aload_n 0, 1) := by decide +kernel
theorem d_MoNames_of_163 : decode b_MoNames_of 163 = .ok (.getfield 32, 3) := by decide +kernel
theorem d_MoNames_of_166 : decode b_MoNames_of 166 = .ok (.iastore, 1) := by decide +kernel
theorem d_MoNames_of_167 : decode b_MoNames_of 167 = .ok (.aload_n 0, 1) := by decide +kernel
theorem d_MoNames_of_168 : decode b_MoNames_of 168 = .ok (.getfield 28, 3) := by decide +kernel
theorem d_MoNames_of_171 : decode b_MoNames_of 171 = .ok (.iconst 1, 1) := by decide +kernel
theorem d_MoNames_of_172 : decode b_MoNames_of 172 = .ok (.isub, 1) := by decide +kernel
theorem d_MoNames_of_173 : decode b_MoNames_of 173 = .ok (.ireturn, 1) := by decide +kernel
def p_MoNames_of_81 (n : Nat) (nn : Int32) (a_size : Int32) (a_texted : Int32) (a_text_n : Nat) (a_from_n : Nat) (a_from_f : Nat → Int32) (a_next_n : Nat) (a_next_f : Nat → Int32) (a_first_n : Nat) (a_first_f : Nat → Int32) (wd_n : Nat) (wd_f : Nat → Int32) (x3_1 : Int32) (kf6 : Nat) (x4_6 : Int32) (a_text_6f : Nat → Int32) : Option (Int32 × Int32 × Int32 × (Nat → Int32) × (Nat → Int32) × (Nat → Int32) × (Nat → Int32)) := match kf6 with
  | 0 => none
  | kf6 + 1 => if nn ≤ x4_6 then (ck (ixb ((x3_1 ^^^ ((x3_1.toUInt32 >>> ((11 : Int32).toUInt32 &&& Int32.toUInt32 31)).toInt32)) &&& 1023) a_first_n) (ck (ixb a_size a_next_n) (ck (ixb ((x3_1 ^^^ ((x3_1.toUInt32 >>> ((11 : Int32).toUInt32 &&& Int32.toUInt32 31)).toInt32)) &&& 1023) a_first_n) (ck (ixb (a_size + 1) a_from_n) (some ((a_size + 1) - 1, a_size + 1, a_texted + nn, a_text_6f, upd a_from_f (a_size + 1).toNatClampNeg (a_texted + nn), upd a_next_f a_size.toNatClampNeg (a_first_f ((x3_1 ^^^ ((x3_1.toUInt32 >>> ((11 : Int32).toUInt32 &&& Int32.toUInt32 31)).toInt32)) &&& 1023).toNatClampNeg), upd a_first_f ((x3_1 ^^^ ((x3_1.toUInt32 >>> ((11 : Int32).toUInt32 &&& Int32.toUInt32 31)).toInt32)) &&& 1023).toNatClampNeg a_size)))))) else (ck (ixb x4_6 wd_n) (ck (ixb (a_texted + x4_6) a_text_n) (p_MoNames_of_81 n nn a_size a_texted a_text_n a_from_n a_from_f a_next_n a_next_f a_first_n a_first_f wd_n wd_f x3_1 kf6 (x4_6 + 1) (upd a_text_6f (a_texted + x4_6).toNatClampNeg (vp_nar .byte (wd_f x4_6.toNatClampNeg))))))
def p_MoNames_of_46 (n : Nat) (nn : Int32) (a_size : Int32) (a_texted : Int32) (a_text_n : Nat) (a_text_f : Nat → Int32) (a_from_n : Nat) (a_from_f : Nat → Int32) (a_next_n : Nat) (a_next_f : Nat → Int32) (a_first_n : Nat) (a_first_f : Nat → Int32) (wd_n : Nat) (wd_f : Nat → Int32) (x3_1 : Int32) (kf4 : Nat) (x4_4 : Int32) : Option (Int32 × Int32 × Int32 × (Nat → Int32) × (Nat → Int32) × (Nat → Int32) × (Nat → Int32)) := match kf4 with
  | 0 => none
  | kf4 + 1 => if x4_4 = (-1) then (p_MoNames_of_81 n nn a_size a_texted a_text_n a_from_n a_from_f a_next_n a_next_f a_first_n a_first_f wd_n wd_f x3_1 n (0 : Int32) a_text_f) else ((p_MoNames_same n x4_4 nn a_size a_texted a_text_n a_text_f a_from_n a_from_f wd_n wd_f).bind (fun r14 => if r14 = 0 then (ck (ixb x4_4 a_next_n) (p_MoNames_of_46 n nn a_size a_texted a_text_n a_text_f a_from_n a_from_f a_next_n a_next_f a_first_n a_first_f wd_n wd_f x3_1 kf4 (a_next_f x4_4.toNatClampNeg))) else (some (x4_4, a_size, a_texted, a_text_f, a_from_f, a_next_f, a_first_f))))
def p_MoNames_of_5 (n : Nat) (nn : Int32) (a_size : Int32) (a_texted : Int32) (a_text_n : Nat) (a_text_f : Nat → Int32) (a_from_n : Nat) (a_from_f : Nat → Int32) (a_next_n : Nat) (a_next_f : Nat → Int32) (a_first_n : Nat) (a_first_f : Nat → Int32) (wd_n : Nat) (wd_f : Nat → Int32) (kf1 : Nat) (x4_1 : Int32) (x3_1 : Int32) : Option (Int32 × Int32 × Int32 × (Nat → Int32) × (Nat → Int32) × (Nat → Int32) × (Nat → Int32)) := match kf1 with
  | 0 => none
  | kf1 + 1 => if nn ≤ x4_1 then (ck (ixb ((x3_1 ^^^ ((x3_1.toUInt32 >>> ((11 : Int32).toUInt32 &&& Int32.toUInt32 31)).toInt32)) &&& 1023) a_first_n) (p_MoNames_of_46 n nn a_size a_texted a_text_n a_text_f a_from_n a_from_f a_next_n a_next_f a_first_n a_first_f wd_n wd_f x3_1 n (a_first_f ((x3_1 ^^^ ((x3_1.toUInt32 >>> ((11 : Int32).toUInt32 &&& Int32.toUInt32 31)).toInt32)) &&& 1023).toNatClampNeg))) else (ck (ixb x4_1 wd_n) (p_MoNames_of_5 n nn a_size a_texted a_text_n a_text_f a_from_n a_from_f a_next_n a_next_f a_first_n a_first_f wd_n wd_f kf1 (x4_1 + 1) ((31 * x3_1) + (wd_f x4_1.toNatClampNeg))))
def p_MoNames_of (n : Nat) (nn : Int32) (a_size : Int32) (a_texted : Int32) (a_text_n : Nat) (a_text_f : Nat → Int32) (a_from_n : Nat) (a_from_f : Nat → Int32) (a_next_n : Nat) (a_next_f : Nat → Int32) (a_first_n : Nat) (a_first_f : Nat → Int32) (wd_n : Nat) (wd_f : Nat → Int32) : Option (Int32 × Int32 × Int32 × (Nat → Int32) × (Nat → Int32) × (Nat → Int32) × (Nat → Int32)) := p_MoNames_of_5 n nn a_size a_texted a_text_n a_text_f a_from_n a_from_f a_next_n a_next_f a_first_n a_first_f wd_n wd_f n (0 : Int32) nn
set_option maxHeartbeats 4000000 in
set_option maxRecDepth 100000 in
theorem c_MoNames_of (l : Launch) (g : va_G) (cs : Nat → ClassId) (ka : Nat → Nat) (a a_text a_from a_next a_first wd : Nat) (sz : Nat) (n : Nat) (nn : Int32) (a_size : Int32) (a_texted : Int32) (a_text_n : Nat) (a_text_f : Nat → Int32) (a_from_n : Nat) (a_from_f : Nat → Int32) (a_next_n : Nat) (a_next_f : Nat → Int32) (a_first_n : Nat) (a_first_f : Nat → Int32) (wd_n : Nat) (wd_f : Nat → Int32) (r : Int32) (o_a_size : Int32) (o_a_texted : Int32) (o_a_text_f : Nat → Int32) (o_a_from_f : Nat → Int32) (o_a_next_f : Nat → Int32) (o_a_first_f : Nat → Int32) (hok : p_MoNames_of n nn a_size a_texted a_text_n a_text_f a_from_n a_from_f a_next_n a_next_f a_first_n a_first_f wd_n wd_f = some (r, o_a_size, o_a_texted, o_a_text_f, o_a_from_f, o_a_next_f, o_a_first_f)) : Met l y_MoNames_of (.code y_MoNames_of b_MoNames_of 5 (some .int) :: GW) { frames := 1, cells := 0, slots := 0, locals := 24 } (va_Pc [.ref a, .ref wd, .int nn] (gP g cs ka [(a, .inr (10, [.ref a_text, .ref a_from, .ref a_next, .ref a_first, .int a_size, .int a_texted])), (a_text, .inl (cs 1, a_text_n, .inl a_text_f)), (a_from, .inl (cs 0, a_from_n, .inl a_from_f)), (a_next, .inl (cs 0, a_next_n, .inl a_next_f)), (a_first, .inl (cs 0, a_first_n, .inl a_first_f)), (wd, .inl (cs 1, wd_n, .inl wd_f))] sz)) (va_Qi (fun (r' : Int32) (_ : Unit) => r = r') (fun _ t => va_P g classes [(a, .inr (10, [.ref a_text, .ref a_from, .ref a_next, .ref a_first, .int o_a_size, .int o_a_texted])), (a_text, .inl (cs 1, a_text_n, .inl o_a_text_f)), (a_from, .inl (cs 0, a_from_n, .inl o_a_from_f)), (a_next, .inl (cs 0, a_next_n, .inl o_a_next_f)), (a_first, .inl (cs 0, a_first_n, .inl o_a_first_f)), (wd, .inl (cs 1, wd_n, .inl wd_f))] t.heap ∧ va_D (va_A [(a, .inr (10, [.ref a_text, .ref a_from, .ref a_next, .ref a_first, .int a_size, .int a_texted])), (a_text, .inl (cs 1, a_text_n, .inl a_text_f)), (a_from, .inl (cs 0, a_from_n, .inl a_from_f)), (a_next, .inl (cs 0, a_next_n, .inl a_next_f)), (a_first, .inl (cs 0, a_first_n, .inl a_first_f)), (wd, .inl (cs 1, wd_n, .inl wd_f))] sz) [(a, .inr (10, [.ref a_text, .ref a_from, .ref a_next, .ref a_first, .int o_a_size, .int o_a_texted])), (a_text, .inl (cs 1, a_text_n, .inl o_a_text_f)), (a_from, .inl (cs 0, a_from_n, .inl o_a_from_f)), (a_next, .inl (cs 0, a_next_n, .inl o_a_next_f)), (a_first, .inl (cs 0, a_first_n, .inl o_a_first_f)), (wd, .inl (cs 1, wd_n, .inl wd_f))]) (va_A [(a, .inr (10, [.ref a_text, .ref a_from, .ref a_next, .ref a_first, .int a_size, .int a_texted])), (a_text, .inl (cs 1, a_text_n, .inl a_text_f)), (a_from, .inl (cs 0, a_from_n, .inl a_from_f)), (a_next, .inl (cs 0, a_next_n, .inl a_next_f)), (a_first, .inl (cs 0, a_first_n, .inl a_first_f)), (wd, .inl (cs 1, wd_n, .inl wd_f))] sz)) 0 0 (va_A [(a, .inr (10, [.ref a_text, .ref a_from, .ref a_next, .ref a_first, .int a_size, .int a_texted])), (a_text, .inl (cs 1, a_text_n, .inl a_text_f)), (a_from, .inl (cs 0, a_from_n, .inl a_from_f)), (a_next, .inl (cs 0, a_next_n, .inl a_next_f)), (a_first, .inl (cs 0, a_first_n, .inl a_first_f)), (wd, .inl (cs 1, wd_n, .inl wd_f))] sz) := by
  refine Met.ofW (cc := b_MoNames_of) (maxL := 5) (ret := (some .int)) (by decide) rfl ?_
  intro p e s m args below meth c s₁ B hml hv
  obtain ⟨rfl, hsz, hP, hK, hD0, hgl, hkn, hkr⟩ := hv
  have hx := B.exec
  have hb := B.bytes
  have hr := B.returns
  have hg : ∀ w ∈ GW, w.before ([.ref a, .ref wd, .int nn] : List Value).toArray s = true := fun w hw => atoms_spec (ws := .code y_MoNames_of b_MoNames_of 5 (some .int) :: GW) B.pre w (List.mem_cons_of_mem _ hw)
  have hown : s.vm.findClass R_MoNames = some m.cls := findClass_of_methodNamed B.named
  have hlocks := B.notSynchronized
  subst hsz
  have hD := hD0.self (sz := s.heap.size)
  generalize hAe : va_A [(a, .inr (10, [.ref a_text, .ref a_from, .ref a_next, .ref a_first, .int a_size, .int a_texted])), (a_text, .inl (cs 1, a_text_n, .inl a_text_f)), (a_from, .inl (cs 0, a_from_n, .inl a_from_f)), (a_next, .inl (cs 0, a_next_n, .inl a_next_f)), (a_first, .inl (cs 0, a_first_n, .inl a_first_f)), (wd, .inl (cs 1, wd_n, .inl wd_f))] s.heap.size = A at hD hkn ⊢
  have hA : ∀ q : Nat, s.heap.size ≤ q → A q := fun q h => by rw [← hAe]; exact Or.inr h
  have hS : va_S A s.heap s.heap [] := va_S.rf
  have hP : va_P g classes [(a, .inr (10, [.ref a_text, .ref a_from, .ref a_next, .ref a_first, .int a_size, .int a_texted])), (a_text, .inl (cs 1, a_text_n, .inl a_text_f)), (a_from, .inl (cs 0, a_from_n, .inl a_from_f)), (a_next, .inl (cs 0, a_next_n, .inl a_next_f)), (a_first, .inl (cs 0, a_first_n, .inl a_first_f)), (wd, .inl (cs 1, wd_n, .inl wd_f))] s.heap := hP
  have hl := lv_entry ([.ref a, .ref wd, .int nn]) (n := 5) (Nat.le_of_ble_eq_true rfl)
  rw [lg_entry_eq]
  generalize (lg_sl ([.ref a, .ref wd, .int nn]) ++ List.replicate (5 - (lg_sl ([.ref a, .ref wd, .int nn])).length) Slot.unset).toArray = ls at hl ⊢
  have hl : lv_has ls 5 [(0, .ref a), (1, .ref wd), (2, .int nn)] := hl
  refine gq (fun Q hQ => ?_)
  obtain ⟨H, hH⟩ : ∃ H : Heap, H = s.heap := ⟨_, rfl⟩
  rw [← hH] at hP
  have hS : va_S A s.heap H [] := by rw [hH]; exact hS
  refine W.eqH hH ?_
  obtain ⟨locs, hlc⟩ : ∃ L : List Loc, L = [] := ⟨_, rfl⟩
  rw [← hlc] at hS ⊢
  unfold p_MoNames_of at hok
  refine lv_iload_n hx hb d_MoNames_of_0 rfl (lv_at hl 2 rfl) ?_
  refine lv_istore_n hx hb d_MoNames_of_1 rfl hl (by decide) rfl (fun ls hl => ?_)
  have hl : lv_has ls 5 [(3, .int nn), (0, .ref a), (1, .ref wd), (2, .int nn)] := hl
  refine lv_iconst (v := 0) hx hb d_MoNames_of_2 (by decide) ?_
  refine lv_istore hx hb d_MoNames_of_3 hl (by decide) rfl (fun ls hl => ?_)
  have hl : lv_has ls 5 [(4, .int 0), (3, .int nn), (0, .ref a), (1, .ref wd), (2, .int nn)] := hl
  have J1 : ∀ (kf1 : Nat) (H : Heap) (locs : List Loc) (ls : Array Slot) (x4_1 : Int32) (x3_1 : Int32), lv_has ls 5 [(4, .int x4_1), (3, .int x3_1), (0, .ref a), (1, .ref wd), (2, .int nn)] → PD g A H [(a, .inr (10, [.ref a_text, .ref a_from, .ref a_next, .ref a_first, .int a_size, .int a_texted])), (a_text, .inl (cs 1, a_text_n, .inl a_text_f)), (a_from, .inl (cs 0, a_from_n, .inl a_from_f)), (a_next, .inl (cs 0, a_next_n, .inl a_next_f)), (a_first, .inl (cs 0, a_first_n, .inl a_first_f)), (wd, .inl (cs 1, wd_n, .inl wd_f))] → va_S A s.heap H locs → p_MoNames_of_5 n nn a_size a_texted a_text_n a_text_f a_from_n a_from_f a_next_n a_next_f a_first_n a_first_f wd_n wd_f kf1 x4_1 x3_1 = some (r, o_a_size, o_a_texted, o_a_text_f, o_a_from_f, o_a_next_f, o_a_first_f) → W p l e (headSpec (.code y_MoNames_of b_MoNames_of 5 (some .int) :: GW) { frames := 1, cells := 0, slots := 0, locals := 24 }).room s m ([.ref a, .ref wd, .int nn] : List Value).toArray below meth c H locs 0 0 Q (F0 m 5 ls []) := by
    intro kf1
    induction kf1 with
    | zero => intro H locs ls x4_1 x3_1 hl ⟨hP, hD⟩ hS hok; rw [p_MoNames_of_5] at hok; cases hok
    | succ kf1 ih1 =>
      intro H locs ls x4_1 x3_1 hl ⟨hP, hD⟩ hS hok
      rw [p_MoNames_of_5] at hok
      refine lv_iload hx hb d_MoNames_of_5 (lv_at hl 0 rfl) ?_
      refine lv_iload_n hx hb d_MoNames_of_7 rfl (lv_at hl 4 rfl) ?_
      refine lv_icmp_ge hx hb d_MoNames_of_8 rfl (fun h2 => ?_) (fun h2 => ?_)
      · rw [if_pos h2] at hok
        refine lv_iload_n hx hb d_MoNames_of_27 rfl (lv_at hl 1 rfl) ?_
        refine lv_iload_n hx hb d_MoNames_of_28 rfl (lv_at hl 1 rfl) ?_
        refine lv_bipush (v := 11) hx hb d_MoNames_of_29 (by decide) ?_
        refine lv_iushr hx hb d_MoNames_of_31 rfl ?_
        refine lv_ixor hx hb d_MoNames_of_32 ?_
        refine lv_sipush (v := 1023) hx hb d_MoNames_of_33 (by decide) ?_
        refine lv_iand hx hb d_MoNames_of_36 ?_
        refine lv_istore_n hx hb d_MoNames_of_37 rfl hl (by decide) rfl (fun ls hl => ?_)
        have hl : lv_has ls 5 [(3, .int ((x3_1 ^^^ ((x3_1.toUInt32 >>> ((11 : Int32).toUInt32 &&& Int32.toUInt32 31)).toInt32)) &&& 1023)), (4, .int x4_1), (0, .ref a), (1, .ref wd), (2, .int nn)] := hl
        refine lv_aload_n hx hb d_MoNames_of_38 rfl (lv_at hl 2 rfl) ?_
        refine va_get (D := g) (ci := 10) (v := .ref a_first) (C := R_MoNames) (T := F_MoNames) (N := 6) hx hb hg ul_MoNames hown hK hP 0 rfl rfl 3 (by decide) (hg _ wd_713) (fun _ h9 => h9) rfl d_MoNames_of_39 ?_
        refine lv_iload_n hx hb d_MoNames_of_42 rfl (lv_at hl 0 rfl) ?_
        obtain ⟨hi3, hok⟩ := ck_some hok
        refine va_iald hx hb hK hP 4 0 rfl rfl (ixb_in hi3) d_MoNames_of_43 ?_
        refine lv_istore hx hb d_MoNames_of_44 hl (by decide) rfl (fun ls hl => ?_)
        have hl : lv_has ls 5 [(4, .int (a_first_f ((x3_1 ^^^ ((x3_1.toUInt32 >>> ((11 : Int32).toUInt32 &&& Int32.toUInt32 31)).toInt32)) &&& 1023).toNatClampNeg)), (3, .int ((x3_1 ^^^ ((x3_1.toUInt32 >>> ((11 : Int32).toUInt32 &&& Int32.toUInt32 31)).toInt32)) &&& 1023)), (0, .ref a), (1, .ref wd), (2, .int nn)] := hl
        have J4 : ∀ (kf4 : Nat) (H : Heap) (locs : List Loc) (ls : Array Slot) (x4_4 : Int32), lv_has ls 5 [(4, .int x4_4), (3, .int ((x3_1 ^^^ ((x3_1.toUInt32 >>> ((11 : Int32).toUInt32 &&& Int32.toUInt32 31)).toInt32)) &&& 1023)), (0, .ref a), (1, .ref wd), (2, .int nn)] → PD g A H [(a, .inr (10, [.ref a_text, .ref a_from, .ref a_next, .ref a_first, .int a_size, .int a_texted])), (a_text, .inl (cs 1, a_text_n, .inl a_text_f)), (a_from, .inl (cs 0, a_from_n, .inl a_from_f)), (a_next, .inl (cs 0, a_next_n, .inl a_next_f)), (a_first, .inl (cs 0, a_first_n, .inl a_first_f)), (wd, .inl (cs 1, wd_n, .inl wd_f))] → va_S A s.heap H locs → p_MoNames_of_46 n nn a_size a_texted a_text_n a_text_f a_from_n a_from_f a_next_n a_next_f a_first_n a_first_f wd_n wd_f x3_1 kf4 x4_4 = some (r, o_a_size, o_a_texted, o_a_text_f, o_a_from_f, o_a_next_f, o_a_first_f) → W p l e (headSpec (.code y_MoNames_of b_MoNames_of 5 (some .int) :: GW) { frames := 1, cells := 0, slots := 0, locals := 24 }).room s m ([.ref a, .ref wd, .int nn] : List Value).toArray below meth c H locs 0 0 Q (F0 m 46 ls []) := by
          intro kf4
          induction kf4 with
          | zero => intro H locs ls x4_4 hl ⟨hP, hD⟩ hS hok; rw [p_MoNames_of_46] at hok; cases hok
          | succ kf4 ih4 =>
            intro H locs ls x4_4 hl ⟨hP, hD⟩ hS hok
            rw [p_MoNames_of_46] at hok
            refine lv_iload hx hb d_MoNames_of_46 (lv_at hl 0 rfl) ?_
            refine lv_iconst (v := (-1)) hx hb d_MoNames_of_48 (by decide) ?_
            refine lv_icmp_eq hx hb d_MoNames_of_49 rfl (fun h5 => ?_) (fun h5 => ?_)
            · rw [if_pos h5] at hok
              refine lv_iconst (v := 0) hx hb d_MoNames_of_78 (by decide) ?_
              refine lv_istore hx hb d_MoNames_of_79 hl (by decide) rfl (fun ls hl => ?_)
              have hl : lv_has ls 5 [(4, .int 0), (3, .int ((x3_1 ^^^ ((x3_1.toUInt32 >>> ((11 : Int32).toUInt32 &&& Int32.toUInt32 31)).toInt32)) &&& 1023)), (0, .ref a), (1, .ref wd), (2, .int nn)] := hl
              have J6 : ∀ (kf6 : Nat) (H : Heap) (locs : List Loc) (ls : Array Slot) (x4_6 : Int32) (a_text_6f : Nat → Int32), lv_has ls 5 [(4, .int x4_6), (3, .int ((x3_1 ^^^ ((x3_1.toUInt32 >>> ((11 : Int32).toUInt32 &&& Int32.toUInt32 31)).toInt32)) &&& 1023)), (0, .ref a), (1, .ref wd), (2, .int nn)] → PD g A H [(a, .inr (10, [.ref a_text, .ref a_from, .ref a_next, .ref a_first, .int a_size, .int a_texted])), (a_text, .inl (cs 1, a_text_n, .inl a_text_6f)), (a_from, .inl (cs 0, a_from_n, .inl a_from_f)), (a_next, .inl (cs 0, a_next_n, .inl a_next_f)), (a_first, .inl (cs 0, a_first_n, .inl a_first_f)), (wd, .inl (cs 1, wd_n, .inl wd_f))] → va_S A s.heap H locs → p_MoNames_of_81 n nn a_size a_texted a_text_n a_from_n a_from_f a_next_n a_next_f a_first_n a_first_f wd_n wd_f x3_1 kf6 x4_6 a_text_6f = some (r, o_a_size, o_a_texted, o_a_text_f, o_a_from_f, o_a_next_f, o_a_first_f) → W p l e (headSpec (.code y_MoNames_of b_MoNames_of 5 (some .int) :: GW) { frames := 1, cells := 0, slots := 0, locals := 24 }).room s m ([.ref a, .ref wd, .int nn] : List Value).toArray below meth c H locs 0 0 Q (F0 m 81 ls []) := by
                intro kf6
                induction kf6 with
                | zero => intro H locs ls x4_6 a_text_6f hl ⟨hP, hD⟩ hS hok; rw [p_MoNames_of_81] at hok; cases hok
                | succ kf6 ih6 =>
                  intro H locs ls x4_6 a_text_6f hl ⟨hP, hD⟩ hS hok
                  rw [p_MoNames_of_81] at hok
                  refine lv_iload hx hb d_MoNames_of_81 (lv_at hl 0 rfl) ?_
                  refine lv_iload_n hx hb d_MoNames_of_83 rfl (lv_at hl 4 rfl) ?_
                  refine lv_icmp_ge hx hb d_MoNames_of_84 rfl (fun h7 => ?_) (fun h7 => ?_)
                  · rw [if_pos h7] at hok
                    refine lv_aload_n hx hb d_MoNames_of_109 rfl (lv_at hl 2 rfl) ?_
                    refine lv_dup hx hb d_MoNames_of_110 rfl ?_
                    refine va_get (D := g) (ci := 10) (v := .int a_texted) (C := R_MoNames) (T := F_MoNames) (N := 6) hx hb hg ul_MoNames hown hK hP 0 rfl rfl 5 (by decide) (hg _ wd_715) (fun _ h9 => h9) rfl d_MoNames_of_111 ?_
                    refine lv_iload_n hx hb d_MoNames_of_114 rfl (lv_at hl 4 rfl) ?_
                    refine lv_iadd hx hb d_MoNames_of_115 ?_
                    refine va_put (D := g) (ci := 10) (v := .int (a_texted + nn)) (ty := .int) (C := R_MoNames) (T := F_MoNames) (N := 6) hx hb hg ul_MoNames t_MoNames tk_MoNames n_MoNames hown hK hP hD hS 0 rfl rfl 5 (by decide) (hg _ wd_715) (fun _ h9 => h9) rfl (by decide +kernel) rfl rfl (Nat.le_of_ble_eq_true rfl) d_MoNames_of_116 (fun H locs hP hD hS => ?_)
                    obtain ⟨hP, hD⟩ : PD g A H [(a, .inr (10, [.ref a_text, .ref a_from, .ref a_next, .ref a_first, .int a_size, .int (a_texted + nn)])), (a_text, .inl (cs 1, a_text_n, .inl a_text_6f)), (a_from, .inl (cs 0, a_from_n, .inl a_from_f)), (a_next, .inl (cs 0, a_next_n, .inl a_next_f)), (a_first, .inl (cs 0, a_first_n, .inl a_first_f)), (wd, .inl (cs 1, wd_n, .inl wd_f))] := ⟨hP, hD⟩
                    refine lv_aload_n hx hb d_MoNames_of_119 rfl (lv_at hl 2 rfl) ?_
                    refine va_get (D := g) (ci := 10) (v := .ref a_next) (C := R_MoNames) (T := F_MoNames) (N := 6) hx hb hg ul_MoNames hown hK hP 0 rfl rfl 2 (by decide) (hg _ wd_712) (fun _ h9 => h9) rfl d_MoNames_of_120 ?_
                    refine lv_aload_n hx hb d_MoNames_of_123 rfl (lv_at hl 2 rfl) ?_
                    refine va_get (D := g) (ci := 10) (v := .int a_size) (C := R_MoNames) (T := F_MoNames) (N := 6) hx hb hg ul_MoNames hown hK hP 0 rfl rfl 4 (by decide) (hg _ wd_714) (fun _ h9 => h9) rfl d_MoNames_of_124 ?_
                    refine lv_aload_n hx hb d_MoNames_of_127 rfl (lv_at hl 2 rfl) ?_
                    refine va_get (D := g) (ci := 10) (v := .ref a_first) (C := R_MoNames) (T := F_MoNames) (N := 6) hx hb hg ul_MoNames hown hK hP 0 rfl rfl 3 (by decide) (hg _ wd_713) (fun _ h9 => h9) rfl d_MoNames_of_128 ?_
                    refine lv_iload_n hx hb d_MoNames_of_131 rfl (lv_at hl 1 rfl) ?_
                    obtain ⟨hi8, hok⟩ := ck_some hok
                    refine va_iald hx hb hK hP 4 0 rfl rfl (ixb_in hi8) d_MoNames_of_132 ?_
                    obtain ⟨hi9, hok⟩ := ck_some hok
                    refine va_iast hx hb hK hP hD hS 3 0 rfl rfl (ixb_in hi9) d_MoNames_of_133 (fun H locs hP hD hS => ?_)
                    obtain ⟨hP, hD⟩ : PD g A H [(a, .inr (10, [.ref a_text, .ref a_from, .ref a_next, .ref a_first, .int a_size, .int (a_texted + nn)])), (a_text, .inl (cs 1, a_text_n, .inl a_text_6f)), (a_from, .inl (cs 0, a_from_n, .inl a_from_f)), (a_next, .inl (cs 0, a_next_n, .inl (upd a_next_f a_size.toNatClampNeg (a_first_f ((x3_1 ^^^ ((x3_1.toUInt32 >>> ((11 : Int32).toUInt32 &&& Int32.toUInt32 31)).toInt32)) &&& 1023).toNatClampNeg)))), (a_first, .inl (cs 0, a_first_n, .inl a_first_f)), (wd, .inl (cs 1, wd_n, .inl wd_f))] := ⟨hP, hD⟩
                    refine lv_aload_n hx hb d_MoNames_of_134 rfl (lv_at hl 2 rfl) ?_
                    refine va_get (D := g) (ci := 10) (v := .ref a_first) (C := R_MoNames) (T := F_MoNames) (N := 6) hx hb hg ul_MoNames hown hK hP 0 rfl rfl 3 (by decide) (hg _ wd_713) (fun _ h9 => h9) rfl d_MoNames_of_135 ?_
                    refine lv_iload_n hx hb d_MoNames_of_138 rfl (lv_at hl 1 rfl) ?_
                    refine lv_aload_n hx hb d_MoNames_of_139 rfl (lv_at hl 2 rfl) ?_
                    refine va_get (D := g) (ci := 10) (v := .int a_size) (C := R_MoNames) (T := F_MoNames) (N := 6) hx hb hg ul_MoNames hown hK hP 0 rfl rfl 4 (by decide) (hg _ wd_714) (fun _ h9 => h9) rfl d_MoNames_of_140 ?_
                    obtain ⟨hi10, hok⟩ := ck_some hok
                    refine va_iast hx hb hK hP hD hS 4 0 rfl rfl (ixb_in hi10) d_MoNames_of_143 (fun H locs hP hD hS => ?_)
                    obtain ⟨hP, hD⟩ : PD g A H [(a, .inr (10, [.ref a_text, .ref a_from, .ref a_next, .ref a_first, .int a_size, .int (a_texted + nn)])), (a_text, .inl (cs 1, a_text_n, .inl a_text_6f)), (a_from, .inl (cs 0, a_from_n, .inl a_from_f)), (a_next, .inl (cs 0, a_next_n, .inl (upd a_next_f a_size.toNatClampNeg (a_first_f ((x3_1 ^^^ ((x3_1.toUInt32 >>> ((11 : Int32).toUInt32 &&& Int32.toUInt32 31)).toInt32)) &&& 1023).toNatClampNeg)))), (a_first, .inl (cs 0, a_first_n, .inl (upd a_first_f ((x3_1 ^^^ ((x3_1.toUInt32 >>> ((11 : Int32).toUInt32 &&& Int32.toUInt32 31)).toInt32)) &&& 1023).toNatClampNeg a_size))), (wd, .inl (cs 1, wd_n, .inl wd_f))] := ⟨hP, hD⟩
                    refine lv_aload_n hx hb d_MoNames_of_144 rfl (lv_at hl 2 rfl) ?_
                    refine lv_dup hx hb d_MoNames_of_145 rfl ?_
                    refine va_get (D := g) (ci := 10) (v := .int a_size) (C := R_MoNames) (T := F_MoNames) (N := 6) hx hb hg ul_MoNames hown hK hP 0 rfl rfl 4 (by decide) (hg _ wd_714) (fun _ h9 => h9) rfl d_MoNames_of_146 ?_
                    refine lv_iconst (v := 1) hx hb d_MoNames_of_149 (by decide) ?_
                    refine lv_iadd hx hb d_MoNames_of_150 ?_
                    refine va_put (D := g) (ci := 10) (v := .int (a_size + 1)) (ty := .int) (C := R_MoNames) (T := F_MoNames) (N := 6) hx hb hg ul_MoNames t_MoNames tk_MoNames n_MoNames hown hK hP hD hS 0 rfl rfl 4 (by decide) (hg _ wd_714) (fun _ h9 => h9) rfl (by decide +kernel) rfl rfl (Nat.le_of_ble_eq_true rfl) d_MoNames_of_151 (fun H locs hP hD hS => ?_)
                    obtain ⟨hP, hD⟩ : PD g A H [(a, .inr (10, [.ref a_text, .ref a_from, .ref a_next, .ref a_first, .int (a_size + 1), .int (a_texted + nn)])), (a_text, .inl (cs 1, a_text_n, .inl a_text_6f)), (a_from, .inl (cs 0, a_from_n, .inl a_from_f)), (a_next, .inl (cs 0, a_next_n, .inl (upd a_next_f a_size.toNatClampNeg (a_first_f ((x3_1 ^^^ ((x3_1.toUInt32 >>> ((11 : Int32).toUInt32 &&& Int32.toUInt32 31)).toInt32)) &&& 1023).toNatClampNeg)))), (a_first, .inl (cs 0, a_first_n, .inl (upd a_first_f ((x3_1 ^^^ ((x3_1.toUInt32 >>> ((11 : Int32).toUInt32 &&& Int32.toUInt32 31)).toInt32)) &&& 1023).toNatClampNeg a_size))), (wd, .inl (cs 1, wd_n, .inl wd_f))] := ⟨hP, hD⟩
                    refine lv_aload_n hx hb d_MoNames_of_154 rfl (lv_at hl 2 rfl) ?_
                    refine va_get (D := g) (ci := 10) (v := .ref a_from) (C := R_MoNames) (T := F_MoNames) (N := 6) hx hb hg ul_MoNames hown hK hP 0 rfl rfl 1 (by decide) (hg _ wd_710) (fun _ h9 => h9) rfl d_MoNames_of_155 ?_
                    refine lv_aload_n hx hb d_MoNames_of_158 rfl (lv_at hl 2 rfl) ?_
                    refine va_get (D := g) (ci := 10) (v := .int (a_size + 1)) (C := R_MoNames) (T := F_MoNames) (N := 6) hx hb hg ul_MoNames hown hK hP 0 rfl rfl 4 (by decide) (hg _ wd_714) (fun _ h9 => h9) rfl d_MoNames_of_159 ?_
                    refine lv_aload_n hx hb d_MoNames_of_162 rfl (lv_at hl 2 rfl) ?_
                    refine va_get (D := g) (ci := 10) (v := .int (a_texted + nn)) (C := R_MoNames) (T := F_MoNames) (N := 6) hx hb hg ul_MoNames hown hK hP 0 rfl rfl 5 (by decide) (hg _ wd_715) (fun _ h9 => h9) rfl d_MoNames_of_163 ?_
                    obtain ⟨hi11, hok⟩ := ck_some hok
                    refine va_iast hx hb hK hP hD hS 2 0 rfl rfl (ixb_in hi11) d_MoNames_of_166 (fun H locs hP hD hS => ?_)
                    obtain ⟨hP, hD⟩ : PD g A H [(a, .inr (10, [.ref a_text, .ref a_from, .ref a_next, .ref a_first, .int (a_size + 1), .int (a_texted + nn)])), (a_text, .inl (cs 1, a_text_n, .inl a_text_6f)), (a_from, .inl (cs 0, a_from_n, .inl (upd a_from_f (a_size + 1).toNatClampNeg (a_texted + nn)))), (a_next, .inl (cs 0, a_next_n, .inl (upd a_next_f a_size.toNatClampNeg (a_first_f ((x3_1 ^^^ ((x3_1.toUInt32 >>> ((11 : Int32).toUInt32 &&& Int32.toUInt32 31)).toInt32)) &&& 1023).toNatClampNeg)))), (a_first, .inl (cs 0, a_first_n, .inl (upd a_first_f ((x3_1 ^^^ ((x3_1.toUInt32 >>> ((11 : Int32).toUInt32 &&& Int32.toUInt32 31)).toInt32)) &&& 1023).toNatClampNeg a_size))), (wd, .inl (cs 1, wd_n, .inl wd_f))] := ⟨hP, hD⟩
                    refine lv_aload_n hx hb d_MoNames_of_167 rfl (lv_at hl 2 rfl) ?_
                    refine va_get (D := g) (ci := 10) (v := .int (a_size + 1)) (C := R_MoNames) (T := F_MoNames) (N := 6) hx hb hg ul_MoNames hown hK hP 0 rfl rfl 4 (by decide) (hg _ wd_714) (fun _ h9 => h9) rfl d_MoNames_of_168 ?_
                    refine lv_iconst (v := 1) hx hb d_MoNames_of_171 (by decide) ?_
                    refine lv_isub hx hb d_MoNames_of_172 ?_
                    have hq := Option.some.inj hok
                    obtain ⟨hq0, hq⟩ := Prod.mk.inj hq
                    obtain ⟨hq1, hq⟩ := Prod.mk.inj hq
                    obtain ⟨hq2, hq⟩ := Prod.mk.inj hq
                    obtain ⟨hq3, hq⟩ := Prod.mk.inj hq
                    obtain ⟨hq4, hq⟩ := Prod.mk.inj hq
                    obtain ⟨hq5, hq⟩ := Prod.mk.inj hq
                    have hq6 := hq
                    subst hq0
                    subst hq1
                    subst hq2
                    subst hq3
                    subst hq4
                    subst hq5
                    subst hq6
                    obtain ⟨hP9, hD9⟩ := sub2 (ws' := [(a, .inr (10, [.ref a_text, .ref a_from, .ref a_next, .ref a_first, .int (a_size + 1), .int (a_texted + nn)])), (a_text, .inl (cs 1, a_text_n, .inl a_text_6f)), (a_from, .inl (cs 0, a_from_n, .inl (upd a_from_f (a_size + 1).toNatClampNeg (a_texted + nn)))), (a_next, .inl (cs 0, a_next_n, .inl (upd a_next_f a_size.toNatClampNeg (a_first_f ((x3_1 ^^^ ((x3_1.toUInt32 >>> ((11 : Int32).toUInt32 &&& Int32.toUInt32 31)).toInt32)) &&& 1023).toNatClampNeg)))), (a_first, .inl (cs 0, a_first_n, .inl (upd a_first_f ((x3_1 ^^^ ((x3_1.toUInt32 >>> ((11 : Int32).toUInt32 &&& Int32.toUInt32 31)).toInt32)) &&& 1023).toNatClampNeg a_size))), (wd, .inl (cs 1, wd_n, .inl wd_f))]) hP hD [0, 1, 2, 3, 4, 5] rfl (by decide) rfl
                    rw [hQ]
                    exact W.iret (v := (a_size + 1) - 1) hx hb hr (fun t ht hW => ⟨⟨_, (), rfl, rfl, by rw [ht]; exact hP9, hD9⟩, hS.F ht⟩) hS.2.2 d_MoNames_of_173
                  · rw [if_neg h7] at hok
                    refine lv_aload_n hx hb d_MoNames_of_87 rfl (lv_at hl 2 rfl) ?_
                    refine va_get (D := g) (ci := 10) (v := .ref a_text) (C := R_MoNames) (T := F_MoNames) (N := 6) hx hb hg ul_MoNames hown hK hP 0 rfl rfl 0 (by decide) (hg _ wd_708) (fun _ h9 => h9) rfl d_MoNames_of_88 ?_
                    refine lv_aload_n hx hb d_MoNames_of_91 rfl (lv_at hl 2 rfl) ?_
                    refine va_get (D := g) (ci := 10) (v := .int a_texted) (C := R_MoNames) (T := F_MoNames) (N := 6) hx hb hg ul_MoNames hown hK hP 0 rfl rfl 5 (by decide) (hg _ wd_715) (fun _ h9 => h9) rfl d_MoNames_of_92 ?_
                    refine lv_iload hx hb d_MoNames_of_95 (lv_at hl 0 rfl) ?_
                    refine lv_iadd hx hb d_MoNames_of_97 ?_
                    refine lv_aload_n hx hb d_MoNames_of_98 rfl (lv_at hl 3 rfl) ?_
                    refine lv_iload hx hb d_MoNames_of_99 (lv_at hl 0 rfl) ?_
                    obtain ⟨hi12, hok⟩ := ck_some hok
                    refine va_bald hx hb hK hP 5 1 rfl rfl (ixb_in hi12) d_MoNames_of_101 ?_
                    obtain ⟨hi13, hok⟩ := ck_some hok
                    refine va_bast hx hb hK hP hD hS 1 1 rfl rfl (ixb_in hi13) d_MoNames_of_102 (fun H locs hP hD hS => ?_)
                    obtain ⟨hP, hD⟩ : PD g A H [(a, .inr (10, [.ref a_text, .ref a_from, .ref a_next, .ref a_first, .int a_size, .int a_texted])), (a_text, .inl (cs 1, a_text_n, .inl (upd a_text_6f (a_texted + x4_6).toNatClampNeg (vp_nar .byte (wd_f x4_6.toNatClampNeg))))), (a_from, .inl (cs 0, a_from_n, .inl a_from_f)), (a_next, .inl (cs 0, a_next_n, .inl a_next_f)), (a_first, .inl (cs 0, a_first_n, .inl a_first_f)), (wd, .inl (cs 1, wd_n, .inl wd_f))] := ⟨hP, hD⟩
                    refine lv_iinc (k := 0) (v := x4_6 + 1) hx hb d_MoNames_of_103 hl rfl rfl (by decide) rfl (fun ls hl => ?_)
                    have hl : lv_has ls 5 [(4, .int (x4_6 + 1)), (3, .int ((x3_1 ^^^ ((x3_1.toUInt32 >>> ((11 : Int32).toUInt32 &&& Int32.toUInt32 31)).toInt32)) &&& 1023)), (0, .ref a), (1, .ref wd), (2, .int nn)] := hl
                    refine lv_goto hx hb d_MoNames_of_106 rfl ?_
                    exact ih6 _ _ _ (x4_6 + 1) (upd a_text_6f (a_texted + x4_6).toNatClampNeg (vp_nar .byte (wd_f x4_6.toNatClampNeg))) (lv_sub hl [0, 1, 2, 3, 4] rfl) (sub3 hP hD [0, 1, 2, 3, 4, 5] (by decide)) hS hok
              exact J6 n H locs ls (0 : Int32) a_text_f hl ⟨hP, hD⟩ hS hok
            · rw [if_neg h5] at hok
              refine lv_aload_n hx hb d_MoNames_of_52 rfl (lv_at hl 2 rfl) ?_
              refine lv_iload hx hb d_MoNames_of_53 (lv_at hl 0 rfl) ?_
              refine lv_aload_n hx hb d_MoNames_of_55 rfl (lv_at hl 3 rfl) ?_
              refine lv_iload_n hx hb d_MoNames_of_56 rfl (lv_at hl 4 rfl) ?_
              obtain ⟨r14, hc14, hok⟩ := bd_some hok
              obtain ⟨hPc, hDc, hFc⟩ := cut0 (wc := [(a, .inr (10, [.ref a_text, .ref a_from, .ref a_next, .ref a_first, .int a_size, .int a_texted])), (a_text, .inl (cs 1, a_text_n, .inl a_text_f)), (a_from, .inl (cs 0, a_from_n, .inl a_from_f)), (wd, .inl (cs 1, wd_n, .inl wd_f))]) hP hD hS hA [0, 1, 2, 5] (by decide) rfl
              refine va_calli (va_runV (As := [.int x4_4, .ref wd, .int nn]) (rest := []) ⟨hx, hb, hml, hown, hg⟩ (c_MoNames_same l g cs ka a_next a_first a a_text a_from wd H.size n x4_4 nn a_size a_texted a_text_n a_text_f a_from_n a_from_f wd_n wd_f r14 hc14) (cwV (C := R_MoNames) 3 hg (gw_V wd_718 wd_719 wd_720 wd_717 wd_716) rfl rfl rfl (by decide +kernel) ⟨Nat.le_of_ble_eq_true rfl, Nat.le_of_ble_eq_true rfl⟩) ⟨gP_blind, va_recv (q0 := 0) (ci := 10) (q := (R_MoNames, F_MoNames, 6)) hK hP rfl rfl, gP_pre hPc hDc hK hgl hkn hkr hS hFc⟩ rfl rfl hl.1 rfl (lv_room (Nat.le_of_ble_eq_true rfl)) d_MoNames_of_57 ⟨Nat.le_of_ble_eq_true rfl, Nat.le_of_ble_eq_true rfl⟩) hS (fun q _ h => hFc q h) hFc (fun r14' u t H locs ht hvm hr14 hB hz1 hk1 hS => ?_)
              subst hr14
              rw [ht] at hB
              obtain ⟨hP1, hD1⟩ := hB
              obtain ⟨hP, hD⟩ := jn_A hP hD [0, 1, 2, 5] [3, 4] rfl rfl (by decide) (by decide) hk1 hFc hP1 hD1
              obtain ⟨hP, hD⟩ : PD g A H [(a_next, .inl (cs 0, a_next_n, .inl a_next_f)), (a_first, .inl (cs 0, a_first_n, .inl a_first_f)), (a, .inr (10, [.ref a_text, .ref a_from, .ref a_next, .ref a_first, .int a_size, .int a_texted])), (a_text, .inl (cs 1, a_text_n, .inl a_text_f)), (a_from, .inl (cs 0, a_from_n, .inl a_from_f)), (wd, .inl (cs 1, wd_n, .inl wd_f))] := ⟨hP, hD⟩
              refine lv_if_eq hx hb d_MoNames_of_60 rfl (fun h15 => ?_) (fun h15 => ?_)
              · rw [if_pos h15] at hok
                refine lv_aload_n hx hb d_MoNames_of_66 rfl (lv_at hl 2 rfl) ?_
                refine va_get (D := g) (ci := 10) (v := .ref a_next) (C := R_MoNames) (T := F_MoNames) (N := 6) hx hb hg ul_MoNames hown hK hP 2 rfl rfl 2 (by decide) (hg _ wd_712) (fun _ h9 => h9) rfl d_MoNames_of_67 ?_
                refine lv_iload hx hb d_MoNames_of_70 (lv_at hl 0 rfl) ?_
                obtain ⟨hi16, hok⟩ := ck_some hok
                refine va_iald hx hb hK hP 0 0 rfl rfl (ixb_in hi16) d_MoNames_of_72 ?_
                refine lv_istore hx hb d_MoNames_of_73 hl (by decide) rfl (fun ls hl => ?_)
                have hl : lv_has ls 5 [(4, .int (a_next_f x4_4.toNatClampNeg)), (3, .int ((x3_1 ^^^ ((x3_1.toUInt32 >>> ((11 : Int32).toUInt32 &&& Int32.toUInt32 31)).toInt32)) &&& 1023)), (0, .ref a), (1, .ref wd), (2, .int nn)] := hl
                refine lv_goto hx hb d_MoNames_of_75 rfl ?_
                exact ih4 _ _ _ (a_next_f x4_4.toNatClampNeg) (lv_sub hl [0, 1, 2, 3, 4] rfl) (sub3 hP hD [2, 3, 4, 0, 1, 5] (by decide)) hS hok
              · rw [if_neg h15] at hok
                refine lv_iload hx hb d_MoNames_of_63 (lv_at hl 0 rfl) ?_
                have hq := Option.some.inj hok
                obtain ⟨hq0, hq⟩ := Prod.mk.inj hq
                obtain ⟨hq1, hq⟩ := Prod.mk.inj hq
                obtain ⟨hq2, hq⟩ := Prod.mk.inj hq
                obtain ⟨hq3, hq⟩ := Prod.mk.inj hq
                obtain ⟨hq4, hq⟩ := Prod.mk.inj hq
                obtain ⟨hq5, hq⟩ := Prod.mk.inj hq
                have hq6 := hq
                subst hq0
                subst hq1
                subst hq2
                subst hq3
                subst hq4
                subst hq5
                subst hq6
                obtain ⟨hP9, hD9⟩ := sub2 (ws' := [(a, .inr (10, [.ref a_text, .ref a_from, .ref a_next, .ref a_first, .int a_size, .int a_texted])), (a_text, .inl (cs 1, a_text_n, .inl a_text_f)), (a_from, .inl (cs 0, a_from_n, .inl a_from_f)), (a_next, .inl (cs 0, a_next_n, .inl a_next_f)), (a_first, .inl (cs 0, a_first_n, .inl a_first_f)), (wd, .inl (cs 1, wd_n, .inl wd_f))]) hP hD [2, 3, 4, 0, 1, 5] rfl (by decide) rfl
                rw [hQ]
                exact W.iret (v := x4_4) hx hb hr (fun t ht hW => ⟨⟨_, (), rfl, rfl, by rw [ht]; exact hP9, hD9⟩, hS.F ht⟩) hS.2.2 d_MoNames_of_65
        exact J4 n H locs ls (a_first_f ((x3_1 ^^^ ((x3_1.toUInt32 >>> ((11 : Int32).toUInt32 &&& Int32.toUInt32 31)).toInt32)) &&& 1023).toNatClampNeg) hl ⟨hP, hD⟩ hS hok
      · rw [if_neg h2] at hok
        refine lv_bipush (v := 31) hx hb d_MoNames_of_11 (by decide) ?_
        refine lv_iload_n hx hb d_MoNames_of_13 rfl (lv_at hl 1 rfl) ?_
        refine lv_imul hx hb d_MoNames_of_14 ?_
        refine lv_aload_n hx hb d_MoNames_of_15 rfl (lv_at hl 3 rfl) ?_
        refine lv_iload hx hb d_MoNames_of_16 (lv_at hl 0 rfl) ?_
        obtain ⟨hi17, hok⟩ := ck_some hok
        refine va_bald hx hb hK hP 5 1 rfl rfl (ixb_in hi17) d_MoNames_of_18 ?_
        refine lv_iadd hx hb d_MoNames_of_19 ?_
        refine lv_istore_n hx hb d_MoNames_of_20 rfl hl (by decide) rfl (fun ls hl => ?_)
        have hl : lv_has ls 5 [(3, .int ((31 * x3_1) + (wd_f x4_1.toNatClampNeg))), (4, .int x4_1), (0, .ref a), (1, .ref wd), (2, .int nn)] := hl
        refine lv_iinc (k := 1) (v := x4_1 + 1) hx hb d_MoNames_of_21 hl rfl rfl (by decide) rfl (fun ls hl => ?_)
        have hl : lv_has ls 5 [(4, .int (x4_1 + 1)), (3, .int ((31 * x3_1) + (wd_f x4_1.toNatClampNeg))), (0, .ref a), (1, .ref wd), (2, .int nn)] := hl
        refine lv_goto hx hb d_MoNames_of_24 rfl ?_
        exact ih1 _ _ _ (x4_1 + 1) ((31 * x3_1) + (wd_f x4_1.toNatClampNeg)) (lv_sub hl [0, 1, 2, 3, 4] rfl) (sub3 hP hD [0, 1, 2, 3, 4, 5] (by decide)) hS hok
  exact J1 n H locs ls (0 : Int32) nn hl ⟨hP, hD⟩ hS hok

theorem d_MoNames_length_0 : decode b_MoNames_length 0 = .ok (.aload_n 0, 1) := by decide +kernel
theorem d_MoNames_length_1 : decode b_MoNames_length 1 = .ok (.getfield 17, 3) := by decide +kernel
theorem d_MoNames_length_4 : decode b_MoNames_length 4 = .ok (.iload_n 1, 1) := by decide +kernel
theorem d_MoNames_length_5 : decode b_MoNames_length 5 = .ok (.iconst 1, 1) := by decide +kernel
theorem d_MoNames_length_6 : decode b_MoNames_length 6 = .ok (.iadd, 1) := by decide +kernel
theorem d_MoNames_length_7 : decode b_MoNames_length 7 = .ok (.iaload, 1) := by decide +kernel
theorem d_MoNames_length_8 : decode b_MoNames_length 8 = .ok (.aload_n 0, 1) := by decide +kernel
theorem d_MoNames_length_9 : decode b_MoNames_length 9 = .ok (.getfield 17, 3) := by decide +kernel
theorem d_MoNames_length_12 : decode b_MoNames_length 12 = .ok (.iload_n 1, 1) := by decide +kernel
theorem d_MoNames_length_13 : decode b_MoNames_length 13 = .ok (.iaload, 1) := by decide +kernel
theorem d_MoNames_length_14 : decode b_MoNames_length 14 = .ok (.isub, 1) := by decide +kernel
theorem d_MoNames_length_15 : decode b_MoNames_length 15 = .ok (.ireturn, 1) := by decide +kernel
def p_MoNames_length (kk : Int32) (a_size : Int32) (a_texted : Int32) (a_from_n : Nat) (a_from_f : Nat → Int32) : Option Int32 := ck (ixb (kk + 1) a_from_n) (ck (ixb kk a_from_n) (some ((a_from_f (kk + 1).toNatClampNeg) - (a_from_f kk.toNatClampNeg))))
set_option maxHeartbeats 4000000 in
set_option maxRecDepth 100000 in
theorem c_MoNames_length (l : Launch) (g : va_G) (cs : Nat → ClassId) (ka : Nat → Nat) (a_text : Nat) (a_next : Nat) (a_first : Nat) (a a_from : Nat) (sz : Nat) (kk : Int32) (a_size : Int32) (a_texted : Int32) (a_from_n : Nat) (a_from_f : Nat → Int32) (r : Int32) (hok : p_MoNames_length kk a_size a_texted a_from_n a_from_f = some r) : Met l y_MoNames_length (.code y_MoNames_length b_MoNames_length 2 (some .int) :: GW) { frames := 0, cells := 0, slots := 0, locals := 0 } (va_Pc [.ref a, .int kk] (gP g cs ka [(a, .inr (10, [.ref a_text, .ref a_from, .ref a_next, .ref a_first, .int a_size, .int a_texted])), (a_from, .inl (cs 0, a_from_n, .inl a_from_f))] sz)) (va_Qi (fun (r' : Int32) (_ : Unit) => r = r') (fun _ t => va_P g classes [(a, .inr (10, [.ref a_text, .ref a_from, .ref a_next, .ref a_first, .int a_size, .int a_texted])), (a_from, .inl (cs 0, a_from_n, .inl a_from_f))] t.heap ∧ va_D (va_A [(a, .inr (10, [.ref a_text, .ref a_from, .ref a_next, .ref a_first, .int a_size, .int a_texted])), (a_from, .inl (cs 0, a_from_n, .inl a_from_f))] sz) [(a, .inr (10, [.ref a_text, .ref a_from, .ref a_next, .ref a_first, .int a_size, .int a_texted])), (a_from, .inl (cs 0, a_from_n, .inl a_from_f))]) (va_A [(a, .inr (10, [.ref a_text, .ref a_from, .ref a_next, .ref a_first, .int a_size, .int a_texted])), (a_from, .inl (cs 0, a_from_n, .inl a_from_f))] sz)) 0 0 (va_A [(a, .inr (10, [.ref a_text, .ref a_from, .ref a_next, .ref a_first, .int a_size, .int a_texted])), (a_from, .inl (cs 0, a_from_n, .inl a_from_f))] sz) := by
  refine Met.ofW (cc := b_MoNames_length) (maxL := 2) (ret := (some .int)) (by decide) rfl ?_
  intro p e s m args below meth c s₁ B hml hv
  obtain ⟨rfl, hsz, hP, hK, hD0, hgl, hkn, hkr⟩ := hv
  have hx := B.exec
  have hb := B.bytes
  have hr := B.returns
  have hg : ∀ w ∈ GW, w.before ([.ref a, .int kk] : List Value).toArray s = true := fun w hw => atoms_spec (ws := .code y_MoNames_length b_MoNames_length 2 (some .int) :: GW) B.pre w (List.mem_cons_of_mem _ hw)
  have hown : s.vm.findClass R_MoNames = some m.cls := findClass_of_methodNamed B.named
  have hlocks := B.notSynchronized
  subst hsz
  have hD := hD0.self (sz := s.heap.size)
  generalize hAe : va_A [(a, .inr (10, [.ref a_text, .ref a_from, .ref a_next, .ref a_first, .int a_size, .int a_texted])), (a_from, .inl (cs 0, a_from_n, .inl a_from_f))] s.heap.size = A at hD hkn ⊢
  have hA : ∀ q : Nat, s.heap.size ≤ q → A q := fun q h => by rw [← hAe]; exact Or.inr h
  have hS : va_S A s.heap s.heap [] := va_S.rf
  have hP : va_P g classes [(a, .inr (10, [.ref a_text, .ref a_from, .ref a_next, .ref a_first, .int a_size, .int a_texted])), (a_from, .inl (cs 0, a_from_n, .inl a_from_f))] s.heap := hP
  have hl := lv_entry ([.ref a, .int kk]) (n := 2) (Nat.le_of_ble_eq_true rfl)
  rw [lg_entry_eq]
  generalize (lg_sl ([.ref a, .int kk]) ++ List.replicate (2 - (lg_sl ([.ref a, .int kk])).length) Slot.unset).toArray = ls at hl ⊢
  have hl : lv_has ls 2 [(0, .ref a), (1, .int kk)] := hl
  refine gq (fun Q hQ => ?_)
  obtain ⟨H, hH⟩ : ∃ H : Heap, H = s.heap := ⟨_, rfl⟩
  rw [← hH] at hP
  have hS : va_S A s.heap H [] := by rw [hH]; exact hS
  refine W.eqH hH ?_
  obtain ⟨locs, hlc⟩ : ∃ L : List Loc, L = [] := ⟨_, rfl⟩
  rw [← hlc] at hS ⊢
  unfold p_MoNames_length at hok
  refine lv_aload_n hx hb d_MoNames_length_0 rfl (lv_at hl 0 rfl) ?_
  refine va_get (D := g) (ci := 10) (v := .ref a_from) (C := R_MoNames) (T := F_MoNames) (N := 6) hx hb hg ul_MoNames hown hK hP 0 rfl rfl 1 (by decide) (hg _ wd_710) (fun _ h9 => h9) rfl d_MoNames_length_1 ?_
  refine lv_iload_n hx hb d_MoNames_length_4 rfl (lv_at hl 1 rfl) ?_
  refine lv_iconst (v := 1) hx hb d_MoNames_length_5 (by decide) ?_
  refine lv_iadd hx hb d_MoNames_length_6 ?_
  obtain ⟨hi1, hok⟩ := ck_some hok
  refine va_iald hx hb hK hP 1 0 rfl rfl (ixb_in hi1) d_MoNames_length_7 ?_
  refine lv_aload_n hx hb d_MoNames_length_8 rfl (lv_at hl 0 rfl) ?_
  refine va_get (D := g) (ci := 10) (v := .ref a_from) (C := R_MoNames) (T := F_MoNames) (N := 6) hx hb hg ul_MoNames hown hK hP 0 rfl rfl 1 (by decide) (hg _ wd_710) (fun _ h9 => h9) rfl d_MoNames_length_9 ?_
  refine lv_iload_n hx hb d_MoNames_length_12 rfl (lv_at hl 1 rfl) ?_
  obtain ⟨hi2, hok⟩ := ck_some hok
  refine va_iald hx hb hK hP 1 0 rfl rfl (ixb_in hi2) d_MoNames_length_13 ?_
  refine lv_isub hx hb d_MoNames_length_14 ?_
  have hq := Option.some.inj hok
  have hq0 := hq
  subst hq0
  obtain ⟨hP9, hD9⟩ := sub2 (ws' := [(a, .inr (10, [.ref a_text, .ref a_from, .ref a_next, .ref a_first, .int a_size, .int a_texted])), (a_from, .inl (cs 0, a_from_n, .inl a_from_f))]) hP hD [0, 1] rfl (by decide) rfl
  rw [hQ]
  exact W.iret (v := (a_from_f (kk + 1).toNatClampNeg) - (a_from_f kk.toNatClampNeg)) hx hb hr (fun t ht hW => ⟨⟨_, (), rfl, rfl, by rw [ht]; exact hP9, hD9⟩, hS.F ht⟩) hS.2.2 d_MoNames_length_15

theorem d_MoNames_at_0 : decode b_MoNames_at 0 = .ok (.aload_n 0, 1) := by decide +kernel
theorem d_MoNames_at_1 : decode b_MoNames_at 1 = .ok (.getfield 10, 3) := by decide +kernel
theorem d_MoNames_at_4 : decode b_MoNames_at 4 = .ok (.aload_n 0, 1) := by decide +kernel
theorem d_MoNames_at_5 : decode b_MoNames_at 5 = .ok (.getfield 17, 3) := by decide +kernel
theorem d_MoNames_at_8 : decode b_MoNames_at 8 = .ok (.iload_n 1, 1) := by decide +kernel
theorem d_MoNames_at_9 : decode b_MoNames_at 9 = .ok (.iaload, 1) := by decide +kernel
theorem d_MoNames_at_10 : decode b_MoNames_at 10 = .ok (.iload_n 2, 1) := by decide +kernel
theorem d_MoNames_at_11 : decode b_MoNames_at 11 = .ok (.iadd, 1) := by decide +kernel
theorem d_MoNames_at_12 : decode b_MoNames_at 12 = .ok (.baload, 1) := by decide +kernel
theorem d_MoNames_at_13 : decode b_MoNames_at 13 = .ok (.ireturn, 1) := by decide +kernel
def p_MoNames_at (kk : Int32) (i : Int32) (a_size : Int32) (a_texted : Int32) (a_text_n : Nat) (a_text_f : Nat → Int32) (a_from_n : Nat) (a_from_f : Nat → Int32) : Option Int32 := ck (ixb kk a_from_n) (ck (ixb ((a_from_f kk.toNatClampNeg) + i) a_text_n) (some (a_text_f ((a_from_f kk.toNatClampNeg) + i).toNatClampNeg)))
set_option maxHeartbeats 4000000 in
set_option maxRecDepth 100000 in
theorem c_MoNames_at (l : Launch) (g : va_G) (cs : Nat → ClassId) (ka : Nat → Nat) (a_next : Nat) (a_first : Nat) (a a_text a_from : Nat) (sz : Nat) (kk : Int32) (i : Int32) (a_size : Int32) (a_texted : Int32) (a_text_n : Nat) (a_text_f : Nat → Int32) (a_from_n : Nat) (a_from_f : Nat → Int32) (r : Int32) (hok : p_MoNames_at kk i a_size a_texted a_text_n a_text_f a_from_n a_from_f = some r) : Met l y_MoNames_at (.code y_MoNames_at b_MoNames_at 3 (some .int) :: GW) { frames := 0, cells := 0, slots := 0, locals := 0 } (va_Pc [.ref a, .int kk, .int i] (gP g cs ka [(a, .inr (10, [.ref a_text, .ref a_from, .ref a_next, .ref a_first, .int a_size, .int a_texted])), (a_text, .inl (cs 1, a_text_n, .inl a_text_f)), (a_from, .inl (cs 0, a_from_n, .inl a_from_f))] sz)) (va_Qi (fun (r' : Int32) (_ : Unit) => r = r') (fun _ t => va_P g classes [(a, .inr (10, [.ref a_text, .ref a_from, .ref a_next, .ref a_first, .int a_size, .int a_texted])), (a_text, .inl (cs 1, a_text_n, .inl a_text_f)), (a_from, .inl (cs 0, a_from_n, .inl a_from_f))] t.heap ∧ va_D (va_A [(a, .inr (10, [.ref a_text, .ref a_from, .ref a_next, .ref a_first, .int a_size, .int a_texted])), (a_text, .inl (cs 1, a_text_n, .inl a_text_f)), (a_from, .inl (cs 0, a_from_n, .inl a_from_f))] sz) [(a, .inr (10, [.ref a_text, .ref a_from, .ref a_next, .ref a_first, .int a_size, .int a_texted])), (a_text, .inl (cs 1, a_text_n, .inl a_text_f)), (a_from, .inl (cs 0, a_from_n, .inl a_from_f))]) (va_A [(a, .inr (10, [.ref a_text, .ref a_from, .ref a_next, .ref a_first, .int a_size, .int a_texted])), (a_text, .inl (cs 1, a_text_n, .inl a_text_f)), (a_from, .inl (cs 0, a_from_n, .inl a_from_f))] sz)) 0 0 (va_A [(a, .inr (10, [.ref a_text, .ref a_from, .ref a_next, .ref a_first, .int a_size, .int a_texted])), (a_text, .inl (cs 1, a_text_n, .inl a_text_f)), (a_from, .inl (cs 0, a_from_n, .inl a_from_f))] sz) := by
  refine Met.ofW (cc := b_MoNames_at) (maxL := 3) (ret := (some .int)) (by decide) rfl ?_
  intro p e s m args below meth c s₁ B hml hv
  obtain ⟨rfl, hsz, hP, hK, hD0, hgl, hkn, hkr⟩ := hv
  have hx := B.exec
  have hb := B.bytes
  have hr := B.returns
  have hg : ∀ w ∈ GW, w.before ([.ref a, .int kk, .int i] : List Value).toArray s = true := fun w hw => atoms_spec (ws := .code y_MoNames_at b_MoNames_at 3 (some .int) :: GW) B.pre w (List.mem_cons_of_mem _ hw)
  have hown : s.vm.findClass R_MoNames = some m.cls := findClass_of_methodNamed B.named
  have hlocks := B.notSynchronized
  subst hsz
  have hD := hD0.self (sz := s.heap.size)
  generalize hAe : va_A [(a, .inr (10, [.ref a_text, .ref a_from, .ref a_next, .ref a_first, .int a_size, .int a_texted])), (a_text, .inl (cs 1, a_text_n, .inl a_text_f)), (a_from, .inl (cs 0, a_from_n, .inl a_from_f))] s.heap.size = A at hD hkn ⊢
  have hA : ∀ q : Nat, s.heap.size ≤ q → A q := fun q h => by rw [← hAe]; exact Or.inr h
  have hS : va_S A s.heap s.heap [] := va_S.rf
  have hP : va_P g classes [(a, .inr (10, [.ref a_text, .ref a_from, .ref a_next, .ref a_first, .int a_size, .int a_texted])), (a_text, .inl (cs 1, a_text_n, .inl a_text_f)), (a_from, .inl (cs 0, a_from_n, .inl a_from_f))] s.heap := hP
  have hl := lv_entry ([.ref a, .int kk, .int i]) (n := 3) (Nat.le_of_ble_eq_true rfl)
  rw [lg_entry_eq]
  generalize (lg_sl ([.ref a, .int kk, .int i]) ++ List.replicate (3 - (lg_sl ([.ref a, .int kk, .int i])).length) Slot.unset).toArray = ls at hl ⊢
  have hl : lv_has ls 3 [(0, .ref a), (1, .int kk), (2, .int i)] := hl
  refine gq (fun Q hQ => ?_)
  obtain ⟨H, hH⟩ : ∃ H : Heap, H = s.heap := ⟨_, rfl⟩
  rw [← hH] at hP
  have hS : va_S A s.heap H [] := by rw [hH]; exact hS
  refine W.eqH hH ?_
  obtain ⟨locs, hlc⟩ : ∃ L : List Loc, L = [] := ⟨_, rfl⟩
  rw [← hlc] at hS ⊢
  unfold p_MoNames_at at hok
  refine lv_aload_n hx hb d_MoNames_at_0 rfl (lv_at hl 0 rfl) ?_
  refine va_get (D := g) (ci := 10) (v := .ref a_text) (C := R_MoNames) (T := F_MoNames) (N := 6) hx hb hg ul_MoNames hown hK hP 0 rfl rfl 0 (by decide) (hg _ wd_708) (fun _ h9 => h9) rfl d_MoNames_at_1 ?_
  refine lv_aload_n hx hb d_MoNames_at_4 rfl (lv_at hl 0 rfl) ?_
  refine va_get (D := g) (ci := 10) (v := .ref a_from) (C := R_MoNames) (T := F_MoNames) (N := 6) hx hb hg ul_MoNames hown hK hP 0 rfl rfl 1 (by decide) (hg _ wd_710) (fun _ h9 => h9) rfl d_MoNames_at_5 ?_
  refine lv_iload_n hx hb d_MoNames_at_8 rfl (lv_at hl 1 rfl) ?_
  obtain ⟨hi1, hok⟩ := ck_some hok
  refine va_iald hx hb hK hP 2 0 rfl rfl (ixb_in hi1) d_MoNames_at_9 ?_
  refine lv_iload_n hx hb d_MoNames_at_10 rfl (lv_at hl 2 rfl) ?_
  refine lv_iadd hx hb d_MoNames_at_11 ?_
  obtain ⟨hi2, hok⟩ := ck_some hok
  refine va_bald hx hb hK hP 1 1 rfl rfl (ixb_in hi2) d_MoNames_at_12 ?_
  have hq := Option.some.inj hok
  have hq0 := hq
  subst hq0
  obtain ⟨hP9, hD9⟩ := sub2 (ws' := [(a, .inr (10, [.ref a_text, .ref a_from, .ref a_next, .ref a_first, .int a_size, .int a_texted])), (a_text, .inl (cs 1, a_text_n, .inl a_text_f)), (a_from, .inl (cs 0, a_from_n, .inl a_from_f))]) hP hD [0, 1, 2] rfl (by decide) rfl
  rw [hQ]
  exact W.iret (v := a_text_f ((a_from_f kk.toNatClampNeg) + i).toNatClampNeg) hx hb hr (fun t ht hW => ⟨⟨_, (), rfl, rfl, by rw [ht]; exact hP9, hD9⟩, hS.F ht⟩) hS.2.2 d_MoNames_at_13

theorem d_MoNames_spells_0 : decode b_MoNames_spells 0 = .ok (.aload_n 0, 1) := by decide +kernel
theorem d_MoNames_spells_1 : decode b_MoNames_spells 1 = .ok (.iload_n 1, 1) := by decide +kernel
theorem d_MoNames_spells_2 : decode b_MoNames_spells 2 = .ok (.invokevirtual 39, 3) := by decide +kernel
theorem d_MoNames_spells_5 : decode b_MoNames_spells 5 = .ok (.aload_n 2, 1) := by decide +kernel
theorem d_MoNames_spells_6 : decode b_MoNames_spells 6 = .ok (.invokevirtual 43, 3) := by decide +kernel
theorem d_MoNames_spells_9 : decode b_MoNames_spells 9 = .ok (.if_icmp .eq 5, 3) := by decide +kernel
theorem d_MoNames_spells_12 : decode b_MoNames_spells 12 = .ok (.iconst 0, 1) := by decide +kernel
theorem d_MoNames_spells_13 : decode b_MoNames_spells 13 = .ok (.ireturn, 1) := by decide +kernel
theorem d_MoNames_spells_14 : decode b_MoNames_spells 14 = .ok (.iconst 0, 1) := by decide +kernel
theorem d_MoNames_spells_15 : decode b_MoNames_spells 15 = .ok (.istore_n 3, 1) := by decide +kernel
theorem d_MoNames_spells_16 : decode b_MoNames_spells 16 = .ok (.iload_n 3, 1) := by decide +kernel
theorem d_MoNames_spells_17 : decode b_MoNames_spells 17 = .ok (.aload_n 2, 1) := by decide +kernel
theorem d_MoNames_spells_18 : decode b_MoNames_spells 18 = .ok (.invokevirtual 43, 3) := by decide +kernel
theorem d_MoNames_spells_21 : decode b_MoNames_spells 21 = .ok (.if_icmp .ge 25, 3) := by decide +kernel
theorem d_MoNames_spells_24 : decode b_MoNames_spells 24 = .ok (.aload_n 0, 1) := by decide +kernel
theorem d_MoNames_spells_25 : decode b_MoNames_spells 25 = .ok (.iload_n 1, 1) := by decide +kernel
theorem d_MoNames_spells_26 : decode b_MoNames_spells 26 = .ok (.iload_n 3, 1) := by decide +kernel
theorem d_MoNames_spells_27 : decode b_MoNames_spells 27 = .ok (.invokevirtual 48, 3) := by decide +kernel
theorem d_MoNames_spells_30 : decode b_MoNames_spells 30 = .ok (.aload_n 2, 1) := by decide +kernel
theorem d_MoNames_spells_31 : decode b_MoNames_spells 31 = .ok (.iload_n 3, 1) := by decide +kernel
theorem d_MoNames_spells_32 : decode b_MoNames_spells 32 = .ok (.invokevirtual 52, 3) := by decide +kernel
theorem d_MoNames_spells_35 : decode b_MoNames_spells 35 = .ok (.if_icmp .eq 5, 3) := by decide +kernel
theorem d_MoNames_spells_38 : decode b_MoNames_spells 38 = .ok (.iconst 0, 1) := by decide +kernel
theorem d_MoNames_spells_39 : decode b_MoNames_spells 39 = .ok (.ireturn, 1) := by decide +kernel
theorem d_MoNames_spells_40 : decode b_MoNames_spells 40 = .ok (.iinc 3 1, 3) := by decide +kernel
theorem d_MoNames_spells_43 : decode b_MoNames_spells 43 = .ok (.goto (-27), 3) := by decide +kernel
theorem d_MoNames_spells_46 : decode b_MoNames_spells 46 = .ok (.iconst 1, 1) := by decide +kernel
theorem d_MoNames_spells_47 : decode b_MoNames_spells 47 = .ok (.ireturn, 1) := by decide +kernel
def p_MoNames_spells_16 (n : Nat) (kk : Int32) (sx : Nat) (a_size : Int32) (a_texted : Int32) (a_text_n : Nat) (a_text_f : Nat → Int32) (a_from_n : Nat) (a_from_f : Nat → Int32) (kf4 : Nat) (x3_4 : Int32) : Option Int32 := match kf4 with
  | 0 => none
  | kf4 + 1 => (p_String_length sx).bind (fun r5 => if r5 ≤ x3_4 then (some (1 : Int32)) else ((p_MoNames_at kk x3_4 a_size a_texted a_text_n a_text_f a_from_n a_from_f).bind (fun r7 => (p_String_charAt sx x3_4).bind (fun r8 => if r7 = r8 then (p_MoNames_spells_16 n kk sx a_size a_texted a_text_n a_text_f a_from_n a_from_f kf4 (x3_4 + 1)) else (some (0 : Int32))))))
def p_MoNames_spells (n : Nat) (kk : Int32) (sx : Nat) (a_size : Int32) (a_texted : Int32) (a_text_n : Nat) (a_text_f : Nat → Int32) (a_from_n : Nat) (a_from_f : Nat → Int32) : Option Int32 := ck (decide (sx < kn_n)) ((p_MoNames_length kk a_size a_texted a_from_n a_from_f).bind (fun r1 => (p_String_length sx).bind (fun r2 => if r1 = r2 then (p_MoNames_spells_16 n kk sx a_size a_texted a_text_n a_text_f a_from_n a_from_f n (0 : Int32)) else (some (0 : Int32)))))
set_option maxHeartbeats 4000000 in
set_option maxRecDepth 100000 in
theorem c_MoNames_spells (l : Launch) (g : va_G) (cs : Nat → ClassId) (ka : Nat → Nat) (a_next : Nat) (a_first : Nat) (a a_text a_from : Nat) (sz : Nat) (n : Nat) (kk : Int32) (sx : Nat) (a_size : Int32) (a_texted : Int32) (a_text_n : Nat) (a_text_f : Nat → Int32) (a_from_n : Nat) (a_from_f : Nat → Int32) (r : Int32) (hok : p_MoNames_spells n kk sx a_size a_texted a_text_n a_text_f a_from_n a_from_f = some r) : Met l y_MoNames_spells (.code y_MoNames_spells b_MoNames_spells 4 (some .boolean) :: GW) { frames := 4, cells := 0, slots := 0, locals := 85 } (va_Pc [.ref a, .int kk, .ref (ka (200 + sx))] (gP g cs ka [(a, .inr (10, [.ref a_text, .ref a_from, .ref a_next, .ref a_first, .int a_size, .int a_texted])), (a_text, .inl (cs 1, a_text_n, .inl a_text_f)), (a_from, .inl (cs 0, a_from_n, .inl a_from_f))] sz)) (va_Qi (fun (r' : Int32) (_ : Unit) => r = r') (fun _ t => va_P g classes [(a, .inr (10, [.ref a_text, .ref a_from, .ref a_next, .ref a_first, .int a_size, .int a_texted])), (a_text, .inl (cs 1, a_text_n, .inl a_text_f)), (a_from, .inl (cs 0, a_from_n, .inl a_from_f))] t.heap ∧ va_D (va_A [(a, .inr (10, [.ref a_text, .ref a_from, .ref a_next, .ref a_first, .int a_size, .int a_texted])), (a_text, .inl (cs 1, a_text_n, .inl a_text_f)), (a_from, .inl (cs 0, a_from_n, .inl a_from_f))] sz) [(a, .inr (10, [.ref a_text, .ref a_from, .ref a_next, .ref a_first, .int a_size, .int a_texted])), (a_text, .inl (cs 1, a_text_n, .inl a_text_f)), (a_from, .inl (cs 0, a_from_n, .inl a_from_f))]) (va_A [(a, .inr (10, [.ref a_text, .ref a_from, .ref a_next, .ref a_first, .int a_size, .int a_texted])), (a_text, .inl (cs 1, a_text_n, .inl a_text_f)), (a_from, .inl (cs 0, a_from_n, .inl a_from_f))] sz)) 0 0 (va_A [(a, .inr (10, [.ref a_text, .ref a_from, .ref a_next, .ref a_first, .int a_size, .int a_texted])), (a_text, .inl (cs 1, a_text_n, .inl a_text_f)), (a_from, .inl (cs 0, a_from_n, .inl a_from_f))] sz) := by
  refine Met.ofW (cc := b_MoNames_spells) (maxL := 4) (ret := (some .boolean)) (by decide) rfl ?_
  intro p e s m args below meth c s₁ B hml hv
  obtain ⟨rfl, hsz, hP, hK, hD0, hgl, hkn, hkr⟩ := hv
  have hx := B.exec
  have hb := B.bytes
  have hr := B.returns
  have hg : ∀ w ∈ GW, w.before ([.ref a, .int kk, .ref (ka (200 + sx))] : List Value).toArray s = true := fun w hw => atoms_spec (ws := .code y_MoNames_spells b_MoNames_spells 4 (some .boolean) :: GW) B.pre w (List.mem_cons_of_mem _ hw)
  have hown : s.vm.findClass R_MoNames = some m.cls := findClass_of_methodNamed B.named
  have hlocks := B.notSynchronized
  subst hsz
  have hD := hD0.self (sz := s.heap.size)
  generalize hAe : va_A [(a, .inr (10, [.ref a_text, .ref a_from, .ref a_next, .ref a_first, .int a_size, .int a_texted])), (a_text, .inl (cs 1, a_text_n, .inl a_text_f)), (a_from, .inl (cs 0, a_from_n, .inl a_from_f))] s.heap.size = A at hD hkn ⊢
  have hA : ∀ q : Nat, s.heap.size ≤ q → A q := fun q h => by rw [← hAe]; exact Or.inr h
  have hS : va_S A s.heap s.heap [] := va_S.rf
  have hP : va_P g classes [(a, .inr (10, [.ref a_text, .ref a_from, .ref a_next, .ref a_first, .int a_size, .int a_texted])), (a_text, .inl (cs 1, a_text_n, .inl a_text_f)), (a_from, .inl (cs 0, a_from_n, .inl a_from_f))] s.heap := hP
  have hl := lv_entry ([.ref a, .int kk, .ref (ka (200 + sx))]) (n := 4) (Nat.le_of_ble_eq_true rfl)
  rw [lg_entry_eq]
  generalize (lg_sl ([.ref a, .int kk, .ref (ka (200 + sx))]) ++ List.replicate (4 - (lg_sl ([.ref a, .int kk, .ref (ka (200 + sx))])).length) Slot.unset).toArray = ls at hl ⊢
  have hl : lv_has ls 4 [(0, .ref a), (1, .int kk), (2, .ref (ka (200 + sx)))] := hl
  refine gq (fun Q hQ => ?_)
  obtain ⟨H, hH⟩ : ∃ H : Heap, H = s.heap := ⟨_, rfl⟩
  rw [← hH] at hP
  have hS : va_S A s.heap H [] := by rw [hH]; exact hS
  refine W.eqH hH ?_
  obtain ⟨locs, hlc⟩ : ∃ L : List Loc, L = [] := ⟨_, rfl⟩
  rw [← hlc] at hS ⊢
  unfold p_MoNames_spells at hok
  obtain ⟨hb_sx, hok⟩ := ck_some hok
  have hb_sx := of_decide_eq_true hb_sx
  refine lv_aload_n hx hb d_MoNames_spells_0 rfl (lv_at hl 0 rfl) ?_
  refine lv_iload_n hx hb d_MoNames_spells_1 rfl (lv_at hl 1 rfl) ?_
  obtain ⟨r1, hc1, hok⟩ := bd_some hok
  obtain ⟨hPc, hDc, hFc⟩ := cut0 (wc := [(a, .inr (10, [.ref a_text, .ref a_from, .ref a_next, .ref a_first, .int a_size, .int a_texted])), (a_from, .inl (cs 0, a_from_n, .inl a_from_f))]) hP hD hS hA [0, 2] (by decide) rfl
  refine va_calli (va_runV (As := [.int kk]) (rest := []) ⟨hx, hb, hml, hown, hg⟩ (c_MoNames_length l g cs ka a_text a_next a_first a a_from H.size kk a_size a_texted a_from_n a_from_f r1 hc1) (cwV (C := R_MoNames) 1 hg (gw_V wd_722 wd_723 wd_724 wd_717 wd_721) rfl rfl rfl (by decide +kernel) ⟨Nat.le_of_ble_eq_true rfl, Nat.le_of_ble_eq_true rfl⟩) ⟨gP_blind, va_recv (q0 := 0) (ci := 10) (q := (R_MoNames, F_MoNames, 6)) hK hP rfl rfl, gP_pre hPc hDc hK hgl hkn hkr hS hFc⟩ rfl rfl hl.1 rfl (lv_room (Nat.le_of_ble_eq_true rfl)) d_MoNames_spells_2 ⟨Nat.le_of_ble_eq_true rfl, Nat.le_of_ble_eq_true rfl⟩) hS (fun q _ h => hFc q h) hFc (fun r1' u t H locs ht hvm hr1 hB hz1 hk1 hS => ?_)
  subst hr1
  rw [ht] at hB
  obtain ⟨hP1, hD1⟩ := hB
  obtain ⟨hP, hD⟩ := jn_A hP hD [0, 2] [1] rfl rfl (by decide) (by decide) hk1 hFc hP1 hD1
  obtain ⟨hP, hD⟩ : PD g A H [(a_text, .inl (cs 1, a_text_n, .inl a_text_f)), (a, .inr (10, [.ref a_text, .ref a_from, .ref a_next, .ref a_first, .int a_size, .int a_texted])), (a_from, .inl (cs 0, a_from_n, .inl a_from_f))] := ⟨hP, hD⟩
  refine lv_aload_n hx hb d_MoNames_spells_5 rfl (lv_at hl 2 rfl) ?_
  obtain ⟨r2, hc2, hok⟩ := bd_some hok
  obtain ⟨hPc, hDc, hFc⟩ := cut0 (wc := []) hP hD hS hA [] (by decide) rfl
  refine va_calli (va_runV (As := []) (rest := [.int r1]) ⟨hx, hb, hml, hown, hg⟩ (c_String_length l g cs ka H.size sx r2 hc2) (cwV (C := "java/lang/String") 0 hg (gw_V wd_725 wd_196 wd_197 wd_164 wd_194) rfl rfl rfl (by decide +kernel) ⟨Nat.le_of_ble_eq_true rfl, Nat.le_of_ble_eq_true rfl⟩) ⟨gP_blind, kn_recv hkn hb_sx hS, gP_pre hPc hDc hK hgl hkn hkr hS hFc⟩ rfl rfl hl.1 rfl (lv_room (Nat.le_of_ble_eq_true rfl)) d_MoNames_spells_6 ⟨Nat.le_of_ble_eq_true rfl, Nat.le_of_ble_eq_true rfl⟩) hS (fun q _ h => hFc q h) hFc (fun r2' u t H locs ht hvm hr2 hB hz1 hk1 hS => ?_)
  subst hr2
  rw [ht] at hB
  obtain ⟨hP1, hD1⟩ := hB
  obtain ⟨hP, hD⟩ := jn_A hP hD [] [0, 1, 2] rfl rfl (by decide) (by decide) hk1 hFc hP1 hD1
  obtain ⟨hP, hD⟩ : PD g A H [(a_text, .inl (cs 1, a_text_n, .inl a_text_f)), (a, .inr (10, [.ref a_text, .ref a_from, .ref a_next, .ref a_first, .int a_size, .int a_texted])), (a_from, .inl (cs 0, a_from_n, .inl a_from_f))] := ⟨hP, hD⟩
  refine lv_icmp_eq hx hb d_MoNames_spells_9 rfl (fun h3 => ?_) (fun h3 => ?_)
  · rw [if_pos h3] at hok
    refine lv_iconst (v := 0) hx hb d_MoNames_spells_14 (by decide) ?_
    refine lv_istore_n hx hb d_MoNames_spells_15 rfl hl (by decide) rfl (fun ls hl => ?_)
    have hl : lv_has ls 4 [(3, .int 0), (0, .ref a), (1, .int kk), (2, .ref (ka (200 + sx)))] := hl
    have J4 : ∀ (kf4 : Nat) (H : Heap) (locs : List Loc) (ls : Array Slot) (x3_4 : Int32), lv_has ls 4 [(3, .int x3_4), (0, .ref a), (1, .int kk), (2, .ref (ka (200 + sx)))] → PD g A H [(a_text, .inl (cs 1, a_text_n, .inl a_text_f)), (a, .inr (10, [.ref a_text, .ref a_from, .ref a_next, .ref a_first, .int a_size, .int a_texted])), (a_from, .inl (cs 0, a_from_n, .inl a_from_f))] → va_S A s.heap H locs → p_MoNames_spells_16 n kk sx a_size a_texted a_text_n a_text_f a_from_n a_from_f kf4 x3_4 = some r → W p l e (headSpec (.code y_MoNames_spells b_MoNames_spells 4 (some .boolean) :: GW) { frames := 4, cells := 0, slots := 0, locals := 85 }).room s m ([.ref a, .int kk, .ref (ka (200 + sx))] : List Value).toArray below meth c H locs 0 0 Q (F0 m 16 ls []) := by
      intro kf4
      induction kf4 with
      | zero => intro H locs ls x3_4 hl ⟨hP, hD⟩ hS hok; rw [p_MoNames_spells_16] at hok; cases hok
      | succ kf4 ih4 =>
        intro H locs ls x3_4 hl ⟨hP, hD⟩ hS hok
        rw [p_MoNames_spells_16] at hok
        refine lv_iload_n hx hb d_MoNames_spells_16 rfl (lv_at hl 0 rfl) ?_
        refine lv_aload_n hx hb d_MoNames_spells_17 rfl (lv_at hl 3 rfl) ?_
        obtain ⟨r5, hc5, hok⟩ := bd_some hok
        obtain ⟨hPc, hDc, hFc⟩ := cut0 (wc := []) hP hD hS hA [] (by decide) rfl
        refine va_calli (va_runV (As := []) (rest := [.int x3_4]) ⟨hx, hb, hml, hown, hg⟩ (c_String_length l g cs ka H.size sx r5 hc5) (cwV (C := "java/lang/String") 0 hg (gw_V wd_725 wd_196 wd_197 wd_164 wd_194) rfl rfl rfl (by decide +kernel) ⟨Nat.le_of_ble_eq_true rfl, Nat.le_of_ble_eq_true rfl⟩) ⟨gP_blind, kn_recv hkn hb_sx hS, gP_pre hPc hDc hK hgl hkn hkr hS hFc⟩ rfl rfl hl.1 rfl (lv_room (Nat.le_of_ble_eq_true rfl)) d_MoNames_spells_18 ⟨Nat.le_of_ble_eq_true rfl, Nat.le_of_ble_eq_true rfl⟩) hS (fun q _ h => hFc q h) hFc (fun r5' u t H locs ht hvm hr5 hB hz1 hk1 hS => ?_)
        subst hr5
        rw [ht] at hB
        obtain ⟨hP1, hD1⟩ := hB
        obtain ⟨hP, hD⟩ := jn_A hP hD [] [0, 1, 2] rfl rfl (by decide) (by decide) hk1 hFc hP1 hD1
        obtain ⟨hP, hD⟩ : PD g A H [(a_text, .inl (cs 1, a_text_n, .inl a_text_f)), (a, .inr (10, [.ref a_text, .ref a_from, .ref a_next, .ref a_first, .int a_size, .int a_texted])), (a_from, .inl (cs 0, a_from_n, .inl a_from_f))] := ⟨hP, hD⟩
        refine lv_icmp_ge hx hb d_MoNames_spells_21 rfl (fun h6 => ?_) (fun h6 => ?_)
        · rw [if_pos h6] at hok
          refine lv_iconst (v := 1) hx hb d_MoNames_spells_46 (by decide) ?_
          have hq := Option.some.inj hok
          have hq0 := hq
          subst hq0
          obtain ⟨hP9, hD9⟩ := sub2 (ws' := [(a, .inr (10, [.ref a_text, .ref a_from, .ref a_next, .ref a_first, .int a_size, .int a_texted])), (a_text, .inl (cs 1, a_text_n, .inl a_text_f)), (a_from, .inl (cs 0, a_from_n, .inl a_from_f))]) hP hD [1, 0, 2] rfl (by decide) rfl
          rw [hQ]
          exact W.zret (v := 1) hx hb hr rfl (fun t ht hW => ⟨⟨_, (), rfl, rfl, by rw [ht]; exact hP9, hD9⟩, hS.F ht⟩) hS.2.2 d_MoNames_spells_47
        · rw [if_neg h6] at hok
          refine lv_aload_n hx hb d_MoNames_spells_24 rfl (lv_at hl 1 rfl) ?_
          refine lv_iload_n hx hb d_MoNames_spells_25 rfl (lv_at hl 2 rfl) ?_
          refine lv_iload_n hx hb d_MoNames_spells_26 rfl (lv_at hl 0 rfl) ?_
          obtain ⟨r7, hc7, hok⟩ := bd_some hok
          obtain ⟨hPc, hDc, hFc⟩ := cut0 (wc := [(a, .inr (10, [.ref a_text, .ref a_from, .ref a_next, .ref a_first, .int a_size, .int a_texted])), (a_text, .inl (cs 1, a_text_n, .inl a_text_f)), (a_from, .inl (cs 0, a_from_n, .inl a_from_f))]) hP hD hS hA [1, 0, 2] (by decide) rfl
          refine va_calli (va_runV (As := [.int kk, .int x3_4]) (rest := []) ⟨hx, hb, hml, hown, hg⟩ (c_MoNames_at l g cs ka a_next a_first a a_text a_from H.size kk x3_4 a_size a_texted a_text_n a_text_f a_from_n a_from_f r7 hc7) (cwV (C := R_MoNames) 2 hg (gw_V wd_727 wd_728 wd_729 wd_717 wd_726) rfl rfl rfl (by decide +kernel) ⟨Nat.le_of_ble_eq_true rfl, Nat.le_of_ble_eq_true rfl⟩) ⟨gP_blind, va_recv (q0 := 1) (ci := 10) (q := (R_MoNames, F_MoNames, 6)) hK hP rfl rfl, gP_pre hPc hDc hK hgl hkn hkr hS hFc⟩ rfl rfl hl.1 rfl (lv_room (Nat.le_of_ble_eq_true rfl)) d_MoNames_spells_27 ⟨Nat.le_of_ble_eq_true rfl, Nat.le_of_ble_eq_true rfl⟩) hS (fun q _ h => hFc q h) hFc (fun r7' u t H locs ht hvm hr7 hB hz1 hk1 hS => ?_)
          subst hr7
          rw [ht] at hB
          obtain ⟨hP1, hD1⟩ := hB
          obtain ⟨hP, hD⟩ := jn_A hP hD [1, 0, 2] [] rfl rfl (by decide) (by decide) hk1 hFc hP1 hD1
          obtain ⟨hP, hD⟩ : PD g A H [(a, .inr (10, [.ref a_text, .ref a_from, .ref a_next, .ref a_first, .int a_size, .int a_texted])), (a_text, .inl (cs 1, a_text_n, .inl a_text_f)), (a_from, .inl (cs 0, a_from_n, .inl a_from_f))] := ⟨hP, hD⟩
          refine lv_aload_n hx hb d_MoNames_spells_30 rfl (lv_at hl 3 rfl) ?_
          refine lv_iload_n hx hb d_MoNames_spells_31 rfl (lv_at hl 0 rfl) ?_
          obtain ⟨r8, hc8, hok⟩ := bd_some hok
          obtain ⟨hPc, hDc, hFc⟩ := cut0 (wc := []) hP hD hS hA [] (by decide) rfl
          refine va_calli (va_runV (As := [.int x3_4]) (rest := [.int r7]) ⟨hx, hb, hml, hown, hg⟩ (c_String_charAt l g cs ka H.size sx x3_4 r8 hc8) (cwV (C := "java/lang/String") 1 hg (gw_V wd_730 wd_427 wd_428 wd_164 wd_425) rfl rfl rfl (by decide +kernel) ⟨Nat.le_of_ble_eq_true rfl, Nat.le_of_ble_eq_true rfl⟩) ⟨gP_blind, kn_recv hkn hb_sx hS, gP_pre hPc hDc hK hgl hkn hkr hS hFc⟩ rfl rfl hl.1 rfl (lv_room (Nat.le_of_ble_eq_true rfl)) d_MoNames_spells_32 ⟨Nat.le_of_ble_eq_true rfl, Nat.le_of_ble_eq_true rfl⟩) hS (fun q _ h => hFc q h) hFc (fun r8' u t H locs ht hvm hr8 hB hz1 hk1 hS => ?_)
          subst hr8
          rw [ht] at hB
          obtain ⟨hP1, hD1⟩ := hB
          obtain ⟨hP, hD⟩ := jn_A hP hD [] [0, 1, 2] rfl rfl (by decide) (by decide) hk1 hFc hP1 hD1
          obtain ⟨hP, hD⟩ : PD g A H [(a, .inr (10, [.ref a_text, .ref a_from, .ref a_next, .ref a_first, .int a_size, .int a_texted])), (a_text, .inl (cs 1, a_text_n, .inl a_text_f)), (a_from, .inl (cs 0, a_from_n, .inl a_from_f))] := ⟨hP, hD⟩
          refine lv_icmp_eq hx hb d_MoNames_spells_35 rfl (fun h9 => ?_) (fun h9 => ?_)
          · rw [if_pos h9] at hok
            refine lv_iinc (k := 0) (v := x3_4 + 1) hx hb d_MoNames_spells_40 hl rfl rfl (by decide) rfl (fun ls hl => ?_)
            have hl : lv_has ls 4 [(3, .int (x3_4 + 1)), (0, .ref a), (1, .int kk), (2, .ref (ka (200 + sx)))] := hl
            refine lv_goto hx hb d_MoNames_spells_43 rfl ?_
            exact ih4 _ _ _ (x3_4 + 1) (lv_sub hl [0, 1, 2, 3] rfl) (sub3 hP hD [1, 0, 2] (by decide)) hS hok
          · rw [if_neg h9] at hok
            refine lv_iconst (v := 0) hx hb d_MoNames_spells_38 (by decide) ?_
            have hq := Option.some.inj hok
            have hq0 := hq
            subst hq0
            obtain ⟨hP9, hD9⟩ := sub2 (ws' := [(a, .inr (10, [.ref a_text, .ref a_from, .ref a_next, .ref a_first, .int a_size, .int a_texted])), (a_text, .inl (cs 1, a_text_n, .inl a_text_f)), (a_from, .inl (cs 0, a_from_n, .inl a_from_f))]) hP hD [0, 1, 2] rfl (by decide) rfl
            rw [hQ]
            exact W.zret (v := 0) hx hb hr rfl (fun t ht hW => ⟨⟨_, (), rfl, rfl, by rw [ht]; exact hP9, hD9⟩, hS.F ht⟩) hS.2.2 d_MoNames_spells_39
    exact J4 n H locs ls (0 : Int32) hl ⟨hP, hD⟩ hS hok
  · rw [if_neg h3] at hok
    refine lv_iconst (v := 0) hx hb d_MoNames_spells_12 (by decide) ?_
    have hq := Option.some.inj hok
    have hq0 := hq
    subst hq0
    obtain ⟨hP9, hD9⟩ := sub2 (ws' := [(a, .inr (10, [.ref a_text, .ref a_from, .ref a_next, .ref a_first, .int a_size, .int a_texted])), (a_text, .inl (cs 1, a_text_n, .inl a_text_f)), (a_from, .inl (cs 0, a_from_n, .inl a_from_f))]) hP hD [1, 0, 2] rfl (by decide) rfl
    rw [hQ]
    exact W.zret (v := 0) hx hb hr rfl (fun t ht hW => ⟨⟨_, (), rfl, rfl, by rw [ht]; exact hP9, hD9⟩, hS.F ht⟩) hS.2.2 d_MoNames_spells_13
