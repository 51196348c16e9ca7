theorem wd_696 : ((.methodLink "UnifyBenchModel$Terms" 3 y_Object_init) : Cond) ∈ GW := gw_6 86 (by decide +kernel) rfl
theorem wd_697 : ((.constant "UnifyBenchModel$Terms" 9 404300) : Cond) ∈ GW := gw_6 87 (by decide +kernel) rfl
theorem wd_698 : ((.fieldLink "UnifyBenchModel$Terms" 10 "UnifyBenchModel$Terms" "kind" "[I") : Cond) ∈ GW := gw_6 88 (by decide +kernel) rfl
theorem wd_699 : ((.fieldLink "UnifyBenchModel$Terms" 16 "UnifyBenchModel$Terms" "name" "[I") : Cond) ∈ GW := gw_6 91 (by decide +kernel) rfl
theorem wd_700 : ((.fieldLink "UnifyBenchModel$Terms" 19 "UnifyBenchModel$Terms" "first" "[I") : Cond) ∈ GW := gw_6 94 (by decide +kernel) rfl
theorem wd_701 : ((.fieldLink "UnifyBenchModel$Terms" 22 "UnifyBenchModel$Terms" "many" "[I") : Cond) ∈ GW := gw_6 95 (by decide +kernel) rfl
theorem wd_702 : ((.fieldLink "UnifyBenchModel$Terms" 25 "UnifyBenchModel$Terms" "part" "[I") : Cond) ∈ GW := gw_6 98 (by decide +kernel) rfl
theorem wd_703 : ((.fieldLink "UnifyBenchModel$Terms" 28 "UnifyBenchModel$Terms" "number" "[J") : Cond) ∈ GW := gw_6 99 (by decide +kernel) rfl
theorem wd_704 : ((.fieldLink "UnifyBenchModel$Terms" 32 "UnifyBenchModel$Terms" "size" "I") : Cond) ∈ GW := gw_6 102 (by decide +kernel) rfl
theorem wd_705 : ((.fieldLink "UnifyBenchModel$Terms" 36 "UnifyBenchModel$Terms" "parts" "I") : Cond) ∈ GW := gw_6 105 (by decide +kernel) rfl
theorem d_MoTerms_init_0 : decode b_MoTerms_init 0 = .ok (.aload_n 0, 1) := by decide +kernel
theorem d_MoTerms_init_1 : decode b_MoTerms_init 1 = .ok (.invokespecial 3, 3) := by decide +kernel
theorem d_MoTerms_init_4 : decode b_MoTerms_init 4 = .ok (.aload_n 0, 1) := by decide +kernel
theorem d_MoTerms_init_5 : decode b_MoTerms_init 5 = .ok (.ldc 9, 2) := by decide +kernel
theorem d_MoTerms_init_7 : decode b_MoTerms_init 7 = .ok (.newarray .int, 2) := by decide +kernel
theorem d_MoTerms_init_9 : decode b_MoTerms_init 9 = .ok (.putfield 10, 3) := by decide +kernel
theorem d_MoTerms_init_12 : decode b_MoTerms_init 12 = .ok (.aload_n 0, 1) := by decide +kernel
theorem d_MoTerms_init_13 : decode b_MoTerms_init 13 = .ok (.ldc 9, 2) := by decide +kernel
theorem d_MoTerms_init_15 : decode b_MoTerms_init 15 = .ok (.newarray .int, 2) := by decide +kernel
theorem d_MoTerms_init_17 : decode b_MoTerms_init 17 = .ok (.putfield 16, 3) := by decide +kernel
theorem d_MoTerms_init_20 : decode b_MoTerms_init 20 = .ok (.aload_n 0, 1) := by decide +kernel
theorem d_MoTerms_init_21 : decode b_MoTerms_init 21 = .ok (.ldc 9, 2) := by decide +kernel
theorem d_MoTerms_init_23 : decode b_MoTerms_init 23 = .ok (.newarray .int, 2) := by decide +kernel
theorem d_MoTerms_init_25 : decode b_MoTerms_init 25 = .ok (.putfield 19, 3) := by decide +kernel
theorem d_MoTerms_init_28 : decode b_MoTerms_init 28 = .ok (.aload_n 0, 1) := by decide +kernel
theorem d_MoTerms_init_29 : decode b_MoTerms_init 29 = .ok (.ldc 9, 2) := by decide +kernel
theorem d_MoTerms_init_31 : decode b_MoTerms_init 31 = .ok (.newarray .int, 2) := by decide +kernel
theorem d_MoTerms_init_33 : decode b_MoTerms_init 33 = .ok (.putfield 22, 3) := by decide +kernel
theorem d_MoTerms_init_36 : decode b_MoTerms_init 36 = .ok (.aload_n 0, 1) := by decide +kernel
theorem d_MoTerms_init_37 : decode b_MoTerms_init 37 = .ok (.ldc 9, 2) := by decide +kernel
theorem d_MoTerms_init_39 : decode b_MoTerms_init 39 = .ok (.newarray .int, 2) := by decide +kernel
theorem d_MoTerms_init_41 : decode b_MoTerms_init 41 = .ok (.putfield 25, 3) := by decide +kernel
theorem d_MoTerms_init_44 : decode b_MoTerms_init 44 = .ok (.aload_n 0, 1) := by decide +kernel
theorem d_MoTerms_init_45 : decode b_MoTerms_init 45 = .ok (.ldc 9, 2) := by decide +kernel
theorem d_MoTerms_init_47 : decode b_MoTerms_init 47 = .ok (.newarray .long, 2) := by decide +kernel
theorem d_MoTerms_init_49 : decode b_MoTerms_init 49 = .ok (.putfield 28, 3) := by decide +kernel
theorem d_MoTerms_init_52 : decode b_MoTerms_init 52 = .ok (.return_, 1) := by decide +kernel
def p_MoTerms_init : Option ((Int32 × Int32 × Nat × (Nat → Int32) × Nat × (Nat → Int32) × Nat × (Nat → Int32) × Nat × (Nat → Int32) × Nat × (Nat → Int32) × Nat × (Nat → Int64)) × Nat × Nat) := al 1 404300 (al 1 404300 (al 1 404300 (al 1 404300 (al 1 404300 (al 1 404300 (some (((0 : Int32), (0 : Int32), 404300, (fun _ => 0 : Nat → Int32), 404300, (fun _ => 0 : Nat → Int32), 404300, (fun _ => 0 : Nat → Int32), 404300, (fun _ => 0 : Nat → Int32), 404300, (fun _ => 0 : Nat → Int32), 404300, (fun _ => 0 : Nat → Int64)), 0, 0)))))))
set_option maxHeartbeats 4000000 in
set_option maxRecDepth 100000 in
theorem c_MoTerms_init (l : Launch) (g : va_G) (cs : Nat → ClassId) (ka : Nat → Nat) (a : Nat) (sz : Nat) (o_a_size : Int32) (o_a_parts : Int32) (o_a_kind_n : Nat) (o_a_kind_f : Nat → Int32) (o_a_name_n : Nat) (o_a_name_f : Nat → Int32) (o_a_first_n : Nat) (o_a_first_f : Nat → Int32) (o_a_many_n : Nat) (o_a_many_f : Nat → Int32) (o_a_part_n : Nat) (o_a_part_f : Nat → Int32) (o_a_number_n : Nat) (o_a_number_f : Nat → Int64) (mc ms : Nat) (hok : p_MoTerms_init = some ((o_a_size, o_a_parts, o_a_kind_n, o_a_kind_f, o_a_name_n, o_a_name_f, o_a_first_n, o_a_first_f, o_a_many_n, o_a_many_f, o_a_part_n, o_a_part_f, o_a_number_n, o_a_number_f), mc, ms)) : Met l y_MoTerms_init (.code y_MoTerms_init b_MoTerms_init 1 none :: GW) { frames := 1, cells := mc, slots := ms, locals := 12 } (va_Pc [.ref a] (gP g cs ka [(a, .inr (11, [.null, .null, .null, .null, .null, .null, .int 0, .int 0]))] sz)) (va_Qv (fun _ : Unit => True) (fun _ t => ∃ b_a_kind b_a_name b_a_first b_a_many b_a_part b_a_number : Nat, va_P g classes [(a, .inr (11, [.ref b_a_kind, .ref b_a_name, .ref b_a_first, .ref b_a_many, .ref b_a_part, .ref b_a_number, .int o_a_size, .int o_a_parts])), (b_a_kind, .inl (cs 0, o_a_kind_n, .inl o_a_kind_f)), (b_a_name, .inl (cs 0, o_a_name_n, .inl o_a_name_f)), (b_a_first, .inl (cs 0, o_a_first_n, .inl o_a_first_f)), (b_a_many, .inl (cs 0, o_a_many_n, .inl o_a_many_f)), (b_a_part, .inl (cs 0, o_a_part_n, .inl o_a_part_f)), (b_a_number, .inl (cs 2, o_a_number_n, .inr (.inl o_a_number_f)))] t.heap ∧ va_D (va_A [(a, .inr (11, [.null, .null, .null, .null, .null, .null, .int 0, .int 0]))] sz) [(a, .inr (11, [.ref b_a_kind, .ref b_a_name, .ref b_a_first, .ref b_a_many, .ref b_a_part, .ref b_a_number, .int o_a_size, .int o_a_parts])), (b_a_kind, .inl (cs 0, o_a_kind_n, .inl o_a_kind_f)), (b_a_name, .inl (cs 0, o_a_name_n, .inl o_a_name_f)), (b_a_first, .inl (cs 0, o_a_first_n, .inl o_a_first_f)), (b_a_many, .inl (cs 0, o_a_many_n, .inl o_a_many_f)), (b_a_part, .inl (cs 0, o_a_part_n, .inl o_a_part_f)), (b_a_number, .inl (cs 2, o_a_number_n, .inr (.inl o_a_number_f)))]) (va_A [(a, .inr (11, [.null, .null, .null, .null, .null, .null, .int 0, .int 0]))] sz)) mc ms (va_A [(a, .inr (11, [.null, .null, .null, .null, .null, .null, .int 0, .int 0]))] sz) := by
  refine Met.ofW (cc := b_MoTerms_init) (maxL := 1) (ret := none) (by decide) rfl ?_
  intro p e s m args below meth c s₁ B hml hv
  obtain ⟨rfl, hsz, hP, hK, hD0, hgl, hkn, hkr⟩ := hv
  have hx := B.exec
  have hb := B.bytes
  have hr := B.returns
  have hg : ∀ w ∈ GW, w.before ([.ref a] : List Value).toArray s = true := fun w hw => atoms_spec (ws := .code y_MoTerms_init b_MoTerms_init 1 none :: GW) B.pre w (List.mem_cons_of_mem _ hw)
  have hown : s.vm.findClass R_MoTerms = some m.cls := findClass_of_methodNamed B.named
  have hlocks := B.notSynchronized
  have hin : meth.name = "<init>" := (name_of_methodNamed B.named B.method).1
  subst hsz
  have hD := hD0.self (sz := s.heap.size)
  generalize hAe : va_A [(a, .inr (11, [.null, .null, .null, .null, .null, .null, .int 0, .int 0]))] s.heap.size = A at hD hkn ⊢
  have hA : ∀ q : Nat, s.heap.size ≤ q → A q := fun q h => by rw [← hAe]; exact Or.inr h
  have hS : va_S A s.heap s.heap [] := va_S.rf
  have hP : va_P g classes [(a, .inr (11, [.null, .null, .null, .null, .null, .null, .int 0, .int 0]))] s.heap := hP
  have hl := lv_entry ([.ref a]) (n := 1) (Nat.le_of_ble_eq_true rfl)
  rw [lg_entry_eq]
  generalize (lg_sl ([.ref a]) ++ List.replicate (1 - (lg_sl ([.ref a])).length) Slot.unset).toArray = ls at hl ⊢
  have hl : lv_has ls 1 [(0, .ref a)] := hl
  refine gq (fun Q hQ => ?_)
  obtain ⟨H, hH⟩ : ∃ H : Heap, H = s.heap := ⟨_, rfl⟩
  rw [← hH] at hP
  have hS : va_S A s.heap H [] := by rw [hH]; exact hS
  refine W.eqH hH ?_
  obtain ⟨locs, hlc⟩ : ∃ L : List Loc, L = [] := ⟨_, rfl⟩
  rw [← hlc] at hS ⊢
  unfold p_MoTerms_init at hok
  refine lv_aload_n hx hb d_MoTerms_init_0 rfl (lv_at hl 0 rfl) ?_
  refine W.objInit hx hb hown (hg _ wd_696) (hg _ wd_158) (hg _ wd_159) rfl (by rw [hml]; exact hl.1) rfl d_MoTerms_init_1 (Nat.le_of_ble_eq_true rfl) (Nat.le_of_ble_eq_true rfl) ?_
  refine W.eq (g2 := F0 m 4 ls []) rfl ?_
  refine lv_aload_n hx hb d_MoTerms_init_4 rfl (lv_at hl 0 rfl) ?_
  refine lv_ldc hx hb hown (hg _ wd_697) d_MoTerms_init_5 ?_
  obtain ⟨m1, s1, hok, hmc1, hms1⟩ := al_some hok
  refine g_newI hx hb (hg _ wd_142) hK hP hD hS hA (404300) (by decide) (by decide) (by decide) (show 0 + 1 ≤ mc from by omega) (show 0 + 404300 ≤ ms from by omega) d_MoTerms_init_7 (fun q1 H hP hD hS => ?_)
  obtain ⟨hP, hD⟩ : PD g A H [(a, .inr (11, [.null, .null, .null, .null, .null, .null, .int 0, .int 0])), (q1, .inl (cs 0, 404300, .inl (fun _ => 0)))] := ⟨hP, hD⟩
  refine va_putF (D := g) (ci := 11) (v := .ref q1) (ty := .array .int) (C := R_MoTerms) (T := F_MoTerms) (N := 8) hx hb hg ul_MoTerms t_MoTerms tk_MoTerms n_MoTerms hown hK hP hD hS 0 rfl rfl 0 (by decide) (hg _ wd_698) (fun _ h9 => h9) rfl hin rfl (by decide +kernel) rfl rfl (Nat.le_of_ble_eq_true rfl) d_MoTerms_init_9 (fun H locs hP hD hS => ?_)
  obtain ⟨hP, hD⟩ : PD g A H [(a, .inr (11, [.ref q1, .null, .null, .null, .null, .null, .int 0, .int 0])), (q1, .inl (cs 0, 404300, .inl (fun _ => 0)))] := ⟨hP, hD⟩
  refine lv_aload_n hx hb d_MoTerms_init_12 rfl (lv_at hl 0 rfl) ?_
  refine lv_ldc hx hb hown (hg _ wd_697) d_MoTerms_init_13 ?_
  obtain ⟨m2, s2, hok, hmc2, hms2⟩ := al_some hok
  refine g_newI hx hb (hg _ wd_142) hK hP hD hS hA (404300) (by decide) (by decide) (by decide) (show 0 + 1 + 1 ≤ mc from by omega) (show 0 + 404300 + 404300 ≤ ms from by omega) d_MoTerms_init_15 (fun q2 H hP hD hS => ?_)
  obtain ⟨hP, hD⟩ : PD g A H [(a, .inr (11, [.ref q1, .null, .null, .null, .null, .null, .int 0, .int 0])), (q1, .inl (cs 0, 404300, .inl (fun _ => 0))), (q2, .inl (cs 0, 404300, .inl (fun _ => 0)))] := ⟨hP, hD⟩
  refine va_putF (D := g) (ci := 11) (v := .ref q2) (ty := .array .int) (C := R_MoTerms) (T := F_MoTerms) (N := 8) hx hb hg ul_MoTerms t_MoTerms tk_MoTerms n_MoTerms hown hK hP hD hS 0 rfl rfl 1 (by decide) (hg _ wd_699) (fun _ h9 => h9) rfl hin rfl (by decide +kernel) rfl rfl (Nat.le_of_ble_eq_true rfl) d_MoTerms_init_17 (fun H locs hP hD hS => ?_)
  obtain ⟨hP, hD⟩ : PD g A H [(a, .inr (11, [.ref q1, .ref q2, .null, .null, .null, .null, .int 0, .int 0])), (q1, .inl (cs 0, 404300, .inl (fun _ => 0))), (q2, .inl (cs 0, 404300, .inl (fun _ => 0)))] := ⟨hP, hD⟩
  refine lv_aload_n hx hb d_MoTerms_init_20 rfl (lv_at hl 0 rfl) ?_
  refine lv_ldc hx hb hown (hg _ wd_697) d_MoTerms_init_21 ?_
  obtain ⟨m3, s3, hok, hmc3, hms3⟩ := al_some hok
  refine g_newI hx hb (hg _ wd_142) hK hP hD hS hA (404300) (by decide) (by decide) (by decide) (show 0 + 1 + 1 + 1 ≤ mc from by omega) (show 0 + 404300 + 404300 + 404300 ≤ ms from by omega) d_MoTerms_init_23 (fun q3 H hP hD hS => ?_)
  obtain ⟨hP, hD⟩ : PD g A H [(a, .inr (11, [.ref q1, .ref q2, .null, .null, .null, .null, .int 0, .int 0])), (q1, .inl (cs 0, 404300, .inl (fun _ => 0))), (q2, .inl (cs 0, 404300, .inl (fun _ => 0))), (q3, .inl (cs 0, 404300, .inl (fun _ => 0)))] := ⟨hP, hD⟩
  refine va_putF (D := g) (ci := 11) (v := .ref q3) (ty := .array .int) (C := R_MoTerms) (T := F_MoTerms) (N := 8) hx hb hg ul_MoTerms t_MoTerms tk_MoTerms n_MoTerms hown hK hP hD hS 0 rfl rfl 2 (by decide) (hg _ wd_700) (fun _ h9 => h9) rfl hin rfl (by decide +kernel) rfl rfl (Nat.le_of_ble_eq_true rfl) d_MoTerms_init_25 (fun H locs hP hD hS => ?_)
  obtain ⟨hP, hD⟩ : PD g A H [(a, .inr (11, [.ref q1, .ref q2, .ref q3, .null, .null, .null, .int 0, .int 0])), (q1, .inl (cs 0, 404300, .inl (fun _ => 0))), (q2, .inl (cs 0, 404300, .inl (fun _ => 0))), (q3, .inl (cs 0, 404300, .inl (fun _ => 0)))] := ⟨hP, hD⟩
  refine lv_aload_n hx hb d_MoTerms_init_28 rfl (lv_at hl 0 rfl) ?_
  refine lv_ldc hx hb hown (hg _ wd_697) d_MoTerms_init_29 ?_
  obtain ⟨m4, s4, hok, hmc4, hms4⟩ := al_some hok
  refine g_newI hx hb (hg _ wd_142) hK hP hD hS hA (404300) (by decide) (by decide) (by decide) (show 0 + 1 + 1 + 1 + 1 ≤ mc from by omega) (show 0 + 404300 + 404300 + 404300 + 404300 ≤ ms from by omega) d_MoTerms_init_31 (fun q4 H hP hD hS => ?_)
  obtain ⟨hP, hD⟩ : PD g A H [(a, .inr (11, [.ref q1, .ref q2, .ref q3, .null, .null, .null, .int 0, .int 0])), (q1, .inl (cs 0, 404300, .inl (fun _ => 0))), (q2, .inl (cs 0, 404300, .inl (fun _ => 0))), (q3, .inl (cs 0, 404300, .inl (fun _ => 0))), (q4, .inl (cs 0, 404300, .inl (fun _ => 0)))] := ⟨hP, hD⟩
  refine va_putF (D := g) (ci := 11) (v := .ref q4) (ty := .array .int) (C := R_MoTerms) (T := F_MoTerms) (N := 8) hx hb hg ul_MoTerms t_MoTerms tk_MoTerms n_MoTerms hown hK hP hD hS 0 rfl rfl 3 (by decide) (hg _ wd_701) (fun _ h9 => h9) rfl hin rfl (by decide +kernel) rfl rfl (Nat.le_of_ble_eq_true rfl) d_MoTerms_init_33 (fun H locs hP hD hS => ?_)
  obtain ⟨hP, hD⟩ : PD g A H [(a, .inr (11, [.ref q1, .ref q2, .ref q3, .ref q4, .null, .null, .int 0, .int 0])), (q1, .inl (cs 0, 404300, .inl (fun _ => 0))), (q2, .inl (cs 0, 404300, .inl (fun _ => 0))), (q3, .inl (cs 0, 404300, .inl (fun _ => 0))), (q4, .inl (cs 0, 404300, .inl (fun _ => 0)))] := ⟨hP, hD⟩
  refine lv_aload_n hx hb d_MoTerms_init_36 rfl (lv_at hl 0 rfl) ?_
  refine lv_ldc hx hb hown (hg _ wd_697) d_MoTerms_init_37 ?_
  obtain ⟨m5, s5, hok, hmc5, hms5⟩ := al_some hok
  refine g_newI hx hb (hg _ wd_142) hK hP hD hS hA (404300) (by decide) (by decide) (by decide) (show 0 + 1 + 1 + 1 + 1 + 1 ≤ mc from by omega) (show 0 + 404300 + 404300 + 404300 + 404300 + 404300 ≤ ms from by omega) d_MoTerms_init_39 (fun q5 H hP hD hS => ?_)
  obtain ⟨hP, hD⟩ : PD g A H [(a, .inr (11, [.ref q1, .ref q2, .ref q3, .ref q4, .null, .null, .int 0, .int 0])), (q1, .inl (cs 0, 404300, .inl (fun _ => 0))), (q2, .inl (cs 0, 404300, .inl (fun _ => 0))), (q3, .inl (cs 0, 404300, .inl (fun _ => 0))), (q4, .inl (cs 0, 404300, .inl (fun _ => 0))), (q5, .inl (cs 0, 404300, .inl (fun _ => 0)))] := ⟨hP, hD⟩
  refine va_putF (D := g) (ci := 11) (v := .ref q5) (ty := .array .int) (C := R_MoTerms) (T := F_MoTerms) (N := 8) hx hb hg ul_MoTerms t_MoTerms tk_MoTerms n_MoTerms hown hK hP hD hS 0 rfl rfl 4 (by decide) (hg _ wd_702) (fun _ h9 => h9) rfl hin rfl (by decide +kernel) rfl rfl (Nat.le_of_ble_eq_true rfl) d_MoTerms_init_41 (fun H locs hP hD hS => ?_)
  obtain ⟨hP, hD⟩ : PD g A H [(a, .inr (11, [.ref q1, .ref q2, .ref q3, .ref q4, .ref q5, .null, .int 0, .int 0])), (q1, .inl (cs 0, 404300, .inl (fun _ => 0))), (q2, .inl (cs 0, 404300, .inl (fun _ => 0))), (q3, .inl (cs 0, 404300, .inl (fun _ => 0))), (q4, .inl (cs 0, 404300, .inl (fun _ => 0))), (q5, .inl (cs 0, 404300, .inl (fun _ => 0)))] := ⟨hP, hD⟩
  refine lv_aload_n hx hb d_MoTerms_init_44 rfl (lv_at hl 0 rfl) ?_
  refine lv_ldc hx hb hown (hg _ wd_697) d_MoTerms_init_45 ?_
  obtain ⟨m6, s6, hok, hmc6, hms6⟩ := al_some hok
  refine g_newJ hx hb (hg _ wd_226) hK hP hD hS hA (404300) (by decide) (by decide) (by decide) (show 0 + 1 + 1 + 1 + 1 + 1 + 1 ≤ mc from by omega) (show 0 + 404300 + 404300 + 404300 + 404300 + 404300 + 404300 ≤ ms from by omega) d_MoTerms_init_47 (fun q6 H hP hD hS => ?_)
  obtain ⟨hP, hD⟩ : PD g A H [(a, .inr (11, [.ref q1, .ref q2, .ref q3, .ref q4, .ref q5, .null, .int 0, .int 0])), (q1, .inl (cs 0, 404300, .inl (fun _ => 0))), (q2, .inl (cs 0, 404300, .inl (fun _ => 0))), (q3, .inl (cs 0, 404300, .inl (fun _ => 0))), (q4, .inl (cs 0, 404300, .inl (fun _ => 0))), (q5, .inl (cs 0, 404300, .inl (fun _ => 0))), (q6, .inl (cs 2, 404300, .inr (.inl (fun _ => 0))))] := ⟨hP, hD⟩
  refine va_putF (D := g) (ci := 11) (v := .ref q6) (ty := .array .long) (C := R_MoTerms) (T := F_MoTerms) (N := 8) hx hb hg ul_MoTerms t_MoTerms tk_MoTerms n_MoTerms hown hK hP hD hS 0 rfl rfl 5 (by decide) (hg _ wd_703) (fun _ h9 => h9) rfl hin rfl (by decide +kernel) rfl rfl (Nat.le_of_ble_eq_true rfl) d_MoTerms_init_49 (fun H locs hP hD hS => ?_)
  obtain ⟨hP, hD⟩ : PD g A H [(a, .inr (11, [.ref q1, .ref q2, .ref q3, .ref q4, .ref q5, .ref q6, .int 0, .int 0])), (q1, .inl (cs 0, 404300, .inl (fun _ => 0))), (q2, .inl (cs 0, 404300, .inl (fun _ => 0))), (q3, .inl (cs 0, 404300, .inl (fun _ => 0))), (q4, .inl (cs 0, 404300, .inl (fun _ => 0))), (q5, .inl (cs 0, 404300, .inl (fun _ => 0))), (q6, .inl (cs 2, 404300, .inr (.inl (fun _ => 0))))] := ⟨hP, hD⟩
  obtain ⟨hq, hw⟩ := Prod.mk.inj (Option.some.inj hok)
  obtain ⟨hmc0, hms0⟩ := Prod.mk.inj hw
  obtain ⟨hq0, hq⟩ := Prod.mk.inj hq
  obtain ⟨hq1, hq⟩ := Prod.mk.inj hq
  obtain ⟨hq2, hq⟩ := Prod.mk.inj hq
  obtain ⟨hq3, hq⟩ := Prod.mk.inj hq
  obtain ⟨hq4, hq⟩ := Prod.mk.inj hq
  obtain ⟨hq5, hq⟩ := Prod.mk.inj hq
  obtain ⟨hq6, hq⟩ := Prod.mk.inj hq
  obtain ⟨hq7, hq⟩ := Prod.mk.inj hq
  obtain ⟨hq8, hq⟩ := Prod.mk.inj hq
  obtain ⟨hq9, hq⟩ := Prod.mk.inj hq
  obtain ⟨hq10, hq⟩ := Prod.mk.inj hq
  obtain ⟨hq11, hq⟩ := Prod.mk.inj hq
  obtain ⟨hq12, hq⟩ := Prod.mk.inj hq
  have hq13 := hq
  subst hq0
  subst hq1
  subst hq2
  subst hq3
  subst hq4
  subst hq5
  subst hq6
  subst hq7
  subst hq8
  subst hq9
  subst hq10
  subst hq11
  subst hq12
  subst hq13
  obtain ⟨hP9, hD9⟩ := sub2 (ws' := [(a, .inr (11, [.ref q1, .ref q2, .ref q3, .ref q4, .ref q5, .ref q6, .int 0, .int 0])), (q1, .inl (cs 0, 404300, .inl (fun _ => 0))), (q2, .inl (cs 0, 404300, .inl (fun _ => 0))), (q3, .inl (cs 0, 404300, .inl (fun _ => 0))), (q4, .inl (cs 0, 404300, .inl (fun _ => 0))), (q5, .inl (cs 0, 404300, .inl (fun _ => 0))), (q6, .inl (cs 2, 404300, .inr (.inl (fun _ => 0))))]) hP hD [0, 1, 2, 3, 4, 5, 6] rfl (by decide) rfl
  refine W.widen (k := mc) (n := ms) (by omega) (by omega) ?_
  rw [hQ]
  exact W.vret hx hb hr (fun t ht hW => ⟨⟨(), rfl, trivial, q1, q2, q3, q4, q5, q6, by rw [ht]; exact hP9, hD9⟩, hS.F ht⟩) hS.2.2 d_MoTerms_init_52

theorem d_MoTerms_variable_0 : decode b_MoTerms_variable 0 = .ok (.aload_n 0, 1) := by decide +kernel
theorem d_MoTerms_variable_1 : decode b_MoTerms_variable 1 = .ok (.getfield 10, 3) := by decide +kernel
theorem d_MoTerms_variable_4 : decode b_MoTerms_variable 4 = .ok (.aload_n 0, 1) := by decide +kernel
theorem d_MoTerms_variable_5 : decode b_MoTerms_variable 5 = .ok (.getfield 32, 3) := by decide +kernel
theorem d_MoTerms_variable_8 : decode b_MoTerms_variable 8 = .ok (.iconst 0, 1) := by decide +kernel
theorem d_MoTerms_variable_9 : decode b_MoTerms_variable 9 = .ok (.iastore, 1) := by decide +kernel
theorem d_MoTerms_variable_10 : decode b_MoTerms_variable 10 = .ok (.aload_n 0, 1) := by decide +kernel
theorem d_MoTerms_variable_11 : decode b_MoTerms_variable 11 = .ok (.getfield 16, 3) := by decide +kernel
theorem d_MoTerms_variable_14 : decode b_MoTerms_variable 14 = .ok (.aload_n 0, 1) := by decide +kernel
theorem d_MoTerms_variable_15 : decode b_MoTerms_variable 15 = .ok (.getfield 32, 3) := by decide +kernel
theorem d_MoTerms_variable_18 : decode b_MoTerms_variable 18 = .ok (.iload_n 1, 1) := by decide +kernel
theorem d_MoTerms_variable_19 : decode b_MoTerms_variable 19 = .ok (.iastore, 1) := by decide +kernel
theorem d_MoTerms_variable_20 : decode b_MoTerms_variable 20 = .ok (.aload_n 0, 1) := by decide +kernel
theorem d_MoTerms_variable_21 : decode b_MoTerms_variable 21 = .ok (.getfield 22, 3) := by decide +kernel
theorem d_MoTerms_variable_24 : decode b_MoTerms_variable 24 = .ok (.aload_n 0, 1) := by decide +kernel
theorem d_MoTerms_variable_25 : decode b_MoTerms_variable 25 = .ok (.getfield 32, 3) := by decide +kernel
theorem d_MoTerms_variable_28 : decode b_MoTerms_variable 28 = .ok (.iconst 0, 1) := by decide +kernel
theorem d_MoTerms_variable_29 : decode b_MoTerms_variable 29 = .ok (.iastore, 1) := by decide +kernel
theorem d_MoTerms_variable_30 : decode b_MoTerms_variable 30 = .ok (.aload_n 0, 1) := by decide +kernel
theorem d_MoTerms_variable_31 : decode b_MoTerms_variable 31 = .ok (.dup, 1) := by decide +kernel
theorem d_MoTerms_variable_32 : decode b_MoTerms_variable 32 = .ok (.getfield 32, 3) := by decide +kernel
theorem d_MoTerms_variable_35 : decode b_MoTerms_variable 35 = .ok (.dup_x1, 1) := by decide +kernel
theorem d_MoTerms_variable_36 : decode b_MoTerms_variable 36 = .ok (.iconst 1, 1) := by decide +kernel
theorem d_MoTerms_variable_37 : decode b_MoTerms_variable 37 = .ok (.iadd, 1) := by decide +kernel
theorem d_MoTerms_variable_38 : decode b_MoTerms_variable 38 = .ok (.putfield 32, 3) := by decide +kernel
theorem d_MoTerms_variable_41 : decode b_MoTerms_variable 41 = .ok (.ireturn, 1) := by decide +kernel
def p_MoTerms_variable (v : Int32) (a_size : Int32) (a_parts : Int32) (a_kind_n : Nat) (a_kind_f : Nat → Int32) (a_name_n : Nat) (a_name_f : Nat → Int32) (a_many_n : Nat) (a_many_f : Nat → Int32) : Option (Int32 × Int32 × (Nat → Int32) × (Nat → Int32) × (Nat → Int32)) := ck (ixb a_size a_kind_n) (ck (ixb a_size a_name_n) (ck (ixb a_size a_many_n) (some (a_size, a_size + 1, upd a_kind_f a_size.toNatClampNeg 0, upd a_name_f a_size.toNatClampNeg v, upd a_many_f a_size.toNatClampNeg 0))))
set_option maxHeartbeats 4000000 in
set_option maxRecDepth 100000 in
theorem c_MoTerms_variable (l : Launch) (g : va_G) (cs : Nat → ClassId) (ka : Nat → Nat) (a_first : Nat) (a_part : Nat) (a_number : Nat) (a a_kind a_name a_many : Nat) (sz : Nat) (v : Int32) (a_size : Int32) (a_parts : Int32) (a_kind_n : Nat) (a_kind_f : Nat → Int32) (a_name_n : Nat) (a_name_f : Nat → Int32) (a_many_n : Nat) (a_many_f : Nat → Int32) (r : Int32) (o_a_size : Int32) (o_a_kind_f : Nat → Int32) (o_a_name_f : Nat → Int32) (o_a_many_f : Nat → Int32) (hok : p_MoTerms_variable v a_size a_parts a_kind_n a_kind_f a_name_n a_name_f a_many_n a_many_f = some (r, o_a_size, o_a_kind_f, o_a_name_f, o_a_many_f)) : Met l y_MoTerms_variable (.code y_MoTerms_variable b_MoTerms_variable 2 (some .int) :: GW) { frames := 0, cells := 0, slots := 0, locals := 0 } (va_Pc [.ref a, .int v] (gP g cs ka [(a, .inr (11, [.ref a_kind, .ref a_name, .ref a_first, .ref a_many, .ref a_part, .ref a_number, .int a_size, .int a_parts])), (a_kind, .inl (cs 0, a_kind_n, .inl a_kind_f)), (a_name, .inl (cs 0, a_name_n, .inl a_name_f)), (a_many, .inl (cs 0, a_many_n, .inl a_many_f))] sz)) (va_Qi (fun (r' : Int32) (_ : Unit) => r = r') (fun _ t => va_P g classes [(a, .inr (11, [.ref a_kind, .ref a_name, .ref a_first, .ref a_many, .ref a_part, .ref a_number, .int o_a_size, .int a_parts])), (a_kind, .inl (cs 0, a_kind_n, .inl o_a_kind_f)), (a_name, .inl (cs 0, a_name_n, .inl o_a_name_f)), (a_many, .inl (cs 0, a_many_n, .inl o_a_many_f))] t.heap ∧ va_D (va_A [(a, .inr (11, [.ref a_kind, .ref a_name, .ref a_first, .ref a_many, .ref a_part, .ref a_number, .int a_size, .int a_parts])), (a_kind, .inl (cs 0, a_kind_n, .inl a_kind_f)), (a_name, .inl (cs 0, a_name_n, .inl a_name_f)), (a_many, .inl (cs 0, a_many_n, .inl a_many_f))] sz) [(a, .inr (11, [.ref a_kind, .ref a_name, .ref a_first, .ref a_many, .ref a_part, .ref a_number, .int o_a_size, .int a_parts])), (a_kind, .inl (cs 0, a_kind_n, .inl o_a_kind_f)), (a_name, .inl (cs 0, a_name_n, .inl o_a_name_f)), (a_many, .inl (cs 0, a_many_n, .inl o_a_many_f))]) (va_A [(a, .inr (11, [.ref a_kind, .ref a_name, .ref a_first, .ref a_many, .ref a_part, .ref a_number, .int a_size, .int a_parts])), (a_kind, .inl (cs 0, a_kind_n, .inl a_kind_f)), (a_name, .inl (cs 0, a_name_n, .inl a_name_f)), (a_many, .inl (cs 0, a_many_n, .inl a_many_f))] sz)) 0 0 (va_A [(a, .inr (11, [.ref a_kind, .ref a_name, .ref a_first, .ref a_many, .ref a_part, .ref a_number, .int a_size, .int a_parts])), (a_kind, .inl (cs 0, a_kind_n, .inl a_kind_f)), (a_name, .inl (cs 0, a_name_n, .inl a_name_f)), (a_many, .inl (cs 0, a_many_n, .inl a_many_f))] sz) := by
  refine Met.ofW (cc := b_MoTerms_variable) (maxL := 2) (ret := (some .int)) (by decide) rfl ?_
  intro p e s m args below meth c s₁ B hml hv
  obtain ⟨rfl, hsz, hP, hK, hD0, hgl, hkn, hkr⟩ := hv
  have hx := B.exec
  have hb := B.bytes
  have hr := B.returns
  have hg : ∀ w ∈ GW, w.before ([.ref a, .int v] : List Value).toArray s = true := fun w hw => atoms_spec (ws := .code y_MoTerms_variable b_MoTerms_variable 2 (some .int) :: GW) B.pre w (List.mem_cons_of_mem _ hw)
  have hown : s.vm.findClass R_MoTerms = some m.cls := findClass_of_methodNamed B.named
  have hlocks := B.notSynchronized
  subst hsz
  have hD := hD0.self (sz := s.heap.size)
  generalize hAe : va_A [(a, .inr (11, [.ref a_kind, .ref a_name, .ref a_first, .ref a_many, .ref a_part, .ref a_number, .int a_size, .int a_parts])), (a_kind, .inl (cs 0, a_kind_n, .inl a_kind_f)), (a_name, .inl (cs 0, a_name_n, .inl a_name_f)), (a_many, .inl (cs 0, a_many_n, .inl a_many_f))] s.heap.size = A at hD hkn ⊢
  have hA : ∀ q : Nat, s.heap.size ≤ q → A q := fun q h => by rw [← hAe]; exact Or.inr h
  have hS : va_S A s.heap s.heap [] := va_S.rf
  have hP : va_P g classes [(a, .inr (11, [.ref a_kind, .ref a_name, .ref a_first, .ref a_many, .ref a_part, .ref a_number, .int a_size, .int a_parts])), (a_kind, .inl (cs 0, a_kind_n, .inl a_kind_f)), (a_name, .inl (cs 0, a_name_n, .inl a_name_f)), (a_many, .inl (cs 0, a_many_n, .inl a_many_f))] s.heap := hP
  have hl := lv_entry ([.ref a, .int v]) (n := 2) (Nat.le_of_ble_eq_true rfl)
  rw [lg_entry_eq]
  generalize (lg_sl ([.ref a, .int v]) ++ List.replicate (2 - (lg_sl ([.ref a, .int v])).length) Slot.unset).toArray = ls at hl ⊢
  have hl : lv_has ls 2 [(0, .ref a), (1, .int v)] := hl
  refine gq (fun Q hQ => ?_)
  obtain ⟨H, hH⟩ : ∃ H : Heap, H = s.heap := ⟨_, rfl⟩
  rw [← hH] at hP
  have hS : va_S A s.heap H [] := by rw [hH]; exact hS
  refine W.eqH hH ?_
  obtain ⟨locs, hlc⟩ : ∃ L : List Loc, L = [] := ⟨_, rfl⟩
  rw [← hlc] at hS ⊢
  unfold p_MoTerms_variable at hok
  refine lv_aload_n hx hb d_MoTerms_variable_0 rfl (lv_at hl 0 rfl) ?_
  refine va_get (D := g) (ci := 11) (v := .ref a_kind) (C := R_MoTerms) (T := F_MoTerms) (N := 8) hx hb hg ul_MoTerms hown hK hP 0 rfl rfl 0 (by decide) (hg _ wd_698) (fun _ h9 => h9) rfl d_MoTerms_variable_1 ?_
  refine lv_aload_n hx hb d_MoTerms_variable_4 rfl (lv_at hl 0 rfl) ?_
  refine va_get (D := g) (ci := 11) (v := .int a_size) (C := R_MoTerms) (T := F_MoTerms) (N := 8) hx hb hg ul_MoTerms hown hK hP 0 rfl rfl 6 (by decide) (hg _ wd_704) (fun _ h9 => h9) rfl d_MoTerms_variable_5 ?_
  refine lv_iconst (v := 0) hx hb d_MoTerms_variable_8 (by decide) ?_
  obtain ⟨hi1, hok⟩ := ck_some hok
  refine va_iast hx hb hK hP hD hS 1 0 rfl rfl (ixb_in hi1) d_MoTerms_variable_9 (fun H locs hP hD hS => ?_)
  obtain ⟨hP, hD⟩ : PD g A H [(a, .inr (11, [.ref a_kind, .ref a_name, .ref a_first, .ref a_many, .ref a_part, .ref a_number, .int a_size, .int a_parts])), (a_kind, .inl (cs 0, a_kind_n, .inl (upd a_kind_f a_size.toNatClampNeg 0))), (a_name, .inl (cs 0, a_name_n, .inl a_name_f)), (a_many, .inl (cs 0, a_many_n, .inl a_many_f))] := ⟨hP, hD⟩
  refine lv_aload_n hx hb d_MoTerms_variable_10 rfl (lv_at hl 0 rfl) ?_
  refine va_get (D := g) (ci := 11) (v := .ref a_name) (C := R_MoTerms) (T := F_MoTerms) (N := 8) hx hb hg ul_MoTerms hown hK hP 0 rfl rfl 1 (by decide) (hg _ wd_699) (fun _ h9 => h9) rfl d_MoTerms_variable_11 ?_
  refine lv_aload_n hx hb d_MoTerms_variable_14 rfl (lv_at hl 0 rfl) ?_
  refine va_get (D := g) (ci := 11) (v := .int a_size) (C := R_MoTerms) (T := F_MoTerms) (N := 8) hx hb hg ul_MoTerms hown hK hP 0 rfl rfl 6 (by decide) (hg _ wd_704) (fun _ h9 => h9) rfl d_MoTerms_variable_15 ?_
  refine lv_iload_n hx hb d_MoTerms_variable_18 rfl (lv_at hl 1 rfl) ?_
  obtain ⟨hi2, hok⟩ := ck_some hok
  refine va_iast hx hb hK hP hD hS 2 0 rfl rfl (ixb_in hi2) d_MoTerms_variable_19 (fun H locs hP hD hS => ?_)
  obtain ⟨hP, hD⟩ : PD g A H [(a, .inr (11, [.ref a_kind, .ref a_name, .ref a_first, .ref a_many, .ref a_part, .ref a_number, .int a_size, .int a_parts])), (a_kind, .inl (cs 0, a_kind_n, .inl (upd a_kind_f a_size.toNatClampNeg 0))), (a_name, .inl (cs 0, a_name_n, .inl (upd a_name_f a_size.toNatClampNeg v))), (a_many, .inl (cs 0, a_many_n, .inl a_many_f))] := ⟨hP, hD⟩
  refine lv_aload_n hx hb d_MoTerms_variable_20 rfl (lv_at hl 0 rfl) ?_
  refine va_get (D := g) (ci := 11) (v := .ref a_many) (C := R_MoTerms) (T := F_MoTerms) (N := 8) hx hb hg ul_MoTerms hown hK hP 0 rfl rfl 3 (by decide) (hg _ wd_701) (fun _ h9 => h9) rfl d_MoTerms_variable_21 ?_
  refine lv_aload_n hx hb d_MoTerms_variable_24 rfl (lv_at hl 0 rfl) ?_
  refine va_get (D := g) (ci := 11) (v := .int a_size) (C := R_MoTerms) (T := F_MoTerms) (N := 8) hx hb hg ul_MoTerms hown hK hP 0 rfl rfl 6 (by decide) (hg _ wd_704) (fun _ h9 => h9) rfl d_MoTerms_variable_25 ?_
  refine lv_iconst (v := 0) hx hb d_MoTerms_variable_28 (by decide) ?_
  obtain ⟨hi3, hok⟩ := ck_some hok
  refine va_iast hx hb hK hP hD hS 3 0 rfl rfl (ixb_in hi3) d_MoTerms_variable_29 (fun H locs hP hD hS => ?_)
  obtain ⟨hP, hD⟩ : PD g A H [(a, .inr (11, [.ref a_kind, .ref a_name, .ref a_first, .ref a_many, .ref a_part, .ref a_number, .int a_size, .int a_parts])), (a_kind, .inl (cs 0, a_kind_n, .inl (upd a_kind_f a_size.toNatClampNeg 0))), (a_name, .inl (cs 0, a_name_n, .inl (upd a_name_f a_size.toNatClampNeg v))), (a_many, .inl (cs 0, a_many_n, .inl (upd a_many_f a_size.toNatClampNeg 0)))] := ⟨hP, hD⟩
  refine lv_aload_n hx hb d_MoTerms_variable_30 rfl (lv_at hl 0 rfl) ?_
  refine lv_dup hx hb d_MoTerms_variable_31 rfl ?_
  refine va_get (D := g) (ci := 11) (v := .int a_size) (C := R_MoTerms) (T := F_MoTerms) (N := 8) hx hb hg ul_MoTerms hown hK hP 0 rfl rfl 6 (by decide) (hg _ wd_704) (fun _ h9 => h9) rfl d_MoTerms_variable_32 ?_
  refine lv_dup_x1 hx hb d_MoTerms_variable_35 rfl rfl ?_
  refine lv_iconst (v := 1) hx hb d_MoTerms_variable_36 (by decide) ?_
  refine lv_iadd hx hb d_MoTerms_variable_37 ?_
  refine va_put (D := g) (ci := 11) (v := .int (a_size + 1)) (ty := .int) (C := R_MoTerms) (T := F_MoTerms) (N := 8) hx hb hg ul_MoTerms t_MoTerms tk_MoTerms n_MoTerms hown hK hP hD hS 0 rfl rfl 6 (by decide) (hg _ wd_704) (fun _ h9 => h9) rfl (by decide +kernel) rfl rfl (Nat.le_of_ble_eq_true rfl) d_MoTerms_variable_38 (fun H locs hP hD hS => ?_)
  obtain ⟨hP, hD⟩ : PD g A H [(a, .inr (11, [.ref a_kind, .ref a_name, .ref a_first, .ref a_many, .ref a_part, .ref a_number, .int (a_size + 1), .int a_parts])), (a_kind, .inl (cs 0, a_kind_n, .inl (upd a_kind_f a_size.toNatClampNeg 0))), (a_name, .inl (cs 0, a_name_n, .inl (upd a_name_f a_size.toNatClampNeg v))), (a_many, .inl (cs 0, a_many_n, .inl (upd a_many_f a_size.toNatClampNeg 0)))] := ⟨hP, hD⟩
  have hq := Option.some.inj hok
  obtain ⟨hq0, hq⟩ := Prod.mk.inj hq
  obtain ⟨hq1, hq⟩ := Prod.mk.inj hq
  obtain ⟨hq2, hq⟩ := Prod.mk.inj hq
  obtain ⟨hq3, hq⟩ := Prod.mk.inj hq
  have hq4 := hq
  subst hq0
  subst hq1
  subst hq2
  subst hq3
  subst hq4
  obtain ⟨hP9, hD9⟩ := sub2 (ws' := [(a, .inr (11, [.ref a_kind, .ref a_name, .ref a_first, .ref a_many, .ref a_part, .ref a_number, .int (a_size + 1), .int a_parts])), (a_kind, .inl (cs 0, a_kind_n, .inl (upd a_kind_f a_size.toNatClampNeg 0))), (a_name, .inl (cs 0, a_name_n, .inl (upd a_name_f a_size.toNatClampNeg v))), (a_many, .inl (cs 0, a_many_n, .inl (upd a_many_f a_size.toNatClampNeg 0)))]) hP hD [0, 1, 2, 3] rfl (by decide) rfl
  rw [hQ]
  exact W.iret (v := a_size) hx hb hr (fun t ht hW => ⟨⟨_, (), rfl, rfl, by rw [ht]; exact hP9, hD9⟩, hS.F ht⟩) hS.2.2 d_MoTerms_variable_41

theorem d_MoTerms_integer_0 : decode b_MoTerms_integer 0 = .ok (.aload_n 0, 1) := by decide +kernel
theorem d_MoTerms_integer_1 : decode b_MoTerms_integer 1 = .ok (.getfield 10, 3) := by decide +kernel
theorem d_MoTerms_integer_4 : decode b_MoTerms_integer 4 = .ok (.aload_n 0, 1) := by decide +kernel
theorem d_MoTerms_integer_5 : decode b_MoTerms_integer 5 = .ok (.getfield 32, 3) := by decide +kernel
theorem d_MoTerms_integer_8 : decode b_MoTerms_integer 8 = .ok (.iconst 1, 1) := by decide +kernel
theorem d_MoTerms_integer_9 : decode b_MoTerms_integer 9 = .ok (.iastore, 1) := by decide +kernel
theorem d_MoTerms_integer_10 : decode b_MoTerms_integer 10 = .ok (.aload_n 0, 1) := by decide +kernel
theorem d_MoTerms_integer_11 : decode b_MoTerms_integer 11 = .ok (.getfield 28, 3) := by decide +kernel
theorem d_MoTerms_integer_14 : decode b_MoTerms_integer 14 = .ok (.aload_n 0, 1) := by decide +kernel
theorem d_MoTerms_integer_15 : decode b_MoTerms_integer 15 = .ok (.getfield 32, 3) := by decide +kernel
theorem d_MoTerms_integer_18 : decode b_MoTerms_integer 18 = .ok (.lload_n 1, 1) := by decide +kernel
theorem d_MoTerms_integer_19 : decode b_MoTerms_integer 19 = .ok (.lastore, 1) := by decide +kernel
theorem d_MoTerms_integer_20 : decode b_MoTerms_integer 20 = .ok (.aload_n 0, 1) := by decide +kernel
theorem d_MoTerms_integer_21 : decode b_MoTerms_integer 21 = .ok (.getfield 22, 3) := by decide +kernel
theorem d_MoTerms_integer_24 : decode b_MoTerms_integer 24 = .ok (.aload_n 0, 1) := by decide +kernel
theorem d_MoTerms_integer_25 : decode b_MoTerms_integer 25 = .ok (.getfield 32, 3) := by decide +kernel
theorem d_MoTerms_integer_28 : decode b_MoTerms_integer 28 = .ok (.iconst 0, 1) := by decide +kernel
theorem d_MoTerms_integer_29 : decode b_MoTerms_integer 29 = .ok (.iastore, 1) := by decide +kernel
theorem d_MoTerms_integer_30 : decode b_MoTerms_integer 30 = .ok (.aload_n 0, 1) := by decide +kernel
theorem d_MoTerms_integer_31 : decode b_MoTerms_integer 31 = .ok (.dup, 1) := by decide +kernel
theorem d_MoTerms_integer_32 : decode b_MoTerms_integer 32 = .ok (.getfield 32, 3) := by decide +kernel
theorem d_MoTerms_integer_35 : decode b_MoTerms_integer 35 = .ok (.dup_x1, 1) := by decide +kernel
theorem d_MoTerms_integer_36 : decode b_MoTerms_integer 36 = .ok (.iconst 1, 1) := by decide +kernel
theorem d_MoTerms_integer_37 : decode b_MoTerms_integer 37 = .ok (.iadd, 1) := by decide +kernel
theorem d_MoTerms_integer_38 : decode b_MoTerms_integer 38 = .ok (.putfield 32, 3) := by decide +kernel
theorem d_MoTerms_integer_41 : decode b_MoTerms_integer 41 = .ok (.ireturn, 1) := by decide +kernel
def p_MoTerms_integer (v : Int64) (a_size : Int32) (a_parts : Int32) (a_kind_n : Nat) (a_kind_f : Nat → Int32) (a_many_n : Nat) (a_many_f : Nat → Int32) (a_number_n : Nat) (a_number_f : Nat → Int64) : Option (Int32 × Int32 × (Nat → Int32) × (Nat → Int32) × (Nat → Int64)) := ck (ixb a_size a_kind_n) (ck (ixb a_size a_number_n) (ck (ixb a_size a_many_n) (some (a_size, a_size + 1, upd a_kind_f a_size.toNatClampNeg 1, upd a_many_f a_size.toNatClampNeg 0, vp_updL a_number_f a_size.toNatClampNeg v))))
set_option maxHeartbeats 4000000 in
set_option maxRecDepth 100000 in
theorem c_MoTerms_integer (l : Launch) (g : va_G) (cs : Nat → ClassId) (ka : Nat → Nat) (a_name : Nat) (a_first : Nat) (a_part : Nat) (a a_kind a_many a_number : Nat) (sz : Nat) (v : Int64) (a_size : Int32) (a_parts : Int32) (a_kind_n : Nat) (a_kind_f : Nat → Int32) (a_many_n : Nat) (a_many_f : Nat → Int32) (a_number_n : Nat) (a_number_f : Nat → Int64) (r : Int32) (o_a_size : Int32) (o_a_kind_f : Nat → Int32) (o_a_many_f : Nat → Int32) (o_a_number_f : Nat → Int64) (hok : p_MoTerms_integer v a_size a_parts a_kind_n a_kind_f a_many_n a_many_f a_number_n a_number_f = some (r, o_a_size, o_a_kind_f, o_a_many_f, o_a_number_f)) : Met l y_MoTerms_integer (.code y_MoTerms_integer b_MoTerms_integer 3 (some .int) :: GW) { frames := 0, cells := 0, slots := 0, locals := 0 } (va_Pc [.ref a, .long v] (gP g cs ka [(a, .inr (11, [.ref a_kind, .ref a_name, .ref a_first, .ref a_many, .ref a_part, .ref a_number, .int a_size, .int a_parts])), (a_kind, .inl (cs 0, a_kind_n, .inl a_kind_f)), (a_many, .inl (cs 0, a_many_n, .inl a_many_f)), (a_number, .inl (cs 2, a_number_n, .inr (.inl a_number_f)))] sz)) (va_Qi (fun (r' : Int32) (_ : Unit) => r = r') (fun _ t => va_P g classes [(a, .inr (11, [.ref a_kind, .ref a_name, .ref a_first, .ref a_many, .ref a_part, .ref a_number, .int o_a_size, .int a_parts])), (a_kind, .inl (cs 0, a_kind_n, .inl o_a_kind_f)), (a_many, .inl (cs 0, a_many_n, .inl o_a_many_f)), (a_number, .inl (cs 2, a_number_n, .inr (.inl o_a_number_f)))] t.heap ∧ va_D (va_A [(a, .inr (11, [.ref a_kind, .ref a_name, .ref a_first, .ref a_many, .ref a_part, .ref a_number, .int a_size, .int a_parts])), (a_kind, .inl (cs 0, a_kind_n, .inl a_kind_f)), (a_many, .inl (cs 0, a_many_n, .inl a_many_f)), (a_number, .inl (cs 2, a_number_n, .inr (.inl a_number_f)))] sz) [(a, .inr (11, [.ref a_kind, .ref a_name, .ref a_first, .ref a_many, .ref a_part, .ref a_number, .int o_a_size, .int a_parts])), (a_kind, .inl (cs 0, a_kind_n, .inl o_a_kind_f)), (a_many, .inl (cs 0, a_many_n, .inl o_a_many_f)), (a_number, .inl (cs 2, a_number_n, .inr (.inl o_a_number_f)))]) (va_A [(a, .inr (11, [.ref a_kind, .ref a_name, .ref a_first, .ref a_many, .ref a_part, .ref a_number, .int a_size, .int a_parts])), (a_kind, .inl (cs 0, a_kind_n, .inl a_kind_f)), (a_many, .inl (cs 0, a_many_n, .inl a_many_f)), (a_number, .inl (cs 2, a_number_n, .inr (.inl a_number_f)))] sz)) 0 0 (va_A [(a, .inr (11, [.ref a_kind, .ref a_name, .ref a_first, .ref a_many, .ref a_part, .ref a_number, .int a_size, .int a_parts])), (a_kind, .inl (cs 0, a_kind_n, .inl a_kind_f)), (a_many, .inl (cs 0, a_many_n, .inl a_many_f)), (a_number, .inl (cs 2, a_number_n, .inr (.inl a_number_f)))] sz) := by
  refine Met.ofW (cc := b_MoTerms_integer) (maxL := 3) (ret := (some .int)) (by decide) rfl ?_
  intro p e s m args below meth c s₁ B hml hv
  obtain ⟨rfl, hsz, hP, hK, hD0, hgl, hkn, hkr⟩ := hv
  have hx := B.exec
  have hb := B.bytes
  have hr := B.returns
  have hg : ∀ w ∈ GW, w.before ([.ref a, .long v] : List Value).toArray s = true := fun w hw => atoms_spec (ws := .code y_MoTerms_integer b_MoTerms_integer 3 (some .int) :: GW) B.pre w (List.mem_cons_of_mem _ hw)
  have hown : s.vm.findClass R_MoTerms = some m.cls := findClass_of_methodNamed B.named
  have hlocks := B.notSynchronized
  subst hsz
  have hD := hD0.self (sz := s.heap.size)
  generalize hAe : va_A [(a, .inr (11, [.ref a_kind, .ref a_name, .ref a_first, .ref a_many, .ref a_part, .ref a_number, .int a_size, .int a_parts])), (a_kind, .inl (cs 0, a_kind_n, .inl a_kind_f)), (a_many, .inl (cs 0, a_many_n, .inl a_many_f)), (a_number, .inl (cs 2, a_number_n, .inr (.inl a_number_f)))] s.heap.size = A at hD hkn ⊢
  have hA : ∀ q : Nat, s.heap.size ≤ q → A q := fun q h => by rw [← hAe]; exact Or.inr h
  have hS : va_S A s.heap s.heap [] := va_S.rf
  have hP : va_P g classes [(a, .inr (11, [.ref a_kind, .ref a_name, .ref a_first, .ref a_many, .ref a_part, .ref a_number, .int a_size, .int a_parts])), (a_kind, .inl (cs 0, a_kind_n, .inl a_kind_f)), (a_many, .inl (cs 0, a_many_n, .inl a_many_f)), (a_number, .inl (cs 2, a_number_n, .inr (.inl a_number_f)))] s.heap := hP
  have hl := lv_entry ([.ref a, .long v]) (n := 3) (Nat.le_of_ble_eq_true rfl)
  rw [lg_entry_eq]
  generalize (lg_sl ([.ref a, .long v]) ++ List.replicate (3 - (lg_sl ([.ref a, .long v])).length) Slot.unset).toArray = ls at hl ⊢
  have hl : lv_has ls 3 [(0, .ref a), (1, .long v)] := hl
  refine gq (fun Q hQ => ?_)
  obtain ⟨H, hH⟩ : ∃ H : Heap, H = s.heap := ⟨_, rfl⟩
  rw [← hH] at hP
  have hS : va_S A s.heap H [] := by rw [hH]; exact hS
  refine W.eqH hH ?_
  obtain ⟨locs, hlc⟩ : ∃ L : List Loc, L = [] := ⟨_, rfl⟩
  rw [← hlc] at hS ⊢
  unfold p_MoTerms_integer at hok
  refine lv_aload_n hx hb d_MoTerms_integer_0 rfl (lv_at hl 0 rfl) ?_
  refine va_get (D := g) (ci := 11) (v := .ref a_kind) (C := R_MoTerms) (T := F_MoTerms) (N := 8) hx hb hg ul_MoTerms hown hK hP 0 rfl rfl 0 (by decide) (hg _ wd_698) (fun _ h9 => h9) rfl d_MoTerms_integer_1 ?_
  refine lv_aload_n hx hb d_MoTerms_integer_4 rfl (lv_at hl 0 rfl) ?_
  refine va_get (D := g) (ci := 11) (v := .int a_size) (C := R_MoTerms) (T := F_MoTerms) (N := 8) hx hb hg ul_MoTerms hown hK hP 0 rfl rfl 6 (by decide) (hg _ wd_704) (fun _ h9 => h9) rfl d_MoTerms_integer_5 ?_
  refine lv_iconst (v := 1) hx hb d_MoTerms_integer_8 (by decide) ?_
  obtain ⟨hi1, hok⟩ := ck_some hok
  refine va_iast hx hb hK hP hD hS 1 0 rfl rfl (ixb_in hi1) d_MoTerms_integer_9 (fun H locs hP hD hS => ?_)
  obtain ⟨hP, hD⟩ : PD g A H [(a, .inr (11, [.ref a_kind, .ref a_name, .ref a_first, .ref a_many, .ref a_part, .ref a_number, .int a_size, .int a_parts])), (a_kind, .inl (cs 0, a_kind_n, .inl (upd a_kind_f a_size.toNatClampNeg 1))), (a_many, .inl (cs 0, a_many_n, .inl a_many_f)), (a_number, .inl (cs 2, a_number_n, .inr (.inl a_number_f)))] := ⟨hP, hD⟩
  refine lv_aload_n hx hb d_MoTerms_integer_10 rfl (lv_at hl 0 rfl) ?_
  refine va_get (D := g) (ci := 11) (v := .ref a_number) (C := R_MoTerms) (T := F_MoTerms) (N := 8) hx hb hg ul_MoTerms hown hK hP 0 rfl rfl 5 (by decide) (hg _ wd_703) (fun _ h9 => h9) rfl d_MoTerms_integer_11 ?_
  refine lv_aload_n hx hb d_MoTerms_integer_14 rfl (lv_at hl 0 rfl) ?_
  refine va_get (D := g) (ci := 11) (v := .int a_size) (C := R_MoTerms) (T := F_MoTerms) (N := 8) hx hb hg ul_MoTerms hown hK hP 0 rfl rfl 6 (by decide) (hg _ wd_704) (fun _ h9 => h9) rfl d_MoTerms_integer_15 ?_
  refine lv_lload_n hx hb d_MoTerms_integer_18 rfl (lv_at hl 1 rfl) ?_
  obtain ⟨hi2, hok⟩ := ck_some hok
  refine va_last hx hb hK hP hD hS 3 2 rfl rfl (ixb_in hi2) d_MoTerms_integer_19 (fun H locs hP hD hS => ?_)
  obtain ⟨hP, hD⟩ : PD g A H [(a, .inr (11, [.ref a_kind, .ref a_name, .ref a_first, .ref a_many, .ref a_part, .ref a_number, .int a_size, .int a_parts])), (a_kind, .inl (cs 0, a_kind_n, .inl (upd a_kind_f a_size.toNatClampNeg 1))), (a_many, .inl (cs 0, a_many_n, .inl a_many_f)), (a_number, .inl (cs 2, a_number_n, .inr (.inl (vp_updL a_number_f a_size.toNatClampNeg v))))] := ⟨hP, hD⟩
  refine lv_aload_n hx hb d_MoTerms_integer_20 rfl (lv_at hl 0 rfl) ?_
  refine va_get (D := g) (ci := 11) (v := .ref a_many) (C := R_MoTerms) (T := F_MoTerms) (N := 8) hx hb hg ul_MoTerms hown hK hP 0 rfl rfl 3 (by decide) (hg _ wd_701) (fun _ h9 => h9) rfl d_MoTerms_integer_21 ?_
  refine lv_aload_n hx hb d_MoTerms_integer_24 rfl (lv_at hl 0 rfl) ?_
  refine va_get (D := g) (ci := 11) (v := .int a_size) (C := R_MoTerms) (T := F_MoTerms) (N := 8) hx hb hg ul_MoTerms hown hK hP 0 rfl rfl 6 (by decide) (hg _ wd_704) (fun _ h9 => h9) rfl d_MoTerms_integer_25 ?_
  refine lv_iconst (v := 0) hx hb d_MoTerms_integer_28 (by decide) ?_
  obtain ⟨hi3, hok⟩ := ck_some hok
  refine va_iast hx hb hK hP hD hS 2 0 rfl rfl (ixb_in hi3) d_MoTerms_integer_29 (fun H locs hP hD hS => ?_)
  obtain ⟨hP, hD⟩ : PD g A H [(a, .inr (11, [.ref a_kind, .ref a_name, .ref a_first, .ref a_many, .ref a_part, .ref a_number, .int a_size, .int a_parts])), (a_kind, .inl (cs 0, a_kind_n, .inl (upd a_kind_f a_size.toNatClampNeg 1))), (a_many, .inl (cs 0, a_many_n, .inl (upd a_many_f a_size.toNatClampNeg 0))), (a_number, .inl (cs 2, a_number_n, .inr (.inl (vp_updL a_number_f a_size.toNatClampNeg v))))] := ⟨hP, hD⟩
  refine lv_aload_n hx hb d_MoTerms_integer_30 rfl (lv_at hl 0 rfl) ?_
  refine lv_dup hx hb d_MoTerms_integer_31 rfl ?_
  refine va_get (D := g) (ci := 11) (v := .int a_size) (C := R_MoTerms) (T := F_MoTerms) (N := 8) hx hb hg ul_MoTerms hown hK hP 0 rfl rfl 6 (by decide) (hg _ wd_704) (fun _ h9 => h9) rfl d_MoTerms_integer_32 ?_
  refine lv_dup_x1 hx hb d_MoTerms_integer_35 rfl rfl ?_
  refine lv_iconst (v := 1) hx hb d_MoTerms_integer_36 (by decide) ?_
  refine lv_iadd hx hb d_MoTerms_integer_37 ?_
  refine va_put (D := g) (ci := 11) (v := .int (a_size + 1)) (ty := .int) (C := R_MoTerms) (T := F_MoTerms) (N := 8) hx hb hg ul_MoTerms t_MoTerms tk_MoTerms n_MoTerms hown hK hP hD hS 0 rfl rfl 6 (by decide) (hg _ wd_704) (fun _ h9 => h9) rfl (by decide +kernel) rfl rfl (Nat.le_of_ble_eq_true rfl) d_MoTerms_integer_38 (fun H locs hP hD hS => ?_)
  obtain ⟨hP, hD⟩ : PD g A H [(a, .inr (11, [.ref a_kind, .ref a_name, .ref a_first, .ref a_many, .ref a_part, .ref a_number, .int (a_size + 1), .int a_parts])), (a_kind, .inl (cs 0, a_kind_n, .inl (upd a_kind_f a_size.toNatClampNeg 1))), (a_many, .inl (cs 0, a_many_n, .inl (upd a_many_f a_size.toNatClampNeg 0))), (a_number, .inl (cs 2, a_number_n, .inr (.inl (vp_updL a_number_f a_size.toNatClampNeg v))))] := ⟨hP, hD⟩
  have hq := Option.some.inj hok
  obtain ⟨hq0, hq⟩ := Prod.mk.inj hq
  obtain ⟨hq1, hq⟩ := Prod.mk.inj hq
  obtain ⟨hq2, hq⟩ := Prod.mk.inj hq
  obtain ⟨hq3, hq⟩ := Prod.mk.inj hq
  have hq4 := hq
  subst hq0
  subst hq1
  subst hq2
  subst hq3
  subst hq4
  obtain ⟨hP9, hD9⟩ := sub2 (ws' := [(a, .inr (11, [.ref a_kind, .ref a_name, .ref a_first, .ref a_many, .ref a_part, .ref a_number, .int (a_size + 1), .int a_parts])), (a_kind, .inl (cs 0, a_kind_n, .inl (upd a_kind_f a_size.toNatClampNeg 1))), (a_many, .inl (cs 0, a_many_n, .inl (upd a_many_f a_size.toNatClampNeg 0))), (a_number, .inl (cs 2, a_number_n, .inr (.inl (vp_updL a_number_f a_size.toNatClampNeg v))))]) hP hD [0, 1, 2, 3] rfl (by decide) rfl
  rw [hQ]
  exact W.iret (v := a_size) hx hb hr (fun t ht hW => ⟨⟨_, (), rfl, rfl, by rw [ht]; exact hP9, hD9⟩, hS.F ht⟩) hS.2.2 d_MoTerms_integer_41

theorem d_MoTerms_atom_0 : decode b_MoTerms_atom 0 = .ok (.aload_n 0, 1) := by decide +kernel
theorem d_MoTerms_atom_1 : decode b_MoTerms_atom 1 = .ok (.getfield 10, 3) := by decide +kernel
theorem d_MoTerms_atom_4 : decode b_MoTerms_atom 4 = .ok (.aload_n 0, 1) := by decide +kernel
theorem d_MoTerms_atom_5 : decode b_MoTerms_atom 5 = .ok (.getfield 32, 3) := by decide +kernel
theorem d_MoTerms_atom_8 : decode b_MoTerms_atom 8 = .ok (.iconst 2, 1) := by decide +kernel
theorem d_MoTerms_atom_9 : decode b_MoTerms_atom 9 = .ok (.iastore, 1) := by decide +kernel
theorem d_MoTerms_atom_10 : decode b_MoTerms_atom 10 = .ok (.aload_n 0, 1) := by decide +kernel
theorem d_MoTerms_atom_11 : decode b_MoTerms_atom 11 = .ok (.getfield 16, 3) := by decide +kernel
theorem d_MoTerms_atom_14 : decode b_MoTerms_atom 14 = .ok (.aload_n 0, 1) := by decide +kernel
theorem d_MoTerms_atom_15 : decode b_MoTerms_atom 15 = .ok (.getfield 32, 3) := by decide +kernel
theorem d_MoTerms_atom_18 : decode b_MoTerms_atom 18 = .ok (.iload_n 1, 1) := by decide +kernel
theorem d_MoTerms_atom_19 : decode b_MoTerms_atom 19 = .ok (.iastore, 1) := by decide +kernel
theorem d_MoTerms_atom_20 : decode b_MoTerms_atom 20 = .ok (.aload_n 0, 1) := by decide +kernel
theorem d_MoTerms_atom_21 : decode b_MoTerms_atom 21 = .ok (.getfield 22, 3) := by decide +kernel
theorem d_MoTerms_atom_24 : decode b_MoTerms_atom 24 = .ok (.aload_n 0, 1) := by decide +kernel
theorem d_MoTerms_atom_25 : decode b_MoTerms_atom 25 = .ok (.getfield 32, 3) := by decide +kernel
theorem d_MoTerms_atom_28 : decode b_MoTerms_atom 28 = .ok (.iconst 0, 1) := by decide +kernel
theorem d_MoTerms_atom_29 : decode b_MoTerms_atom 29 = .ok (.iastore, 1) := by decide +kernel
theorem d_MoTerms_atom_30 : decode b_MoTerms_atom 30 = .ok (.aload_n 0, 1) := by decide +kernel
theorem d_MoTerms_atom_31 : decode b_MoTerms_atom 31 = .ok (.dup, 1) := by decide +kernel
theorem d_MoTerms_atom_32 : decode b_MoTerms_atom 32 = .ok (.getfield 32, 3) := by decide +kernel
theorem d_MoTerms_atom_35 : decode b_MoTerms_atom 35 = .ok (.dup_x1, 1) := by decide +kernel
theorem d_MoTerms_atom_36 : decode b_MoTerms_atom 36 = .ok (.iconst 1, 1) := by decide +kernel
theorem d_MoTerms_atom_37 : decode b_MoTerms_atom 37 = .ok (.iadd, 1) := by decide +kernel
theorem d_MoTerms_atom_38 : decode b_MoTerms_atom 38 = .ok (.putfield 32, 3) := by decide +kernel
theorem d_MoTerms_atom_41 : decode b_MoTerms_atom 41 = .ok (.ireturn, 1) := by decide +kernel
def p_MoTerms_atom (nm : Int32) (a_size : Int32) (a_parts : Int32) (a_kind_n : Nat) (a_kind_f : Nat → Int32) (a_name_n : Nat) (a_name_f : Nat → Int32) (a_many_n : Nat) (a_many_f : Nat → Int32) : Option (Int32 × Int32 × (Nat → Int32) × (Nat → Int32) × (Nat → Int32)) := ck (ixb a_size a_kind_n) (ck (ixb a_size a_name_n) (ck (ixb a_size a_many_n) (some (a_size, a_size + 1, upd a_kind_f a_size.toNatClampNeg 2, upd a_name_f a_size.toNatClampNeg nm, upd a_many_f a_size.toNatClampNeg 0))))
set_option maxHeartbeats 4000000 in
set_option maxRecDepth 100000 in
theorem c_MoTerms_atom (l : Launch) (g : va_G) (cs : Nat → ClassId) (ka : Nat → Nat) (a_first : Nat) (a_part : Nat) (a_number : Nat) (a a_kind a_name a_many : Nat) (sz : Nat) (nm : Int32) (a_size : Int32) (a_parts : Int32) (a_kind_n : Nat) (a_kind_f : Nat → Int32) (a_name_n : Nat) (a_name_f : Nat → Int32) (a_many_n : Nat) (a_many_f : Nat → Int32) (r : Int32) (o_a_size : Int32) (o_a_kind_f : Nat → Int32) (o_a_name_f : Nat → Int32) (o_a_many_f : Nat → Int32) (hok : p_MoTerms_atom nm a_size a_parts a_kind_n a_kind_f a_name_n a_name_f a_many_n a_many_f = some (r, o_a_size, o_a_kind_f, o_a_name_f, o_a_many_f)) : Met l y_MoTerms_atom (.code y_MoTerms_atom b_MoTerms_atom 2 (some .int) :: GW) { frames := 0, cells := 0, slots := 0, locals := 0 } (va_Pc [.ref a, .int nm] (gP g cs ka [(a, .inr (11, [.ref a_kind, .ref a_name, .ref a_first, .ref a_many, .ref a_part, .ref a_number, .int a_size, .int a_parts])), (a_kind, .inl (cs 0, a_kind_n, .inl a_kind_f)), (a_name, .inl (cs 0, a_name_n, .inl a_name_f)), (a_many, .inl (cs 0, a_many_n, .inl a_many_f))] sz)) (va_Qi (fun (r' : Int32) (_ : Unit) => r = r') (fun _ t => va_P g classes [(a, .inr (11, [.ref a_kind, .ref a_name, .ref a_first, .ref a_many, .ref a_part, .ref a_number, .int o_a_size, .int a_parts])), (a_kind, .inl (cs 0, a_kind_n, .inl o_a_kind_f)), (a_name, .inl (cs 0, a_name_n, .inl o_a_name_f)), (a_many, .inl (cs 0, a_many_n, .inl o_a_many_f))] t.heap ∧ va_D (va_A [(a, .inr (11, [.ref a_kind, .ref a_name, .ref a_first, .ref a_many, .ref a_part, .ref a_number, .int a_size, .int a_parts])), (a_kind, .inl (cs 0, a_kind_n, .inl a_kind_f)), (a_name, .inl (cs 0, a_name_n, .inl a_name_f)), (a_many, .inl (cs 0, a_many_n, .inl a_many_f))] sz) [(a, .inr (11, [.ref a_kind, .ref a_name, .ref a_first, .ref a_many, .ref a_part, .ref a_number, .int o_a_size, .int a_parts])), (a_kind, .inl (cs 0, a_kind_n, .inl o_a_kind_f)), (a_name, .inl (cs 0, a_name_n, .inl o_a_name_f)), (a_many, .inl (cs 0, a_many_n, .inl o_a_many_f))]) (va_A [(a, .inr (11, [.ref a_kind, .ref a_name, .ref a_first, .ref a_many, .ref a_part, .ref a_number, .int a_size, .int a_parts])), (a_kind, .inl (cs 0, a_kind_n, .inl a_kind_f)), (a_name, .inl (cs 0, a_name_n, .inl a_name_f)), (a_many, .inl (cs 0, a_many_n, .inl a_many_f))] sz)) 0 0 (va_A [(a, .inr (11, [.ref a_kind, .ref a_name, .ref a_first, .ref a_many, .ref a_part, .ref a_number, .int a_size, .int a_parts])), (a_kind, .inl (cs 0, a_kind_n, .inl a_kind_f)), (a_name, .inl (cs 0, a_name_n, .inl a_name_f)), (a_many, .inl (cs 0, a_many_n, .inl a_many_f))] sz) := by
  refine Met.ofW (cc := b_MoTerms_atom) (maxL := 2) (ret := (some .int)) (by decide) rfl ?_
  intro p e s m args below meth c s₁ B hml hv
  obtain ⟨rfl, hsz, hP, hK, hD0, hgl, hkn, hkr⟩ := hv
  have hx := B.exec
  have hb := B.bytes
  have hr := B.returns
  have hg : ∀ w ∈ GW, w.before ([.ref a, .int nm] : List Value).toArray s = true := fun w hw => atoms_spec (ws := .code y_MoTerms_atom b_MoTerms_atom 2 (some .int) :: GW) B.pre w (List.mem_cons_of_mem _ hw)
  have hown : s.vm.findClass R_MoTerms = some m.cls := findClass_of_methodNamed B.named
  have hlocks := B.notSynchronized
  subst hsz
  have hD := hD0.self (sz := s.heap.size)
  generalize hAe : va_A [(a, .inr (11, [.ref a_kind, .ref a_name, .ref a_first, .ref a_many, .ref a_part, .ref a_number, .int a_size, .int a_parts])), (a_kind, .inl (cs 0, a_kind_n, .inl a_kind_f)), (a_name, .inl (cs 0, a_name_n, .inl a_name_f)), (a_many, .inl (cs 0, a_many_n, .inl a_many_f))] s.heap.size = A at hD hkn ⊢
  have hA : ∀ q : Nat, s.heap.size ≤ q → A q := fun q h => by rw [← hAe]; exact Or.inr h
  have hS : va_S A s.heap s.heap [] := va_S.rf
  have hP : va_P g classes [(a, .inr (11, [.ref a_kind, .ref a_name, .ref a_first, .ref a_many, .ref a_part, .ref a_number, .int a_size, .int a_parts])), (a_kind, .inl (cs 0, a_kind_n, .inl a_kind_f)), (a_name, .inl (cs 0, a_name_n, .inl a_name_f)), (a_many, .inl (cs 0, a_many_n, .inl a_many_f))] s.heap := hP
  have hl := lv_entry ([.ref a, .int nm]) (n := 2) (Nat.le_of_ble_eq_true rfl)
  rw [lg_entry_eq]
  generalize (lg_sl ([.ref a, .int nm]) ++ List.replicate (2 - (lg_sl ([.ref a, .int nm])).length) Slot.unset).toArray = ls at hl ⊢
  have hl : lv_has ls 2 [(0, .ref a), (1, .int nm)] := hl
  refine gq (fun Q hQ => ?_)
  obtain ⟨H, hH⟩ : ∃ H : Heap, H = s.heap := ⟨_, rfl⟩
  rw [← hH] at hP
  have hS : va_S A s.heap H [] := by rw [hH]; exact hS
  refine W.eqH hH ?_
  obtain ⟨locs, hlc⟩ : ∃ L : List Loc, L = [] := ⟨_, rfl⟩
  rw [← hlc] at hS ⊢
  unfold p_MoTerms_atom at hok
  refine lv_aload_n hx hb d_MoTerms_atom_0 rfl (lv_at hl 0 rfl) ?_
  refine va_get (D := g) (ci := 11) (v := .ref a_kind) (C := R_MoTerms) (T := F_MoTerms) (N := 8) hx hb hg ul_MoTerms hown hK hP 0 rfl rfl 0 (by decide) (hg _ wd_698) (fun _ h9 => h9) rfl d_MoTerms_atom_1 ?_
  refine lv_aload_n hx hb d_MoTerms_atom_4 rfl (lv_at hl 0 rfl) ?_
  refine va_get (D := g) (ci := 11) (v := .int a_size) (C := R_MoTerms) (T := F_MoTerms) (N := 8) hx hb hg ul_MoTerms hown hK hP 0 rfl rfl 6 (by decide) (hg _ wd_704) (fun _ h9 => h9) rfl d_MoTerms_atom_5 ?_
  refine lv_iconst (v := 2) hx hb d_MoTerms_atom_8 (by decide) ?_
  obtain ⟨hi1, hok⟩ := ck_some hok
  refine va_iast hx hb hK hP hD hS 1 0 rfl rfl (ixb_in hi1) d_MoTerms_atom_9 (fun H locs hP hD hS => ?_)
  obtain ⟨hP, hD⟩ : PD g A H [(a, .inr (11, [.ref a_kind, .ref a_name, .ref a_first, .ref a_many, .ref a_part, .ref a_number, .int a_size, .int a_parts])), (a_kind, .inl (cs 0, a_kind_n, .inl (upd a_kind_f a_size.toNatClampNeg 2))), (a_name, .inl (cs 0, a_name_n, .inl a_name_f)), (a_many, .inl (cs 0, a_many_n, .inl a_many_f))] := ⟨hP, hD⟩
  refine lv_aload_n hx hb d_MoTerms_atom_10 rfl (lv_at hl 0 rfl) ?_
  refine va_get (D := g) (ci := 11) (v := .ref a_name) (C := R_MoTerms) (T := F_MoTerms) (N := 8) hx hb hg ul_MoTerms hown hK hP 0 rfl rfl 1 (by decide) (hg _ wd_699) (fun _ h9 => h9) rfl d_MoTerms_atom_11 ?_
  refine lv_aload_n hx hb d_MoTerms_atom_14 rfl (lv_at hl 0 rfl) ?_
  refine va_get (D := g) (ci := 11) (v := .int a_size) (C := R_MoTerms) (T := F_MoTerms) (N := 8) hx hb hg ul_MoTerms hown hK hP 0 rfl rfl 6 (by decide) (hg _ wd_704) (fun _ h9 => h9) rfl d_MoTerms_atom_15 ?_
  refine lv_iload_n hx hb d_MoTerms_atom_18 rfl (lv_at hl 1 rfl) ?_
  obtain ⟨hi2, hok⟩ := ck_some hok
  refine va_iast hx hb hK hP hD hS 2 0 rfl rfl (ixb_in hi2) d_MoTerms_atom_19 (fun H locs hP hD hS => ?_)
  obtain ⟨hP, hD⟩ : PD g A H [(a, .inr (11, [.ref a_kind, .ref a_name, .ref a_first, .ref a_many, .ref a_part, .ref a_number, .int a_size, .int a_parts])), (a_kind, .inl (cs 0, a_kind_n, .inl (upd a_kind_f a_size.toNatClampNeg 2))), (a_name, .inl (cs 0, a_name_n, .inl (upd a_name_f a_size.toNatClampNeg nm))), (a_many, .inl (cs 0, a_many_n, .inl a_many_f))] := ⟨hP, hD⟩
  refine lv_aload_n hx hb d_MoTerms_atom_20 rfl (lv_at hl 0 rfl) ?_
  refine va_get (D := g) (ci := 11) (v := .ref a_many) (C := R_MoTerms) (T := F_MoTerms) (N := 8) hx hb hg ul_MoTerms hown hK hP 0 rfl rfl 3 (by decide) (hg _ wd_701) (fun _ h9 => h9) rfl d_MoTerms_atom_21 ?_
  refine lv_aload_n hx hb d_MoTerms_atom_24 rfl (lv_at hl 0 rfl) ?_
  refine va_get (D := g) (ci := 11) (v := .int a_size) (C := R_MoTerms) (T := F_MoTerms) (N := 8) hx hb hg ul_MoTerms hown hK hP 0 rfl rfl 6 (by decide) (hg _ wd_704) (fun _ h9 => h9) rfl d_MoTerms_atom_25 ?_
  refine lv_iconst (v := 0) hx hb d_MoTerms_atom_28 (by decide) ?_
  obtain ⟨hi3, hok⟩ := ck_some hok
  refine va_iast hx hb hK hP hD hS 3 0 rfl rfl (ixb_in hi3) d_MoTerms_atom_29 (fun H locs hP hD hS => ?_)
  obtain ⟨hP, hD⟩ : PD g A H [(a, .inr (11, [.ref a_kind, .ref a_name, .ref a_first, .ref a_many, .ref a_part, .ref a_number, .int a_size, .int a_parts])), (a_kind, .inl (cs 0, a_kind_n, .inl (upd a_kind_f a_size.toNatClampNeg 2))), (a_name, .inl (cs 0, a_name_n, .inl (upd a_name_f a_size.toNatClampNeg nm))), (a_many, .inl (cs 0, a_many_n, .inl (upd a_many_f a_size.toNatClampNeg 0)))] := ⟨hP, hD⟩
  refine lv_aload_n hx hb d_MoTerms_atom_30 rfl (lv_at hl 0 rfl) ?_
  refine lv_dup hx hb d_MoTerms_atom_31 rfl ?_
  refine va_get (D := g) (ci := 11) (v := .int a_size) (C := R_MoTerms) (T := F_MoTerms) (N := 8) hx hb hg ul_MoTerms hown hK hP 0 rfl rfl 6 (by decide) (hg _ wd_704) (fun _ h9 => h9) rfl d_MoTerms_atom_32 ?_
  refine lv_dup_x1 hx hb d_MoTerms_atom_35 rfl rfl ?_
  refine lv_iconst (v := 1) hx hb d_MoTerms_atom_36 (by decide) ?_
  refine lv_iadd hx hb d_MoTerms_atom_37 ?_
  refine va_put (D := g) (ci := 11) (v := .int (a_size + 1)) (ty := .int) (C := R_MoTerms) (T := F_MoTerms) (N := 8) hx hb hg ul_MoTerms t_MoTerms tk_MoTerms n_MoTerms hown hK hP hD hS 0 rfl rfl 6 (by decide) (hg _ wd_704) (fun _ h9 => h9) rfl (by decide +kernel) rfl rfl (Nat.le_of_ble_eq_true rfl) d_MoTerms_atom_38 (fun H locs hP hD hS => ?_)
  obtain ⟨hP, hD⟩ : PD g A H [(a, .inr (11, [.ref a_kind, .ref a_name, .ref a_first, .ref a_many, .ref a_part, .ref a_number, .int (a_size + 1), .int a_parts])), (a_kind, .inl (cs 0, a_kind_n, .inl (upd a_kind_f a_size.toNatClampNeg 2))), (a_name, .inl (cs 0, a_name_n, .inl (upd a_name_f a_size.toNatClampNeg nm))), (a_many, .inl (cs 0, a_many_n, .inl (upd a_many_f a_size.toNatClampNeg 0)))] := ⟨hP, hD⟩
  have hq := Option.some.inj hok
  obtain ⟨hq0, hq⟩ := Prod.mk.inj hq
  obtain ⟨hq1, hq⟩ := Prod.mk.inj hq
  obtain ⟨hq2, hq⟩ := Prod.mk.inj hq
  obtain ⟨hq3, hq⟩ := Prod.mk.inj hq
  have hq4 := hq
  subst hq0
  subst hq1
  subst hq2
  subst hq3
  subst hq4
  obtain ⟨hP9, hD9⟩ := sub2 (ws' := [(a, .inr (11, [.ref a_kind, .ref a_name, .ref a_first, .ref a_many, .ref a_part, .ref a_number, .int (a_size + 1), .int a_parts])), (a_kind, .inl (cs 0, a_kind_n, .inl (upd a_kind_f a_size.toNatClampNeg 2))), (a_name, .inl (cs 0, a_name_n, .inl (upd a_name_f a_size.toNatClampNeg nm))), (a_many, .inl (cs 0, a_many_n, .inl (upd a_many_f a_size.toNatClampNeg 0)))]) hP hD [0, 1, 2, 3] rfl (by decide) rfl
  rw [hQ]
  exact W.iret (v := a_size) hx hb hr (fun t ht hW => ⟨⟨_, (), rfl, rfl, by rw [ht]; exact hP9, hD9⟩, hS.F ht⟩) hS.2.2 d_MoTerms_atom_41

theorem d_MoTerms_compound_0 : decode b_MoTerms_compound 0 = .ok (.aload_n 0, 1) := by decide +kernel
theorem d_MoTerms_compound_1 : decode b_MoTerms_compound 1 = .ok (.getfield 10, 3) := by decide +kernel
theorem d_MoTerms_compound_4 : decode b_MoTerms_compound 4 = .ok (.aload_n 0, 1) := by decide +kernel
theorem d_MoTerms_compound_5 : decode b_MoTerms_compound 5 = .ok (.getfield 32, 3) := by decide +kernel
theorem d_MoTerms_compound_8 : decode b_MoTerms_compound 8 = .ok (.iconst 2, 1) := by decide +kernel
theorem d_MoTerms_compound_9 : decode b_MoTerms_compound 9 = .ok (.iastore, 1) := by decide +kernel
theorem d_MoTerms_compound_10 : decode b_MoTerms_compound 10 = .ok (.aload_n 0, 1) := by decide +kernel
theorem d_MoTerms_compound_11 : decode b_MoTerms_compound 11 = .ok (.getfield 16, 3) := by decide +kernel
theorem d_MoTerms_compound_14 : decode b_MoTerms_compound 14 = .ok (.aload_n 0, 1) := by decide +kernel
theorem d_MoTerms_compound_15 : decode b_MoTerms_compound 15 = .ok (.getfield 32, 3) := by decide +kernel
theorem d_MoTerms_compound_18 : decode b_MoTerms_compound 18 = .ok (.iload_n 1, 1) := by decide +kernel
theorem d_MoTerms_compound_19 : decode b_MoTerms_compound 19 = .ok (.iastore, 1) := by decide +kernel
theorem d_MoTerms_compound_20 : decode b_MoTerms_compound 20 = .ok (.aload_n 0, 1) := by decide +kernel
theorem d_MoTerms_compound_21 : decode b_MoTerms_compound 21 = .ok (.getfield 22, 3) := by decide +kernel
theorem d_MoTerms_compound_24 : decode b_MoTerms_compound 24 = .ok (.aload_n 0, 1) := by decide +kernel
theorem d_MoTerms_compound_25 : decode b_MoTerms_compound 25 = .ok (.getfield 32, 3) := by decide +kernel
theorem d_MoTerms_compound_28 : decode b_MoTerms_compound 28 = .ok (.iload 4, 2) := by decide +kernel
theorem d_MoTerms_compound_30 : decode b_MoTerms_compound 30 = .ok (.iastore, 1) := by decide +kernel
theorem d_MoTerms_compound_31 : decode b_MoTerms_compound 31 = .ok (.aload_n 0, 1) := by decide +kernel
theorem d_MoTerms_compound_32 : decode b_MoTerms_compound 32 = .ok (.getfield 19, 3) := by decide +kernel
theorem d_MoTerms_compound_35 : decode b_MoTerms_compound 35 = .ok (.aload_n 0, 1) := by decide +kernel
theorem d_MoTerms_compound_36 : decode b_MoTerms_compound 36 = .ok (.getfield 32, 3) := by decide +kernel
theorem d_MoTerms_compound_39 : decode b_MoTerms_compound 39 = .ok (.aload_n 0, 1) := by decide +kernel
theorem d_MoTerms_compound_40 : decode b_MoTerms_compound 40 = .ok (.getfield 36, 3) := by decide +kernel
theorem d_MoTerms_compound_43 : decode b_MoTerms_compound 43 = .ok (.iastore, 1) := by decide +kernel
theorem d_MoTerms_compound_44 : decode b_MoTerms_compound 44 = .ok (.iconst 0, 1) := by decide +kernel
theorem d_MoTerms_compound_45 : decode b_MoTerms_compound 45 = .ok (.istore 5, 2) := by decide +kernel
theorem d_MoTerms_compound_47 : decode b_MoTerms_compound 47 = .ok (.iload 5, 2) := by decide +kernel
theorem d_MoTerms_compound_49 : decode b_MoTerms_compound 49 = .ok (.iload 4, 2) := by decide +kernel
theorem d_MoTerms_compound_51 : decode b_MoTerms_compound 51 = .ok (.if_icmp .ge 34, 3) := by decide +kernel
theorem d_MoTerms_compound_54 : decode b_MoTerms_compound 54 = .ok (.aload_n 0, 1) := by decide +kernel
theorem d_MoTerms_compound_55 : decode b_MoTerms_compound 55 = .ok (.getfield 25, 3) := by decide +kernel
theorem d_MoTerms_compound_58 : decode b_MoTerms_compound 58 = .ok (.aload_n 0, 1) := by decide +kernel
theorem d_MoTerms_compound_59 : decode b_MoTerms_compound 59 = .ok (.getfield 36, 3) := by decide +kernel
theorem d_MoTerms_compound_62 : decode b_MoTerms_compound 62 = .ok (.aload_n 2, 1) := by decide +kernel
theorem d_MoTerms_compound_63 : decode b_MoTerms_compound 63 = .ok (.iload_n 3, 1) := by decide +kernel
theorem d_MoTerms_compound_64 : decode b_MoTerms_compound 64 = .ok (.iload 5, 2) := by decide +kernel
theorem d_MoTerms_compound_66 : decode b_MoTerms_compound 66 = .ok (.iadd, 1) := by decide +kernel
theorem d_MoTerms_compound_67 : decode b_MoTerms_compound 67 = .ok (.iaload, 1) := by decide +kernel
theorem d_MoTerms_compound_68 : decode b_MoTerms_compound 68 = .ok (.iastore, 1) := by decide +kernel
theorem d_MoTerms_compound_69 : decode b_MoTerms_compound 69 = .ok (.aload_n 0, 1) := by decide +kernel
theorem d_MoTerms_compound_70 : decode b_MoTerms_compound 70 = .ok (.dup, 1) := by decide +kernel
theorem d_MoTerms_compound_71 : decode b_MoTerms_compound 71 = .ok (.getfield 36, 3) := by decide +kernel
theorem d_MoTerms_compound_74 : decode b_MoTerms_compound 74 = .ok (.iconst 1, 1) := by decide +kernel
theorem d_MoTerms_compound_75 : decode b_MoTerms_compound 75 = .ok (.iadd, 1) := by decide +kernel
theorem d_MoTerms_compound_76 : decode b_MoTerms_compound 76 = .ok (.putfield 36, 3) := by decide +kernel
theorem d_MoTerms_compound_79 : decode b_MoTerms_compound 79 = .ok (.iinc 5 1, 3) := by decide +kernel
theorem d_MoTerms_compound_82 : decode b_MoTerms_compound 82 = .ok (.goto (-35), 3) := by decide +kernel
theorem d_MoTerms_compound_85 : decode b_MoTerms_compound 85 = .ok (.aload_n 0, 1) := by decide +kernel
theorem d_MoTerms_compound_86 : decode b_MoTerms_compound 86 = .ok (.dup, 1) := by decide +kernel
theorem d_MoTerms_compound_87 : decode b_MoTerms_compound 87 = .ok (.getfield 32, 3) := by decide +kernel
theorem d_MoTerms_compound_90 : decode b_MoTerms_compound 90 = .ok (.dup_x1, 1) := by decide +kernel
theorem d_MoTerms_compound_91 : decode b_MoTerms_compound 91 = .ok (.iconst 1, 1) := by decide +kernel
theorem d_MoTerms_compound_92 : decode b_MoTerms_compound 92 = .ok (.iadd, 1) := by decide +kernel
theorem d_MoTerms_compound_93 : decode b_MoTerms_compound 93 = .ok (.putfield 32, 3) := by decide +kernel
theorem d_MoTerms_compound_96 : decode b_MoTerms_compound 96 = .ok (.ireturn, 1) := by decide +kernel
def p_MoTerms_compound_47 (n : Nat) (nm : Int32) (from_ : Int32) (count : Int32) (a_size : Int32) (a_parts : Int32) (a_kind_f : Nat → Int32) (a_name_f : Nat → Int32) (a_first_f : Nat → Int32) (a_many_f : Nat → Int32) (a_part_n : Nat) (of_n : Nat) (of_f : Nat → Int32) (kf5 : Nat) (x5_5 : Int32) (a_parts_5 : Int32) (a_part_5f : Nat → Int32) : Option (Int32 × Int32 × Int32 × (Nat → Int32) × (Nat → Int32) × (Nat → Int32) × (Nat → Int32) × (Nat → Int32)) := match kf5 with
  | 0 => none
  | kf5 + 1 => if count ≤ x5_5 then (some (a_size, a_size + 1, a_parts_5, upd a_kind_f a_size.toNatClampNeg 2, upd a_name_f a_size.toNatClampNeg nm, upd a_first_f a_size.toNatClampNeg a_parts, upd a_many_f a_size.toNatClampNeg count, a_part_5f)) else (ck (ixb (from_ + x5_5) of_n) (ck (ixb a_parts_5 a_part_n) (p_MoTerms_compound_47 n nm from_ count a_size a_parts a_kind_f a_name_f a_first_f a_many_f a_part_n of_n of_f kf5 (x5_5 + 1) (a_parts_5 + 1) (upd a_part_5f a_parts_5.toNatClampNeg (of_f (from_ + x5_5).toNatClampNeg)))))
def p_MoTerms_compound (n : Nat) (nm : Int32) (from_ : Int32) (count : Int32) (a_size : Int32) (a_parts : Int32) (a_kind_n : Nat) (a_kind_f : Nat → Int32) (a_name_n : Nat) (a_name_f : Nat → Int32) (a_first_n : Nat) (a_first_f : Nat → Int32) (a_many_n : Nat) (a_many_f : Nat → Int32) (a_part_n : Nat) (a_part_f : Nat → Int32) (of_n : Nat) (of_f : Nat → Int32) : Option (Int32 × Int32 × Int32 × (Nat → Int32) × (Nat → Int32) × (Nat → Int32) × (Nat → Int32) × (Nat → Int32)) := ck (ixb a_size a_kind_n) (ck (ixb a_size a_name_n) (ck (ixb a_size a_many_n) (ck (ixb a_size a_first_n) (p_MoTerms_compound_47 n nm from_ count a_size a_parts a_kind_f a_name_f a_first_f a_many_f a_part_n of_n of_f n (0 : Int32) a_parts a_part_f))))
set_option maxHeartbeats 4000000 in
set_option maxRecDepth 100000 in
theorem c_MoTerms_compound (l : Launch) (g : va_G) (cs : Nat → ClassId) (ka : Nat → Nat) (a_number : Nat) (a a_kind a_name a_first a_many a_part of : Nat) (sz : Nat) (n : Nat) (nm : Int32) (from_ : Int32) (count : Int32) (a_size : Int32) (a_parts : Int32) (a_kind_n : Nat) (a_kind_f : Nat → Int32) (a_name_n : Nat) (a_name_f : Nat → Int32) (a_first_n : Nat) (a_first_f : Nat → Int32) (a_many_n : Nat) (a_many_f : Nat → Int32) (a_part_n : Nat) (a_part_f : Nat → Int32) (of_n : Nat) (of_f : Nat → Int32) (r : Int32) (o_a_size : Int32) (o_a_parts : Int32) (o_a_kind_f : Nat → Int32) (o_a_name_f : Nat → Int32) (o_a_first_f : Nat → Int32) (o_a_many_f : Nat → Int32) (o_a_part_f : Nat → Int32) (hok : p_MoTerms_compound n nm from_ count a_size a_parts a_kind_n a_kind_f a_name_n a_name_f a_first_n a_first_f a_many_n a_many_f a_part_n a_part_f of_n of_f = some (r, o_a_size, o_a_parts, o_a_kind_f, o_a_name_f, o_a_first_f, o_a_many_f, o_a_part_f)) : Met l y_MoTerms_compound (.code y_MoTerms_compound b_MoTerms_compound 6 (some .int) :: GW) { frames := 0, cells := 0, slots := 0, locals := 0 } (va_Pc [.ref a, .int nm, .ref of, .int from_, .int count] (gP g cs ka [(a, .inr (11, [.ref a_kind, .ref a_name, .ref a_first, .ref a_many, .ref a_part, .ref a_number, .int a_size, .int a_parts])), (a_kind, .inl (cs 0, a_kind_n, .inl a_kind_f)), (a_name, .inl (cs 0, a_name_n, .inl a_name_f)), (a_first, .inl (cs 0, a_first_n, .inl a_first_f)), (a_many, .inl (cs 0, a_many_n, .inl a_many_f)), (a_part, .inl (cs 0, a_part_n, .inl a_part_f)), (of, .inl (cs 0, of_n, .inl of_f))] sz)) (va_Qi (fun (r' : Int32) (_ : Unit) => r = r') (fun _ t => va_P g classes [(a, .inr (11, [.ref a_kind, .ref a_name, .ref a_first, .ref a_many, .ref a_part, .ref a_number, .int o_a_size, .int o_a_parts])), (a_kind, .inl (cs 0, a_kind_n, .inl o_a_kind_f)), (a_name, .inl (cs 0, a_name_n, .inl o_a_name_f)), (a_first, .inl (cs 0, a_first_n, .inl o_a_first_f)), (a_many, .inl (cs 0, a_many_n, .inl o_a_many_f)), (a_part, .inl (cs 0, a_part_n, .inl o_a_part_f)), (of, .inl (cs 0, of_n, .inl of_f))] t.heap ∧ va_D (va_A [(a, .inr (11, [.ref a_kind, .ref a_name, .ref a_first, .ref a_many, .ref a_part, .ref a_number, .int a_size, .int a_parts])), (a_kind, .inl (cs 0, a_kind_n, .inl a_kind_f)), (a_name, .inl (cs 0, a_name_n, .inl a_name_f)), (a_first, .inl (cs 0, a_first_n, .inl a_first_f)), (a_many, .inl (cs 0, a_many_n, .inl a_many_f)), (a_part, .inl (cs 0, a_part_n, .inl a_part_f)), (of, .inl (cs 0, of_n, .inl of_f))] sz) [(a, .inr (11, [.ref a_kind, .ref a_name, .ref a_first, .ref a_many, .ref a_part, .ref a_number, .int o_a_size, .int o_a_parts])), (a_kind, .inl (cs 0, a_kind_n, .inl o_a_kind_f)), (a_name, .inl (cs 0, a_name_n, .inl o_a_name_f)), (a_first, .inl (cs 0, a_first_n, .inl o_a_first_f)), (a_many, .inl (cs 0, a_many_n, .inl o_a_many_f)), (a_part, .inl (cs 0, a_part_n, .inl o_a_part_f)), (of, .inl (cs 0, of_n, .inl of_f))]) (va_A [(a, .inr (11, [.ref a_kind, .ref a_name, .ref a_first, .ref a_many, .ref a_part, .ref a_number, .int a_size, .int a_parts])), (a_kind, .inl (cs 0, a_kind_n, .inl a_kind_f)), (a_name, .inl (cs 0, a_name_n, .inl a_name_f)), (a_first, .inl (cs 0, a_first_n, .inl a_first_f)), (a_many, .inl (cs 0, a_many_n, .inl a_many_f)), (a_part, .inl (cs 0, a_part_n, .inl a_part_f)), (of, .inl (cs 0, of_n, .inl of_f))] sz)) 0 0 (va_A [(a, .inr (11, [.ref a_kind, .ref a_name, .ref a_first, .ref a_many, .ref a_part, .ref a_number, .int a_size, .int a_parts])), (a_kind, .inl (cs 0, a_kind_n, .inl a_kind_f)), (a_name, .inl (cs 0, a_name_n, .inl a_name_f)), (a_first, .inl (cs 0, a_first_n, .inl a_first_f)), (a_many, .inl (cs 0, a_many_n, .inl a_many_f)), (a_part, .inl (cs 0, a_part_n, .inl a_part_f)), (of, .inl (cs 0, of_n, .inl of_f))] sz) := by
  refine Met.ofW (cc := b_MoTerms_compound) (maxL := 6) (ret := (some .int)) (by decide) rfl ?_
  intro p e s m args below meth c s₁ B hml hv
  obtain ⟨rfl, hsz, hP, hK, hD0, hgl, hkn, hkr⟩ := hv
  have hx := B.exec
  have hb := B.bytes
  have hr := B.returns
  have hg : ∀ w ∈ GW, w.before ([.ref a, .int nm, .ref of, .int from_, .int count] : List Value).toArray s = true := fun w hw => atoms_spec (ws := .code y_MoTerms_compound b_MoTerms_compound 6 (some .int) :: GW) B.pre w (List.mem_cons_of_mem _ hw)
  have hown : s.vm.findClass R_MoTerms = some m.cls := findClass_of_methodNamed B.named
  have hlocks := B.notSynchronized
  subst hsz
  have hD := hD0.self (sz := s.heap.size)
  generalize hAe : va_A [(a, .inr (11, [.ref a_kind, .ref a_name, .ref a_first, .ref a_many, .ref a_part, .ref a_number, .int a_size, .int a_parts])), (a_kind, .inl (cs 0, a_kind_n, .inl a_kind_f)), (a_name, .inl (cs 0, a_name_n, .inl a_name_f)), (a_first, .inl (cs 0, a_first_n, .inl a_first_f)), (a_many, .inl (cs 0, a_many_n, .inl a_many_f)), (a_part, .inl (cs 0, a_part_n, .inl a_part_f)), (of, .inl (cs 0, of_n, .inl of_f))] s.heap.size = A at hD hkn ⊢
  have hA : ∀ q : Nat, s.heap.size ≤ q → A q := fun q h => by rw [← hAe]; exact Or.inr h
  have hS : va_S A s.heap s.heap [] := va_S.rf
  have hP : va_P g classes [(a, .inr (11, [.ref a_kind, .ref a_name, .ref a_first, .ref a_many, .ref a_part, .ref a_number, .int a_size, .int a_parts])), (a_kind, .inl (cs 0, a_kind_n, .inl a_kind_f)), (a_name, .inl (cs 0, a_name_n, .inl a_name_f)), (a_first, .inl (cs 0, a_first_n, .inl a_first_f)), (a_many, .inl (cs 0, a_many_n, .inl a_many_f)), (a_part, .inl (cs 0, a_part_n, .inl a_part_f)), (of, .inl (cs 0, of_n, .inl of_f))] s.heap := hP
  have hl := lv_entry ([.ref a, .int nm, .ref of, .int from_, .int count]) (n := 6) (Nat.le_of_ble_eq_true rfl)
  rw [lg_entry_eq]
  generalize (lg_sl ([.ref a, .int nm, .ref of, .int from_, .int count]) ++ List.replicate (6 - (lg_sl ([.ref a, .int nm, .ref of, .int from_, .int count])).length) Slot.unset).toArray = ls at hl ⊢
  have hl : lv_has ls 6 [(0, .ref a), (1, .int nm), (2, .ref of), (3, .int from_), (4, .int count)] := hl
  refine gq (fun Q hQ => ?_)
  obtain ⟨H, hH⟩ : ∃ H : Heap, H = s.heap := ⟨_, rfl⟩
  rw [← hH] at hP
  have hS : va_S A s.heap H [] := by rw [hH]; exact hS
  refine W.eqH hH ?_
  obtain ⟨locs, hlc⟩ : ∃ L : List Loc, L = [] := ⟨_, rfl⟩
  rw [← hlc] at hS ⊢
  unfold p_MoTerms_compound at hok
  refine lv_aload_n hx hb d_MoTerms_compound_0 rfl (lv_at hl 0 rfl) ?_
  refine va_get (D := g) (ci := 11) (v := .ref a_kind) (C := R_MoTerms) (T := F_MoTerms) (N := 8) hx hb hg ul_MoTerms hown hK hP 0 rfl rfl 0 (by decide) (hg _ wd_698) (fun _ h9 => h9) rfl d_MoTerms_compound_1 ?_
  refine lv_aload_n hx hb d_MoTerms_compound_4 rfl (lv_at hl 0 rfl) ?_
  refine va_get (D := g) (ci := 11) (v := .int a_size) (C := R_MoTerms) (T := F_MoTerms) (N := 8) hx hb hg ul_MoTerms hown hK hP 0 rfl rfl 6 (by decide) (hg _ wd_704) (fun _ h9 => h9) rfl d_MoTerms_compound_5 ?_
  refine lv_iconst (v := 2) hx hb d_MoTerms_compound_8 (by decide) ?_
  obtain ⟨hi1, hok⟩ := ck_some hok
  refine va_iast hx hb hK hP hD hS 1 0 rfl rfl (ixb_in hi1) d_MoTerms_compound_9 (fun H locs hP hD hS => ?_)
  obtain ⟨hP, hD⟩ : PD g A H [(a, .inr (11, [.ref a_kind, .ref a_name, .ref a_first, .ref a_many, .ref a_part, .ref a_number, .int a_size, .int a_parts])), (a_kind, .inl (cs 0, a_kind_n, .inl (upd a_kind_f a_size.toNatClampNeg 2))), (a_name, .inl (cs 0, a_name_n, .inl a_name_f)), (a_first, .inl (cs 0, a_first_n, .inl a_first_f)), (a_many, .inl (cs 0, a_many_n, .inl a_many_f)), (a_part, .inl (cs 0, a_part_n, .inl a_part_f)), (of, .inl (cs 0, of_n, .inl of_f))] := ⟨hP, hD⟩
  refine lv_aload_n hx hb d_MoTerms_compound_10 rfl (lv_at hl 0 rfl) ?_
  refine va_get (D := g) (ci := 11) (v := .ref a_name) (C := R_MoTerms) (T := F_MoTerms) (N := 8) hx hb hg ul_MoTerms hown hK hP 0 rfl rfl 1 (by decide) (hg _ wd_699) (fun _ h9 => h9) rfl d_MoTerms_compound_11 ?_
  refine lv_aload_n hx hb d_MoTerms_compound_14 rfl (lv_at hl 0 rfl) ?_
  refine va_get (D := g) (ci := 11) (v := .int a_size) (C := R_MoTerms) (T := F_MoTerms) (N := 8) hx hb hg ul_MoTerms hown hK hP 0 rfl rfl 6 (by decide) (hg _ wd_704) (fun _ h9 => h9) rfl d_MoTerms_compound_15 ?_
  refine lv_iload_n hx hb d_MoTerms_compound_18 rfl (lv_at hl 1 rfl) ?_
  obtain ⟨hi2, hok⟩ := ck_some hok
  refine va_iast hx hb hK hP hD hS 2 0 rfl rfl (ixb_in hi2) d_MoTerms_compound_19 (fun H locs hP hD hS => ?_)
  obtain ⟨hP, hD⟩ : PD g A H [(a, .inr (11, [.ref a_kind, .ref a_name, .ref a_first, .ref a_many, .ref a_part, .ref a_number, .int a_size, .int a_parts])), (a_kind, .inl (cs 0, a_kind_n, .inl (upd a_kind_f a_size.toNatClampNeg 2))), (a_name, .inl (cs 0, a_name_n, .inl (upd a_name_f a_size.toNatClampNeg nm))), (a_first, .inl (cs 0, a_first_n, .inl a_first_f)), (a_many, .inl (cs 0, a_many_n, .inl a_many_f)), (a_part, .inl (cs 0, a_part_n, .inl a_part_f)), (of, .inl (cs 0, of_n, .inl of_f))] := ⟨hP, hD⟩
  refine lv_aload_n hx hb d_MoTerms_compound_20 rfl (lv_at hl 0 rfl) ?_
  refine va_get (D := g) (ci := 11) (v := .ref a_many) (C := R_MoTerms) (T := F_MoTerms) (N := 8) hx hb hg ul_MoTerms hown hK hP 0 rfl rfl 3 (by decide) (hg _ wd_701) (fun _ h9 => h9) rfl d_MoTerms_compound_21 ?_
  refine lv_aload_n hx hb d_MoTerms_compound_24 rfl (lv_at hl 0 rfl) ?_
  refine va_get (D := g) (ci := 11) (v := .int a_size) (C := R_MoTerms) (T := F_MoTerms) (N := 8) hx hb hg ul_MoTerms hown hK hP 0 rfl rfl 6 (by decide) (hg _ wd_704) (fun _ h9 => h9) rfl d_MoTerms_compound_25 ?_
  refine lv_iload hx hb d_MoTerms_compound_28 (lv_at hl 4 rfl) ?_
  obtain ⟨hi3, hok⟩ := ck_some hok
  refine va_iast hx hb hK hP hD hS 4 0 rfl rfl (ixb_in hi3) d_MoTerms_compound_30 (fun H locs hP hD hS => ?_)
  obtain ⟨hP, hD⟩ : PD g A H [(a, .inr (11, [.ref a_kind, .ref a_name, .ref a_first, .ref a_many, .ref a_part, .ref a_number, .int a_size, .int a_parts])), (a_kind, .inl (cs 0, a_kind_n, .inl (upd a_kind_f a_size.toNatClampNeg 2))), (a_name, .inl (cs 0, a_name_n, .inl (upd a_name_f a_size.toNatClampNeg nm))), (a_first, .inl (cs 0, a_first_n, .inl a_first_f)), (a_many, .inl (cs 0, a_many_n, .inl (upd a_many_f a_size.toNatClampNeg count))), (a_part, .inl (cs 0, a_part_n, .inl a_part_f)), (of, .inl (cs 0, of_n, .inl of_f))] := ⟨hP, hD⟩
  refine lv_aload_n hx hb d_MoTerms_compound_31 rfl (lv_at hl 0 rfl) ?_
  refine va_get (D := g) (ci := 11) (v := .ref a_first) (C := R_MoTerms) (T := F_MoTerms) (N := 8) hx hb hg ul_MoTerms hown hK hP 0 rfl rfl 2 (by decide) (hg _ wd_700) (fun _ h9 => h9) rfl d_MoTerms_compound_32 ?_
  refine lv_aload_n hx hb d_MoTerms_compound_35 rfl (lv_at hl 0 rfl) ?_
  refine va_get (D := g) (ci := 11) (v := .int a_size) (C := R_MoTerms) (T := F_MoTerms) (N := 8) hx hb hg ul_MoTerms hown hK hP 0 rfl rfl 6 (by decide) (hg _ wd_704) (fun _ h9 => h9) rfl d_MoTerms_compound_36 ?_
  refine lv_aload_n hx hb d_MoTerms_compound_39 rfl (lv_at hl 0 rfl) ?_
  refine va_get (D := g) (ci := 11) (v := .int a_parts) (C := R_MoTerms) (T := F_MoTerms) (N := 8) hx hb hg ul_MoTerms hown hK hP 0 rfl rfl 7 (by decide) (hg _ wd_705) (fun _ h9 => h9) rfl d_MoTerms_compound_40 ?_
  obtain ⟨hi4, hok⟩ := ck_some hok
  refine va_iast hx hb hK hP hD hS 3 0 rfl rfl (ixb_in hi4) d_MoTerms_compound_43 (fun H locs hP hD hS => ?_)
  obtain ⟨hP, hD⟩ : PD g A H [(a, .inr (11, [.ref a_kind, .ref a_name, .ref a_first, .ref a_many, .ref a_part, .ref a_number, .int a_size, .int a_parts])), (a_kind, .inl (cs 0, a_kind_n, .inl (upd a_kind_f a_size.toNatClampNeg 2))), (a_name, .inl (cs 0, a_name_n, .inl (upd a_name_f a_size.toNatClampNeg nm))), (a_first, .inl (cs 0, a_first_n, .inl (upd a_first_f a_size.toNatClampNeg a_parts))), (a_many, .inl (cs 0, a_many_n, .inl (upd a_many_f a_size.toNatClampNeg count))), (a_part, .inl (cs 0, a_part_n, .inl a_part_f)), (of, .inl (cs 0, of_n, .inl of_f))] := ⟨hP, hD⟩
  refine lv_iconst (v := 0) hx hb d_MoTerms_compound_44 (by decide) ?_
  refine lv_istore hx hb d_MoTerms_compound_45 hl (by decide) rfl (fun ls hl => ?_)
  have hl : lv_has ls 6 [(5, .int 0), (0, .ref a), (1, .int nm), (2, .ref of), (3, .int from_), (4, .int count)] := hl
  have J5 : ∀ (kf5 : Nat) (H : Heap) (locs : List Loc) (ls : Array Slot) (x5_5 : Int32) (a_parts_5 : Int32) (a_part_5f : Nat → Int32), lv_has ls 6 [(5, .int x5_5), (0, .ref a), (1, .int nm), (2, .ref of), (3, .int from_), (4, .int count)] → PD g A H [(a, .inr (11, [.ref a_kind, .ref a_name, .ref a_first, .ref a_many, .ref a_part, .ref a_number, .int a_size, .int a_parts_5])), (a_kind, .inl (cs 0, a_kind_n, .inl (upd a_kind_f a_size.toNatClampNeg 2))), (a_name, .inl (cs 0, a_name_n, .inl (upd a_name_f a_size.toNatClampNeg nm))), (a_first, .inl (cs 0, a_first_n, .inl (upd a_first_f a_size.toNatClampNeg a_parts))), (a_many, .inl (cs 0, a_many_n, .inl (upd a_many_f a_size.toNatClampNeg count))), (a_part, .inl (cs 0, a_part_n, .inl a_part_5f)), (of, .inl (cs 0, of_n, .inl of_f))] → va_S A s.heap H locs → p_MoTerms_compound_47 n nm from_ count a_size a_parts a_kind_f a_name_f a_first_f a_many_f a_part_n of_n of_f kf5 x5_5 a_parts_5 a_part_5f = some (r, o_a_size, o_a_parts, o_a_kind_f, o_a_name_f, o_a_first_f, o_a_many_f, o_a_part_f) → W p l e (headSpec (.code y_MoTerms_compound b_MoTerms_compound 6 (some .int) :: GW) { frames := 0, cells := 0, slots := 0, locals := 0 }).room s m ([.ref a, .int nm, .ref of, .int from_, .int count] : List Value).toArray below meth c H locs 0 0 Q (F0 m 47 ls []) := by
    intro kf5
    induction kf5 with
    | zero => intro H locs ls x5_5 a_parts_5 a_part_5f hl ⟨hP, hD⟩ hS hok; rw [p_MoTerms_compound_47] at hok; cases hok
    | succ kf5 ih5 =>
      intro H locs ls x5_5 a_parts_5 a_part_5f hl ⟨hP, hD⟩ hS hok
      rw [p_MoTerms_compound_47] at hok
      refine lv_iload hx hb d_MoTerms_compound_47 (lv_at hl 0 rfl) ?_
      refine lv_iload hx hb d_MoTerms_compound_49 (lv_at hl 5 rfl) ?_
      refine lv_icmp_ge hx hb d_MoTerms_compound_51 rfl (fun h6 => ?_) (fun h6 => ?_)
      · rw [if_pos h6] at hok
        refine lv_aload_n hx hb d_MoTerms_compound_85 rfl (lv_at hl 1 rfl) ?_
        refine lv_dup hx hb d_MoTerms_compound_86 rfl ?_
        refine va_get (D := g) (ci := 11) (v := .int a_size) (C := R_MoTerms) (T := F_MoTerms) (N := 8) hx hb hg ul_MoTerms hown hK hP 0 rfl rfl 6 (by decide) (hg _ wd_704) (fun _ h9 => h9) rfl d_MoTerms_compound_87 ?_
        refine lv_dup_x1 hx hb d_MoTerms_compound_90 rfl rfl ?_
        refine lv_iconst (v := 1) hx hb d_MoTerms_compound_91 (by decide) ?_
        refine lv_iadd hx hb d_MoTerms_compound_92 ?_
        refine va_put (D := g) (ci := 11) (v := .int (a_size + 1)) (ty := .int) (C := R_MoTerms) (T := F_MoTerms) (N := 8) hx hb hg ul_MoTerms t_MoTerms tk_MoTerms n_MoTerms hown hK hP hD hS 0 rfl rfl 6 (by decide) (hg _ wd_704) (fun _ h9 => h9) rfl (by decide +kernel) rfl rfl (Nat.le_of_ble_eq_true rfl) d_MoTerms_compound_93 (fun H locs hP hD hS => ?_)
        obtain ⟨hP, hD⟩ : PD g A H [(a, .inr (11, [.ref a_kind, .ref a_name, .ref a_first, .ref a_many, .ref a_part, .ref a_number, .int (a_size + 1), .int a_parts_5])), (a_kind, .inl (cs 0, a_kind_n, .inl (upd a_kind_f a_size.toNatClampNeg 2))), (a_name, .inl (cs 0, a_name_n, .inl (upd a_name_f a_size.toNatClampNeg nm))), (a_first, .inl (cs 0, a_first_n, .inl (upd a_first_f a_size.toNatClampNeg a_parts))), (a_many, .inl (cs 0, a_many_n, .inl (upd a_many_f a_size.toNatClampNeg count))), (a_part, .inl (cs 0, a_part_n, .inl a_part_5f)), (of, .inl (cs 0, of_n, .inl of_f))] := ⟨hP, hD⟩
        have hq := Option.some.inj hok
        obtain ⟨hq0, hq⟩ := Prod.mk.inj hq
        obtain ⟨hq1, hq⟩ := Prod.mk.inj hq
        obtain ⟨hq2, hq⟩ := Prod.mk.inj hq
        obtain ⟨hq3, hq⟩ := Prod.mk.inj hq
        obtain ⟨hq4, hq⟩ := Prod.mk.inj hq
        obtain ⟨hq5, hq⟩ := Prod.mk.inj hq
        obtain ⟨hq6, hq⟩ := Prod.mk.inj hq
        have hq7 := hq
        subst hq0
        subst hq1
        subst hq2
        subst hq3
        subst hq4
        subst hq5
        subst hq6
        subst hq7
        obtain ⟨hP9, hD9⟩ := sub2 (ws' := [(a, .inr (11, [.ref a_kind, .ref a_name, .ref a_first, .ref a_many, .ref a_part, .ref a_number, .int (a_size + 1), .int a_parts_5])), (a_kind, .inl (cs 0, a_kind_n, .inl (upd a_kind_f a_size.toNatClampNeg 2))), (a_name, .inl (cs 0, a_name_n, .inl (upd a_name_f a_size.toNatClampNeg nm))), (a_first, .inl (cs 0, a_first_n, .inl (upd a_first_f a_size.toNatClampNeg a_parts))), (a_many, .inl (cs 0, a_many_n, .inl (upd a_many_f a_size.toNatClampNeg count))), (a_part, .inl (cs 0, a_part_n, .inl a_part_5f)), (of, .inl (cs 0, of_n, .inl of_f))]) hP hD [0, 1, 2, 3, 4, 5, 6] rfl (by decide) rfl
        rw [hQ]
        exact W.iret (v := a_size) hx hb hr (fun t ht hW => ⟨⟨_, (), rfl, rfl, by rw [ht]; exact hP9, hD9⟩, hS.F ht⟩) hS.2.2 d_MoTerms_compound_96
      · rw [if_neg h6] at hok
        refine lv_aload_n hx hb d_MoTerms_compound_54 rfl (lv_at hl 1 rfl) ?_
        refine va_get (D := g) (ci := 11) (v := .ref a_part) (C := R_MoTerms) (T := F_MoTerms) (N := 8) hx hb hg ul_MoTerms hown hK hP 0 rfl rfl 4 (by decide) (hg _ wd_702) (fun _ h9 => h9) rfl d_MoTerms_compound_55 ?_
        refine lv_aload_n hx hb d_MoTerms_compound_58 rfl (lv_at hl 1 rfl) ?_
        refine va_get (D := g) (ci := 11) (v := .int a_parts_5) (C := R_MoTerms) (T := F_MoTerms) (N := 8) hx hb hg ul_MoTerms hown hK hP 0 rfl rfl 7 (by decide) (hg _ wd_705) (fun _ h9 => h9) rfl d_MoTerms_compound_59 ?_
        refine lv_aload_n hx hb d_MoTerms_compound_62 rfl (lv_at hl 3 rfl) ?_
        refine lv_iload_n hx hb d_MoTerms_compound_63 rfl (lv_at hl 4 rfl) ?_
        refine lv_iload hx hb d_MoTerms_compound_64 (lv_at hl 0 rfl) ?_
        refine lv_iadd hx hb d_MoTerms_compound_66 ?_
        obtain ⟨hi7, hok⟩ := ck_some hok
        refine va_iald hx hb hK hP 6 0 rfl rfl (ixb_in hi7) d_MoTerms_compound_67 ?_
        obtain ⟨hi8, hok⟩ := ck_some hok
        refine va_iast hx hb hK hP hD hS 5 0 rfl rfl (ixb_in hi8) d_MoTerms_compound_68 (fun H locs hP hD hS => ?_)
        obtain ⟨hP, hD⟩ : PD g A H [(a, .inr (11, [.ref a_kind, .ref a_name, .ref a_first, .ref a_many, .ref a_part, .ref a_number, .int a_size, .int a_parts_5])), (a_kind, .inl (cs 0, a_kind_n, .inl (upd a_kind_f a_size.toNatClampNeg 2))), (a_name, .inl (cs 0, a_name_n, .inl (upd a_name_f a_size.toNatClampNeg nm))), (a_first, .inl (cs 0, a_first_n, .inl (upd a_first_f a_size.toNatClampNeg a_parts))), (a_many, .inl (cs 0, a_many_n, .inl (upd a_many_f a_size.toNatClampNeg count))), (a_part, .inl (cs 0, a_part_n, .inl (upd a_part_5f a_parts_5.toNatClampNeg (of_f (from_ + x5_5).toNatClampNeg)))), (of, .inl (cs 0, of_n, .inl of_f))] := ⟨hP, hD⟩
        refine lv_aload_n hx hb d_MoTerms_compound_69 rfl (lv_at hl 1 rfl) ?_
        refine lv_dup hx hb d_MoTerms_compound_70 rfl ?_
        refine va_get (D := g) (ci := 11) (v := .int a_parts_5) (C := R_MoTerms) (T := F_MoTerms) (N := 8) hx hb hg ul_MoTerms hown hK hP 0 rfl rfl 7 (by decide) (hg _ wd_705) (fun _ h9 => h9) rfl d_MoTerms_compound_71 ?_
        refine lv_iconst (v := 1) hx hb d_MoTerms_compound_74 (by decide) ?_
        refine lv_iadd hx hb d_MoTerms_compound_75 ?_
        refine va_put (D := g) (ci := 11) (v := .int (a_parts_5 + 1)) (ty := .int) (C := R_MoTerms) (T := F_MoTerms) (N := 8) hx hb hg ul_MoTerms t_MoTerms tk_MoTerms n_MoTerms hown hK hP hD hS 0 rfl rfl 7 (by decide) (hg _ wd_705) (fun _ h9 => h9) rfl (by decide +kernel) rfl rfl (Nat.le_of_ble_eq_true rfl) d_MoTerms_compound_76 (fun H locs hP hD hS => ?_)
        obtain ⟨hP, hD⟩ : PD g A H [(a, .inr (11, [.ref a_kind, .ref a_name, .ref a_first, .ref a_many, .ref a_part, .ref a_number, .int a_size, .int (a_parts_5 + 1)])), (a_kind, .inl (cs 0, a_kind_n, .inl (upd a_kind_f a_size.toNatClampNeg 2))), (a_name, .inl (cs 0, a_name_n, .inl (upd a_name_f a_size.toNatClampNeg nm))), (a_first, .inl (cs 0, a_first_n, .inl (upd a_first_f a_size.toNatClampNeg a_parts))), (a_many, .inl (cs 0, a_many_n, .inl (upd a_many_f a_size.toNatClampNeg count))), (a_part, .inl (cs 0, a_part_n, .inl (upd a_part_5f a_parts_5.toNatClampNeg (of_f (from_ + x5_5).toNatClampNeg)))), (of, .inl (cs 0, of_n, .inl of_f))] := ⟨hP, hD⟩
        refine lv_iinc (k := 0) (v := x5_5 + 1) hx hb d_MoTerms_compound_79 hl rfl rfl (by decide) rfl (fun ls hl => ?_)
        have hl : lv_has ls 6 [(5, .int (x5_5 + 1)), (0, .ref a), (1, .int nm), (2, .ref of), (3, .int from_), (4, .int count)] := hl
        refine lv_goto hx hb d_MoTerms_compound_82 rfl ?_
        exact ih5 _ _ _ (x5_5 + 1) (a_parts_5 + 1) (upd a_part_5f a_parts_5.toNatClampNeg (of_f (from_ + x5_5).toNatClampNeg)) (lv_sub hl [0, 1, 2, 3, 4, 5] rfl) (sub3 hP hD [0, 1, 2, 3, 4, 5, 6] (by decide)) hS hok
  exact J5 n H locs ls (0 : Int32) a_parts a_part_f hl ⟨hP, hD⟩ hS hok

theorem d_MoTerms_part_0 : decode b_MoTerms_part 0 = .ok (.aload_n 0, 1) := by decide +kernel
theorem d_MoTerms_part_1 : decode b_MoTerms_part 1 = .ok (.getfield 25, 3) := by decide +kernel
theorem d_MoTerms_part_4 : decode b_MoTerms_part 4 = .ok (.aload_n 0, 1) := by decide +kernel
theorem d_MoTerms_part_5 : decode b_MoTerms_part 5 = .ok (.getfield 19, 3) := by decide +kernel
theorem d_MoTerms_part_8 : decode b_MoTerms_part 8 = .ok (.iload_n 1, 1) := by decide +kernel
theorem d_MoTerms_part_9 : decode b_MoTerms_part 9 = .ok (.iaload, 1) := by decide +kernel
theorem d_MoTerms_part_10 : decode b_MoTerms_part 10 = .ok (.iload_n 2, 1) := by decide +kernel
theorem d_MoTerms_part_11 : decode b_MoTerms_part 11 = .ok (.iadd, 1) := by decide +kernel
theorem d_MoTerms_part_12 : decode b_MoTerms_part 12 = .ok (.iaload, 1) := by decide +kernel
theorem d_MoTerms_part_13 : decode b_MoTerms_part 13 = .ok (.ireturn, 1) := by decide +kernel
def p_MoTerms_part (tm : Int32) (i : Int32) (a_size : Int32) (a_parts : Int32) (a_first_n : Nat) (a_first_f : Nat → Int32) (a_part_n : Nat) (a_part_f : Nat → Int32) : Option Int32 := ck (ixb tm a_first_n) (ck (ixb ((a_first_f tm.toNatClampNeg) + i) a_part_n) (some (a_part_f ((a_first_f tm.toNatClampNeg) + i).toNatClampNeg)))
set_option maxHeartbeats 4000000 in
set_option maxRecDepth 100000 in
theorem c_MoTerms_part (l : Launch) (g : va_G) (cs : Nat → ClassId) (ka : Nat → Nat) (a_kind : Nat) (a_name : Nat) (a_many : Nat) (a_number : Nat) (a a_first a_part : Nat) (sz : Nat) (tm : Int32) (i : Int32) (a_size : Int32) (a_parts : Int32) (a_first_n : Nat) (a_first_f : Nat → Int32) (a_part_n : Nat) (a_part_f : Nat → Int32) (r : Int32) (hok : p_MoTerms_part tm i a_size a_parts a_first_n a_first_f a_part_n a_part_f = some r) : Met l y_MoTerms_part (.code y_MoTerms_part b_MoTerms_part 3 (some .int) :: GW) { frames := 0, cells := 0, slots := 0, locals := 0 } (va_Pc [.ref a, .int tm, .int i] (gP g cs ka [(a, .inr (11, [.ref a_kind, .ref a_name, .ref a_first, .ref a_many, .ref a_part, .ref a_number, .int a_size, .int a_parts])), (a_first, .inl (cs 0, a_first_n, .inl a_first_f)), (a_part, .inl (cs 0, a_part_n, .inl a_part_f))] sz)) (va_Qi (fun (r' : Int32) (_ : Unit) => r = r') (fun _ t => va_P g classes [(a, .inr (11, [.ref a_kind, .ref a_name, .ref a_first, .ref a_many, .ref a_part, .ref a_number, .int a_size, .int a_parts])), (a_first, .inl (cs 0, a_first_n, .inl a_first_f)), (a_part, .inl (cs 0, a_part_n, .inl a_part_f))] t.heap ∧ va_D (va_A [(a, .inr (11, [.ref a_kind, .ref a_name, .ref a_first, .ref a_many, .ref a_part, .ref a_number, .int a_size, .int a_parts])), (a_first, .inl (cs 0, a_first_n, .inl a_first_f)), (a_part, .inl (cs 0, a_part_n, .inl a_part_f))] sz) [(a, .inr (11, [.ref a_kind, .ref a_name, .ref a_first, .ref a_many, .ref a_part, .ref a_number, .int a_size, .int a_parts])), (a_first, .inl (cs 0, a_first_n, .inl a_first_f)), (a_part, .inl (cs 0, a_part_n, .inl a_part_f))]) (va_A [(a, .inr (11, [.ref a_kind, .ref a_name, .ref a_first, .ref a_many, .ref a_part, .ref a_number, .int a_size, .int a_parts])), (a_first, .inl (cs 0, a_first_n, .inl a_first_f)), (a_part, .inl (cs 0, a_part_n, .inl a_part_f))] sz)) 0 0 (va_A [(a, .inr (11, [.ref a_kind, .ref a_name, .ref a_first, .ref a_many, .ref a_part, .ref a_number, .int a_size, .int a_parts])), (a_first, .inl (cs 0, a_first_n, .inl a_first_f)), (a_part, .inl (cs 0, a_part_n, .inl a_part_f))] sz) := by
  refine Met.ofW (cc := b_MoTerms_part) (maxL := 3) (ret := (some .int)) (by decide) rfl ?_
  intro p e s m args below meth c s₁ B hml hv
  obtain ⟨rfl, hsz, hP, hK, hD0, hgl, hkn, hkr⟩ := hv
  have hx := B.exec
  have hb := B.bytes
  have hr := B.returns
  have hg : ∀ w ∈ GW, w.before ([.ref a, .int tm, .int i] : List Value).toArray s = true := fun w hw => atoms_spec (ws := .code y_MoTerms_part b_MoTerms_part 3 (some .int) :: GW) B.pre w (List.mem_cons_of_mem _ hw)
  have hown : s.vm.findClass R_MoTerms = some m.cls := findClass_of_methodNamed B.named
  have hlocks := B.notSynchronized
  subst hsz
  have hD := hD0.self (sz := s.heap.size)
  generalize hAe : va_A [(a, .inr (11, [.ref a_kind, .ref a_name, .ref a_first, .ref a_many, .ref a_part, .ref a_number, .int a_size, .int a_parts])), (a_first, .inl (cs 0, a_first_n, .inl a_first_f)), (a_part, .inl (cs 0, a_part_n, .inl a_part_f))] s.heap.size = A at hD hkn ⊢
  have hA : ∀ q : Nat, s.heap.size ≤ q → A q := fun q h => by rw [← hAe]; exact Or.inr h
  have hS : va_S A s.heap s.heap [] := va_S.rf
  have hP : va_P g classes [(a, .inr (11, [.ref a_kind, .ref a_name, .ref a_first, .ref a_many, .ref a_part, .ref a_number, .int a_size, .int a_parts])), (a_first, .inl (cs 0, a_first_n, .inl a_first_f)), (a_part, .inl (cs 0, a_part_n, .inl a_part_f))] s.heap := hP
  have hl := lv_entry ([.ref a, .int tm, .int i]) (n := 3) (Nat.le_of_ble_eq_true rfl)
  rw [lg_entry_eq]
  generalize (lg_sl ([.ref a, .int tm, .int i]) ++ List.replicate (3 - (lg_sl ([.ref a, .int tm, .int i])).length) Slot.unset).toArray = ls at hl ⊢
  have hl : lv_has ls 3 [(0, .ref a), (1, .int tm), (2, .int i)] := hl
  refine gq (fun Q hQ => ?_)
  obtain ⟨H, hH⟩ : ∃ H : Heap, H = s.heap := ⟨_, rfl⟩
  rw [← hH] at hP
  have hS : va_S A s.heap H [] := by rw [hH]; exact hS
  refine W.eqH hH ?_
  obtain ⟨locs, hlc⟩ : ∃ L : List Loc, L = [] := ⟨_, rfl⟩
  rw [← hlc] at hS ⊢
  unfold p_MoTerms_part at hok
  refine lv_aload_n hx hb d_MoTerms_part_0 rfl (lv_at hl 0 rfl) ?_
  refine va_get (D := g) (ci := 11) (v := .ref a_part) (C := R_MoTerms) (T := F_MoTerms) (N := 8) hx hb hg ul_MoTerms hown hK hP 0 rfl rfl 4 (by decide) (hg _ wd_702) (fun _ h9 => h9) rfl d_MoTerms_part_1 ?_
  refine lv_aload_n hx hb d_MoTerms_part_4 rfl (lv_at hl 0 rfl) ?_
  refine va_get (D := g) (ci := 11) (v := .ref a_first) (C := R_MoTerms) (T := F_MoTerms) (N := 8) hx hb hg ul_MoTerms hown hK hP 0 rfl rfl 2 (by decide) (hg _ wd_700) (fun _ h9 => h9) rfl d_MoTerms_part_5 ?_
  refine lv_iload_n hx hb d_MoTerms_part_8 rfl (lv_at hl 1 rfl) ?_
  obtain ⟨hi1, hok⟩ := ck_some hok
  refine va_iald hx hb hK hP 1 0 rfl rfl (ixb_in hi1) d_MoTerms_part_9 ?_
  refine lv_iload_n hx hb d_MoTerms_part_10 rfl (lv_at hl 2 rfl) ?_
  refine lv_iadd hx hb d_MoTerms_part_11 ?_
  obtain ⟨hi2, hok⟩ := ck_some hok
  refine va_iald hx hb hK hP 2 0 rfl rfl (ixb_in hi2) d_MoTerms_part_12 ?_
  have hq := Option.some.inj hok
  have hq0 := hq
  subst hq0
  obtain ⟨hP9, hD9⟩ := sub2 (ws' := [(a, .inr (11, [.ref a_kind, .ref a_name, .ref a_first, .ref a_many, .ref a_part, .ref a_number, .int a_size, .int a_parts])), (a_first, .inl (cs 0, a_first_n, .inl a_first_f)), (a_part, .inl (cs 0, a_part_n, .inl a_part_f))]) hP hD [0, 1, 2] rfl (by decide) rfl
  rw [hQ]
  exact W.iret (v := a_part_f ((a_first_f tm.toNatClampNeg) + i).toNatClampNeg) hx hb hr (fun t ht hW => ⟨⟨_, (), rfl, rfl, by rw [ht]; exact hP9, hD9⟩, hS.F ht⟩) hS.2.2 d_MoTerms_part_13
