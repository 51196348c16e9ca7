theorem wd_1121 : ((.code y_UB_feed prog_1_method_2_code 6 (some .int)) : Cond) ∈ GW := gw_3 29 (by decide +kernel) rfl
theorem wd_1122 : ((.methodLink "UnifyBenchLaw" 7 y_UB_feed) : Cond) ∈ GW := gw_3 26 (by decide +kernel) rfl
theorem wd_1123 : ((.instanceMethod y_UB_feed) : Cond) ∈ GW := gw_3 27 (by decide +kernel) rfl
theorem wd_1124 : ((.selects "UnifyBench" y_UB_feed y_UB_feed) : Cond) ∈ GW := gw_3 28 (by decide +kernel) rfl
theorem wd_1125 : ((.classLink "UnifyBenchLaw" 13 "java/lang/IndexOutOfBoundsException") : Cond) ∈ GW := gw_3 25 (by decide +kernel) rfl
theorem wd_1126 : ((.castable "java/lang/IndexOutOfBoundsException" "java/lang/IndexOutOfBoundsException") : Cond) ∈ NWL := nwl_in (gt_3 36 (by decide +kernel)) rfl
theorem wd_1127 : ((.code y_UB_end prog_1_method_3_code 2 (some .int)) : Cond) ∈ GW := gw_3 115 (by decide +kernel) rfl
theorem wd_1128 : ((.methodLink "UnifyBenchLaw" 15 y_UB_end) : Cond) ∈ GW := gw_3 112 (by decide +kernel) rfl
theorem wd_1129 : ((.instanceMethod y_UB_end) : Cond) ∈ GW := gw_3 113 (by decide +kernel) rfl
theorem wd_1130 : ((.selects "UnifyBench" y_UB_end y_UB_end) : Cond) ∈ GW := gw_3 114 (by decide +kernel) rfl
theorem wd_1131 : ((.classLink "UnifyBenchLaw" 19 "java/lang/IllegalArgumentException") : Cond) ∈ GW := gw_3 111 (by decide +kernel) rfl
theorem wd_1132 : ((.castable "java/lang/IllegalArgumentException" "java/lang/IllegalArgumentException") : Cond) ∈ NWL := nwl_in (gt_3 118 (by decide +kernel)) rfl
theorem wd_1133 : ((.code y_UB_mark prog_1_method_8_code 2 (some .int)) : Cond) ∈ GW := gw_5 181 (by decide +kernel) rfl
theorem wd_1134 : ((.methodLink "UnifyBenchLaw" 39 y_UB_mark) : Cond) ∈ GW := gw_5 178 (by decide +kernel) rfl
theorem wd_1135 : ((.instanceMethod y_UB_mark) : Cond) ∈ GW := gw_5 179 (by decide +kernel) rfl
theorem wd_1136 : ((.selects "UnifyBench" y_UB_mark y_UB_mark) : Cond) ∈ GW := gw_5 180 (by decide +kernel) rfl
theorem wd_1137 : ((.code y_UB_undo prog_1_method_9_code 2 (some .int)) : Cond) ∈ GW := gw_5 193 (by decide +kernel) rfl
theorem wd_1138 : ((.methodLink "UnifyBenchLaw" 43 y_UB_undo) : Cond) ∈ GW := gw_5 190 (by decide +kernel) rfl
theorem wd_1139 : ((.instanceMethod y_UB_undo) : Cond) ∈ GW := gw_5 191 (by decide +kernel) rfl
theorem wd_1140 : ((.selects "UnifyBench" y_UB_undo y_UB_undo) : Cond) ∈ GW := gw_5 192 (by decide +kernel) rfl
theorem wd_1141 : ((.classLink "UnifyBenchLaw" 37 "java/util/NoSuchElementException") : Cond) ∈ GW := gw_5 152 (by decide +kernel) rfl
theorem wd_1142 : ((.castable "java/util/NoSuchElementException" "java/util/NoSuchElementException") : Cond) ∈ NWL := nwl_in (gt_5 161 (by decide +kernel)) rfl
theorem wd_1143 : ((.code y_UB_unify prog_1_method_5_code 3 (some .boolean)) : Cond) ∈ GW := gw_5 58 (by decide +kernel) rfl
theorem wd_1144 : ((.methodLink "UnifyBenchLaw" 26 y_UB_unify) : Cond) ∈ GW := gw_5 55 (by decide +kernel) rfl
theorem wd_1145 : ((.instanceMethod y_UB_unify) : Cond) ∈ GW := gw_5 56 (by decide +kernel) rfl
theorem wd_1146 : ((.selects "UnifyBench" y_UB_unify y_UB_unify) : Cond) ∈ GW := gw_5 57 (by decide +kernel) rfl
theorem wd_1147 : ((.code y_UB_same prog_1_method_6_code 3 (some .boolean)) : Cond) ∈ GW := gw_5 144 (by decide +kernel) rfl
theorem wd_1148 : ((.methodLink "UnifyBenchLaw" 30 y_UB_same) : Cond) ∈ GW := gw_5 141 (by decide +kernel) rfl
theorem wd_1149 : ((.instanceMethod y_UB_same) : Cond) ∈ GW := gw_5 142 (by decide +kernel) rfl
theorem wd_1150 : ((.selects "UnifyBench" y_UB_same y_UB_same) : Cond) ∈ GW := gw_5 143 (by decide +kernel) rfl
theorem wd_1151 : ((.code y_UB_part prog_1_method_7_code 5 none) : Cond) ∈ GW := gw_5 156 (by decide +kernel) rfl
theorem wd_1152 : ((.methodLink "UnifyBenchLaw" 33 y_UB_part) : Cond) ∈ GW := gw_5 153 (by decide +kernel) rfl
theorem wd_1153 : ((.instanceMethod y_UB_part) : Cond) ∈ GW := gw_5 154 (by decide +kernel) rfl
theorem wd_1154 : ((.selects "UnifyBench" y_UB_part y_UB_part) : Cond) ∈ GW := gw_5 155 (by decide +kernel) rfl
theorem wd_1155 : ((.code y_UB_print prog_1_method_11_code 2 (some .int)) : Cond) ∈ GW := gw_5 206 (by decide +kernel) rfl
theorem wd_1156 : ((.methodLink "UnifyBenchLaw" 46 y_UB_print) : Cond) ∈ GW := gw_5 203 (by decide +kernel) rfl
theorem wd_1157 : ((.instanceMethod y_UB_print) : Cond) ∈ GW := gw_5 204 (by decide +kernel) rfl
theorem wd_1158 : ((.selects "UnifyBench" y_UB_print y_UB_print) : Cond) ∈ GW := gw_5 205 (by decide +kernel) rfl
theorem wd_1159 : ((.code y_UB_word prog_1_method_12_code 6 (some .long)) : Cond) ∈ GW := gw_6 62 (by decide +kernel) rfl
theorem wd_1160 : ((.methodLink "UnifyBenchLaw" 49 y_UB_word) : Cond) ∈ GW := gw_6 59 (by decide +kernel) rfl
theorem wd_1161 : ((.instanceMethod y_UB_word) : Cond) ∈ GW := gw_6 60 (by decide +kernel) rfl
theorem wd_1162 : ((.selects "UnifyBench" y_UB_word y_UB_word) : Cond) ∈ GW := gw_6 61 (by decide +kernel) rfl
theorem wd_1163 : ((.code y_UB_count prog_1_method_13_code 2 (some .int)) : Cond) ∈ GW := gw_6 70 (by decide +kernel) rfl
theorem wd_1164 : ((.methodLink "UnifyBenchLaw" 53 y_UB_count) : Cond) ∈ GW := gw_6 67 (by decide +kernel) rfl
theorem wd_1165 : ((.instanceMethod y_UB_count) : Cond) ∈ GW := gw_6 68 (by decide +kernel) rfl
theorem wd_1166 : ((.selects "UnifyBench" y_UB_count y_UB_count) : Cond) ∈ GW := gw_6 69 (by decide +kernel) rfl
theorem wd_1167 : ((.code y_UB_read prog_1_method_4_code 2 (some .int)) : Cond) ∈ GW := gw_3 142 (by decide +kernel) rfl
theorem wd_1168 : ((.methodLink "UnifyBenchLaw" 21 y_UB_read) : Cond) ∈ GW := gw_3 139 (by decide +kernel) rfl
theorem wd_1169 : ((.instanceMethod y_UB_read) : Cond) ∈ GW := gw_3 140 (by decide +kernel) rfl
theorem wd_1170 : ((.selects "UnifyBench" y_UB_read y_UB_read) : Cond) ∈ GW := gw_3 141 (by decide +kernel) rfl
theorem wd_1171 : ((.classLink "UnifyBenchLaw" 24 "java/lang/UnsupportedOperationException") : Cond) ∈ GW := gw_3 138 (by decide +kernel) rfl
theorem wd_1172 : ((.castable "java/lang/UnsupportedOperationException" "java/lang/UnsupportedOperationException") : Cond) ∈ NWL := nwl_in (gt_5 26 (by decide +kernel)) rfl
theorem d_Law_feed_0 : decode b_Law_feed 0 = .ok (.aload 6, 2) := by decide +kernel
theorem d_Law_feed_2 : decode b_Law_feed 2 = .ok (.iconst 0, 1) := by decide +kernel
theorem d_Law_feed_3 : decode b_Law_feed 3 = .ok (.aload_n 0, 1) := by decide +kernel
theorem d_Law_feed_4 : decode b_Law_feed 4 = .ok (.iload_n 1, 1) := by decide +kernel
theorem d_Law_feed_5 : decode b_Law_feed 5 = .ok (.iload_n 2, 1) := by decide +kernel
theorem d_Law_feed_6 : decode b_Law_feed 6 = .ok (.iload_n 3, 1) := by decide +kernel
theorem d_Law_feed_7 : decode b_Law_feed 7 = .ok (.iload 4, 2) := by decide +kernel
theorem d_Law_feed_9 : decode b_Law_feed 9 = .ok (.iload 5, 2) := by decide +kernel
theorem d_Law_feed_11 : decode b_Law_feed 11 = .ok (.invokevirtual 7, 3) := by decide +kernel
theorem d_Law_feed_14 : decode b_Law_feed 14 = .ok (.i2l, 1) := by decide +kernel
theorem d_Law_feed_15 : decode b_Law_feed 15 = .ok (.lastore, 1) := by decide +kernel
theorem d_Law_feed_16 : decode b_Law_feed 16 = .ok (.goto 7, 3) := by decide +kernel
theorem d_Law_feed_19 : decode b_Law_feed 19 = .ok (.astore 7, 2) := by decide +kernel
theorem d_Law_feed_21 : decode b_Law_feed 21 = .ok (.iconst 1, 1) := by decide +kernel
theorem d_Law_feed_22 : decode b_Law_feed 22 = .ok (.ireturn, 1) := by decide +kernel
theorem d_Law_feed_23 : decode b_Law_feed 23 = .ok (.iconst 0, 1) := by decide +kernel
theorem d_Law_feed_24 : decode b_Law_feed 24 = .ok (.ireturn, 1) := by decide +kernel
def p_Law_feed (n : Nat) (p0 : Int32) (p1 : Int32) (p2 : Int32) (p3 : Int32) (p4 : Int32) (x_marks : Int32) (x_place : Int32) (x_tape_size : Int32) (x_tape_items_n : Nat) (x_tape_items_f : Nat → Int32) (out_n : Nat) (out_f : Nat → Int64) : Option ((Int32 × Int32 × Nat × (Nat → Int32) × (Nat → Int64)) × Nat × Nat) := (p_UB_feed n p0 p1 p2 p3 p4 x_marks x_place x_tape_size x_tape_items_n x_tape_items_f).bind (fun ((xc1, r1, a_tape_size_1, a_tape_items_n_1, a_tape_items_f_1), mk1, sk1) => al mk1 sk1 (if xc1 = 0 then (ck (ixb 0 out_n) (some (((0 : Int32), a_tape_size_1, a_tape_items_n_1, a_tape_items_f_1, vp_updL out_f (0 : Int32).toNatClampNeg r1.toInt64), 0, 0))) else (if xc1 = 3 then (some (((1 : Int32), a_tape_size_1, a_tape_items_n_1, a_tape_items_f_1, out_f), 0, 0)) else (none))))
set_option maxHeartbeats 40000000 in
set_option maxRecDepth 100000 in
theorem c_Law_feed (l : Launch) (g : va_G) (cs : Nat → ClassId) (ka : Nat → Nat) (hfl : l.flags = pinnedFlags ++ [noTraceFlag]) (x_names : Nat) (x_terms : Nat) (x_reader : Nat) (x_unifier : Nat) (x_printer : Nat) (x_registers : Nat) (x_marked : Nat) (x x_tape x_tape_items out : Nat) (sz : Nat) (n : Nat) (p0 : Int32) (p1 : Int32) (p2 : Int32) (p3 : Int32) (p4 : Int32) (x_marks : Int32) (x_place : Int32) (x_tape_size : Int32) (x_tape_items_n : Nat) (x_tape_items_f : Nat → Int32) (out_n : Nat) (out_f : Nat → Int64) (r : Int32) (o_x_tape_size : Int32) (o_x_tape_items_n : Nat) (o_x_tape_items_f : Nat → Int32) (o_out_f : Nat → Int64) (mc ms : Nat) (hok : p_Law_feed n p0 p1 p2 p3 p4 x_marks x_place x_tape_size x_tape_items_n x_tape_items_f out_n out_f = some ((r, o_x_tape_size, o_x_tape_items_n, o_x_tape_items_f, o_out_f), mc, ms)) : Met l y_Law_feed (.codeWith y_Law_feed b_Law_feed 8 (some .int) [(0, 16, 19, 13)] :: GW) { frames := 7, cells := mc, slots := ms, locals := 190 } (va_Pc [.ref x, .int p0, .int p1, .int p2, .int p3, .int p4, .ref out] (gP g cs ka [(x, .inr (9, [.ref x_tape, .ref x_names, .ref x_terms, .ref x_reader, .ref x_unifier, .ref x_printer, .ref x_registers, .ref x_marked, .int x_marks, .int x_place])), (x_tape, .inr (0, [.ref x_tape_items, .int x_tape_size])), (x_tape_items, .inl (cs 1, x_tape_items_n, .inl x_tape_items_f)), (out, .inl (cs 2, out_n, .inr (.inl out_f)))] sz)) (va_Qi (fun (r' : Int32) (_ : Unit) => r = r') (fun _ t => ∃ b_x_tape_items : Nat, va_P g classes [(x, .inr (9, [.ref x_tape, .ref x_names, .ref x_terms, .ref x_reader, .ref x_unifier, .ref x_printer, .ref x_registers, .ref x_marked, .int x_marks, .int x_place])), (x_tape, .inr (0, [.ref b_x_tape_items, .int o_x_tape_size])), (b_x_tape_items, .inl (cs 1, o_x_tape_items_n, .inl o_x_tape_items_f)), (out, .inl (cs 2, out_n, .inr (.inl o_out_f)))] t.heap ∧ va_D (va_A [(x, .inr (9, [.ref x_tape, .ref x_names, .ref x_terms, .ref x_reader, .ref x_unifier, .ref x_printer, .ref x_registers, .ref x_marked, .int x_marks, .int x_place])), (x_tape, .inr (0, [.ref x_tape_items, .int x_tape_size])), (x_tape_items, .inl (cs 1, x_tape_items_n, .inl x_tape_items_f)), (out, .inl (cs 2, out_n, .inr (.inl out_f)))] sz) [(x, .inr (9, [.ref x_tape, .ref x_names, .ref x_terms, .ref x_reader, .ref x_unifier, .ref x_printer, .ref x_registers, .ref x_marked, .int x_marks, .int x_place])), (x_tape, .inr (0, [.ref b_x_tape_items, .int o_x_tape_size])), (b_x_tape_items, .inl (cs 1, o_x_tape_items_n, .inl o_x_tape_items_f)), (out, .inl (cs 2, out_n, .inr (.inl o_out_f)))]) (va_A [(x, .inr (9, [.ref x_tape, .ref x_names, .ref x_terms, .ref x_reader, .ref x_unifier, .ref x_printer, .ref x_registers, .ref x_marked, .int x_marks, .int x_place])), (x_tape, .inr (0, [.ref x_tape_items, .int x_tape_size])), (x_tape_items, .inl (cs 1, x_tape_items_n, .inl x_tape_items_f)), (out, .inl (cs 2, out_n, .inr (.inl out_f)))] sz)) mc ms (va_A [(x, .inr (9, [.ref x_tape, .ref x_names, .ref x_terms, .ref x_reader, .ref x_unifier, .ref x_printer, .ref x_registers, .ref x_marked, .int x_marks, .int x_place])), (x_tape, .inr (0, [.ref x_tape_items, .int x_tape_size])), (x_tape_items, .inl (cs 1, x_tape_items_n, .inl x_tape_items_f)), (out, .inl (cs 2, out_n, .inr (.inl out_f)))] sz) := by
  refine va_MetW (cc := b_Law_feed) (maxL := 8) (ret := (some .int)) (by decide) rfl ?_
  intro p e s m args below meth c s₁ B hml hv
  obtain ⟨rfl, hsz, hP, hK, hD0, hgl, hkn, hkr⟩ := hv
  have hx := B.exec
  have hb := B.bytes
  have hr := B.returns
  have hg : ∀ w ∈ GW, w.before ([.ref x, .int p0, .int p1, .int p2, .int p3, .int p4, .ref out] : List Value).toArray s = true := fun w hw => atoms_spec (ws := .codeWith y_Law_feed b_Law_feed 8 (some .int) [(0, 16, 19, 13)] :: GW) B.pre w (List.mem_cons_of_mem _ hw)
  have hown : s.vm.findClass R_Law = some m.cls := findClass_of_methodNamed B.named
  have hlocks := B.notSynchronized
  have hcd : (Cond.codeWith y_Law_feed b_Law_feed 8 (some .int) [(0, 16, 19, 13)]).before ([.ref x, .int p0, .int p1, .int p2, .int p3, .int p4, .ref out] : List Value).toArray s = true := atoms_spec (ws := .codeWith y_Law_feed b_Law_feed 8 (some .int) [(0, 16, 19, 13)] :: GW) B.pre _ List.mem_cons_self
  have hE := cw_hand B hcd
  subst hsz
  have hD := hD0.self (sz := s.heap.size)
  generalize hAe : va_A [(x, .inr (9, [.ref x_tape, .ref x_names, .ref x_terms, .ref x_reader, .ref x_unifier, .ref x_printer, .ref x_registers, .ref x_marked, .int x_marks, .int x_place])), (x_tape, .inr (0, [.ref x_tape_items, .int x_tape_size])), (x_tape_items, .inl (cs 1, x_tape_items_n, .inl x_tape_items_f)), (out, .inl (cs 2, out_n, .inr (.inl out_f)))] s.heap.size = A at hD hkn ⊢
  have hA : ∀ q : Nat, s.heap.size ≤ q → A q := fun q h => by rw [← hAe]; exact Or.inr h
  have hS : va_S A s.heap s.heap [] := va_S.rf
  have hP : va_P g classes [(x, .inr (9, [.ref x_tape, .ref x_names, .ref x_terms, .ref x_reader, .ref x_unifier, .ref x_printer, .ref x_registers, .ref x_marked, .int x_marks, .int x_place])), (x_tape, .inr (0, [.ref x_tape_items, .int x_tape_size])), (x_tape_items, .inl (cs 1, x_tape_items_n, .inl x_tape_items_f)), (out, .inl (cs 2, out_n, .inr (.inl out_f)))] s.heap := hP
  have hl := lv_entry ([.ref x, .int p0, .int p1, .int p2, .int p3, .int p4, .ref out]) (n := 8) (Nat.le_of_ble_eq_true rfl)
  rw [lg_entry_eq]
  generalize (lg_sl ([.ref x, .int p0, .int p1, .int p2, .int p3, .int p4, .ref out]) ++ List.replicate (8 - (lg_sl ([.ref x, .int p0, .int p1, .int p2, .int p3, .int p4, .ref out])).length) Slot.unset).toArray = ls at hl ⊢
  have hl : lv_has ls 8 [(0, .ref x), (1, .int p0), (2, .int p1), (3, .int p2), (4, .int p3), (5, .int p4), (6, .ref out)] := hl
  refine gq (fun Q hQ => ?_)
  obtain ⟨H, hH⟩ : ∃ H : Heap, H = s.heap := ⟨_, rfl⟩
  rw [← hH] at hP
  have hS : va_S A s.heap H [] := by rw [hH]; exact hS
  refine W.eqH hH ?_
  obtain ⟨locs, hlc⟩ : ∃ L : List Loc, L = [] := ⟨_, rfl⟩
  rw [← hlc] at hS ⊢
  unfold p_Law_feed at hok
  refine lv_aload hx hb d_Law_feed_0 (lv_at hl 6 rfl) ?_
  refine lv_iconst (v := 0) hx hb d_Law_feed_2 (by decide) ?_
  refine lv_aload_n hx hb d_Law_feed_3 rfl (lv_at hl 0 rfl) ?_
  refine lv_iload_n hx hb d_Law_feed_4 rfl (lv_at hl 1 rfl) ?_
  refine lv_iload_n hx hb d_Law_feed_5 rfl (lv_at hl 2 rfl) ?_
  refine lv_iload_n hx hb d_Law_feed_6 rfl (lv_at hl 3 rfl) ?_
  refine lv_iload hx hb d_Law_feed_7 (lv_at hl 4 rfl) ?_
  refine lv_iload hx hb d_Law_feed_9 (lv_at hl 5 rfl) ?_
  obtain ⟨⟨⟨xc1, r1, a_tape_size_1, a_tape_items_n_1, a_tape_items_f_1⟩, mk1, sk1⟩, hc1, hok⟩ := bd_some hok
  dsimp only at hok
  obtain ⟨m1, s1, hok, hmc1, hms1⟩ := al_some hok
  obtain ⟨hPc, hDc, hFc⟩ := cut0 (wc := [(x, .inr (9, [.ref x_tape, .ref x_names, .ref x_terms, .ref x_reader, .ref x_unifier, .ref x_printer, .ref x_registers, .ref x_marked, .int x_marks, .int x_place])), (x_tape, .inr (0, [.ref x_tape_items, .int x_tape_size])), (x_tape_items, .inl (cs 1, x_tape_items_n, .inl x_tape_items_f))]) hP hD hS hA [0, 1, 2] (by decide) rfl
  refine cw_call (A1 := va_A [(x, .inr (9, [.ref x_tape, .ref x_names, .ref x_terms, .ref x_reader, .ref x_unifier, .ref x_printer, .ref x_registers, .ref x_marked, .int x_marks, .int x_place])), (x_tape, .inr (0, [.ref x_tape_items, .int x_tape_size])), (x_tape_items, .inl (cs 1, x_tape_items_n, .inl x_tape_items_f))] H.size) (tx_runV (As := [.int p0, .int p1, .int p2, .int p3, .int p4]) (rest := [.int 0, .ref out]) ⟨hx, hb, hml, hown, hg⟩ (c_UB_feed l g cs ka hfl x_names x_terms x_reader x_unifier x_printer x_registers x_marked x x_tape x_tape_items H.size n p0 p1 p2 p3 p4 x_marks x_place x_tape_size x_tape_items_n x_tape_items_f xc1 r1 a_tape_size_1 a_tape_items_n_1 a_tape_items_f_1 mk1 sk1 hc1) (cwV (C := R_UB) 5 hg (gw_V wd_1122 wd_1123 wd_1124 wd_632 wd_1121) rfl rfl rfl (by decide +kernel) ⟨Nat.le_of_ble_eq_true rfl, Nat.le_of_ble_eq_true rfl⟩) ⟨gP_blind, va_recv (q0 := 0) (ci := 9) (q := (R_UB, F_UB, 10)) hK hP rfl rfl, gP_pre hPc hDc hK hgl hkn hkr hS hFc⟩ rfl rfl hl.1 rfl (lv_room (Nat.le_of_ble_eq_true rfl)) d_Law_feed_11 ⟨show 0 + mk1 ≤ mc from by omega, show 0 + sk1 ≤ ms from by omega⟩) hS (fun st o t h0 hq => hq.2) (fun q _ h => hFc q h) hFc (fun v1 st₀ t H locs h0 ht hW hB hz1 hk1 hS => ?_) (fun x1 st₀ t H locs h0 ht hW hB hz1 hk1 hS => ?_)
  · obtain ⟨⟨hO, hB⟩, -⟩ := hB
    obtain ⟨hx1, hv1⟩ := hO.ret
    subst hv1
    rw [if_pos hx1] at hok
    rw [ht] at hB
    obtain ⟨a_tape_items_1, hP1, hD1⟩ := hB
    obtain ⟨hP, hD⟩ := jn_A hP hD [0, 1, 2] [3] rfl rfl (by decide) (by decide) hk1 hFc hP1 hD1
    obtain ⟨hP, hD⟩ : PD g A H [(out, .inl (cs 2, out_n, .inr (.inl out_f))), (x, .inr (9, [.ref x_tape, .ref x_names, .ref x_terms, .ref x_reader, .ref x_unifier, .ref x_printer, .ref x_registers, .ref x_marked, .int x_marks, .int x_place])), (x_tape, .inr (0, [.ref a_tape_items_1, .int a_tape_size_1])), (a_tape_items_1, .inl (cs 1, a_tape_items_n_1, .inl a_tape_items_f_1))] := ⟨hP, hD⟩
    refine W.eq (g2 := F0 m 14 ls [.int r1, .int 0, .ref out]) rfl ?_
    refine lv_i2l hx hb d_Law_feed_14 rfl ?_
    obtain ⟨hi2, hok⟩ := ck_some hok
    refine va_last hx hb hK hP hD hS 0 2 rfl rfl (ixb_in hi2) d_Law_feed_15 (fun H locs hP hD hS => ?_)
    obtain ⟨hP, hD⟩ : PD g A H [(out, .inl (cs 2, out_n, .inr (.inl (vp_updL out_f (0 : Int32).toNatClampNeg r1.toInt64)))), (x, .inr (9, [.ref x_tape, .ref x_names, .ref x_terms, .ref x_reader, .ref x_unifier, .ref x_printer, .ref x_registers, .ref x_marked, .int x_marks, .int x_place])), (x_tape, .inr (0, [.ref a_tape_items_1, .int a_tape_size_1])), (a_tape_items_1, .inl (cs 1, a_tape_items_n_1, .inl a_tape_items_f_1))] := ⟨hP, hD⟩
    refine lv_goto hx hb d_Law_feed_16 rfl ?_
    refine lv_iconst (v := 0) hx hb d_Law_feed_23 (by decide) ?_
    obtain ⟨hq, hw⟩ := Prod.mk.inj (Option.some.inj hok)
    obtain ⟨hmc0, hms0⟩ := Prod.mk.inj hw
    obtain ⟨hq0, hq⟩ := Prod.mk.inj hq
    obtain ⟨hq1, hq⟩ := Prod.mk.inj hq
    obtain ⟨hq2, hq⟩ := Prod.mk.inj hq
    obtain ⟨hq3, hq⟩ := Prod.mk.inj hq
    have hq4 := hq
    subst hq0
    subst hq1
    subst hq2
    subst hq3
    subst hq4
    obtain ⟨hP9, hD9⟩ := sub2 (ws' := [(x, .inr (9, [.ref x_tape, .ref x_names, .ref x_terms, .ref x_reader, .ref x_unifier, .ref x_printer, .ref x_registers, .ref x_marked, .int x_marks, .int x_place])), (x_tape, .inr (0, [.ref a_tape_items_1, .int a_tape_size_1])), (a_tape_items_1, .inl (cs 1, a_tape_items_n_1, .inl a_tape_items_f_1)), (out, .inl (cs 2, out_n, .inr (.inl (vp_updL out_f (0 : Int32).toNatClampNeg r1.toInt64))))]) hP hD [1, 2, 3, 0] rfl (by decide) rfl
    refine W.widen (k := mc) (n := ms) (by omega) (by omega) ?_
    rw [hQ]
    exact W.iret (v := 0) hx hb hr (fun t ht hW => ⟨⟨_, (), rfl, rfl, a_tape_items_1, by rw [ht]; exact hP9, hD9⟩, hS.F ht⟩) hS.2.2 d_Law_feed_24
  · obtain ⟨⟨hO, hB⟩, -⟩ := hB
    obtain ⟨hx1, hX⟩ := hO.thr
    rw [if_neg hx1] at hok
    rw [ht] at hB
    obtain ⟨a_tape_items_1, hP1, hD1⟩ := hB
    obtain ⟨hP, hD⟩ := jn_A hP hD [0, 1, 2] [3] rfl rfl (by decide) (by decide) hk1 hFc hP1 hD1
    obtain ⟨hP, hD⟩ : PD g A H [(out, .inl (cs 2, out_n, .inr (.inl out_f))), (x, .inr (9, [.ref x_tape, .ref x_names, .ref x_terms, .ref x_reader, .ref x_unifier, .ref x_printer, .ref x_registers, .ref x_marked, .int x_marks, .int x_place])), (x_tape, .inr (0, [.ref a_tape_items_1, .int a_tape_size_1])), (a_tape_items_1, .inl (cs 1, a_tape_items_n_1, .inl a_tape_items_f_1))] := ⟨hP, hD⟩
    by_cases hy1_3 : xc1 = 3
    · rw [if_pos hy1_3] at hok
      subst hy1_3
      obtain ⟨ce, cX, e1, e2, e3, e4, -⟩ := hX
      have e2 : s.vm.findClass "java/lang/IndexOutOfBoundsException" = some cX := by rw [← hW.alike.findClass]; exact e2
      obtain ⟨k0, hk0⟩ := Vm.classAt_of_findClass e2
      refine cw_caught (h := 19) rfl hE (by rw [← ht]; exact e1) e4 (by rw [e3]; exact hk0) (fun hpl => Or.inr ⟨by show (0 : Nat) ≤ 11 ∧ (11 : Nat) < 16; decide, by show (13 : Nat) ≠ 0; decide, cw_hit hown (hg _ wd_1125) (va_Nw.use rfl (hgl _ wd_1126)) e2 e3 hpl rfl⟩) ?_
      refine W.eq (g2 := F0 m 19 ls [.ref x1]) rfl ?_
      refine lv_astore hx hb d_Law_feed_19 hl (by decide) rfl (fun ls hl => ?_)
      have hl : lv_has ls 8 [(7, .ref x1), (0, .ref x), (1, .int p0), (2, .int p1), (3, .int p2), (4, .int p3), (5, .int p4), (6, .ref out)] := hl
      refine lv_iconst (v := 1) hx hb d_Law_feed_21 (by decide) ?_
      obtain ⟨hq, hw⟩ := Prod.mk.inj (Option.some.inj hok)
      obtain ⟨hmc0, hms0⟩ := Prod.mk.inj hw
      obtain ⟨hq0, hq⟩ := Prod.mk.inj hq
      obtain ⟨hq1, hq⟩ := Prod.mk.inj hq
      obtain ⟨hq2, hq⟩ := Prod.mk.inj hq
      obtain ⟨hq3, hq⟩ := Prod.mk.inj hq
      have hq4 := hq
      subst hq0
      subst hq1
      subst hq2
      subst hq3
      subst hq4
      obtain ⟨hP9, hD9⟩ := sub2 (ws' := [(x, .inr (9, [.ref x_tape, .ref x_names, .ref x_terms, .ref x_reader, .ref x_unifier, .ref x_printer, .ref x_registers, .ref x_marked, .int x_marks, .int x_place])), (x_tape, .inr (0, [.ref a_tape_items_1, .int a_tape_size_1])), (a_tape_items_1, .inl (cs 1, a_tape_items_n_1, .inl a_tape_items_f_1)), (out, .inl (cs 2, out_n, .inr (.inl out_f)))]) hP hD [1, 2, 3, 0] rfl (by decide) rfl
      refine W.widen (k := mc) (n := ms) (by omega) (by omega) ?_
      rw [hQ]
      exact W.iret (v := 1) hx hb hr (fun t ht hW => ⟨⟨_, (), rfl, rfl, a_tape_items_1, by rw [ht]; exact hP9, hD9⟩, hS.F ht⟩) hS.2.2 d_Law_feed_22
    · rw [if_neg hy1_3] at hok
      cases hok

theorem d_Law_end_0 : decode b_Law_end 0 = .ok (.aload_n 2, 1) := by decide +kernel
theorem d_Law_end_1 : decode b_Law_end 1 = .ok (.iconst 0, 1) := by decide +kernel
theorem d_Law_end_2 : decode b_Law_end 2 = .ok (.aload_n 0, 1) := by decide +kernel
theorem d_Law_end_3 : decode b_Law_end 3 = .ok (.iload_n 1, 1) := by decide +kernel
theorem d_Law_end_4 : decode b_Law_end 4 = .ok (.invokevirtual 15, 3) := by decide +kernel
theorem d_Law_end_7 : decode b_Law_end 7 = .ok (.i2l, 1) := by decide +kernel
theorem d_Law_end_8 : decode b_Law_end 8 = .ok (.lastore, 1) := by decide +kernel
theorem d_Law_end_9 : decode b_Law_end 9 = .ok (.goto 6, 3) := by decide +kernel
theorem d_Law_end_12 : decode b_Law_end 12 = .ok (.astore_n 3, 1) := by decide +kernel
theorem d_Law_end_13 : decode b_Law_end 13 = .ok (.iconst 1, 1) := by decide +kernel
theorem d_Law_end_14 : decode b_Law_end 14 = .ok (.ireturn, 1) := by decide +kernel
theorem d_Law_end_15 : decode b_Law_end 15 = .ok (.iconst 0, 1) := by decide +kernel
theorem d_Law_end_16 : decode b_Law_end 16 = .ok (.ireturn, 1) := by decide +kernel
def p_Law_end (p0 : Int32) (x_marks : Int32) (x_place : Int32) (x_tape_size : Int32) (out_n : Nat) (out_f : Nat → Int64) : Option ((Int32 × Int32 × (Nat → Int64)) × Nat × Nat) := (p_UB_end p0 x_marks x_place x_tape_size).bind (fun ((xc1, r1, a_tape_size_1), mk1, sk1) => al mk1 sk1 (if xc1 = 0 then (ck (ixb 0 out_n) (some (((0 : Int32), a_tape_size_1, vp_updL out_f (0 : Int32).toNatClampNeg r1.toInt64), 0, 0))) else (if xc1 = 1 then (some (((1 : Int32), a_tape_size_1, out_f), 0, 0)) else (none))))
set_option maxHeartbeats 40000000 in
set_option maxRecDepth 100000 in
theorem c_Law_end (l : Launch) (g : va_G) (cs : Nat → ClassId) (ka : Nat → Nat) (hfl : l.flags = pinnedFlags ++ [noTraceFlag]) (x_names : Nat) (x_terms : Nat) (x_reader : Nat) (x_unifier : Nat) (x_printer : Nat) (x_registers : Nat) (x_marked : Nat) (x_tape_items : Nat) (x x_tape out : Nat) (sz : Nat) (p0 : Int32) (x_marks : Int32) (x_place : Int32) (x_tape_size : Int32) (out_n : Nat) (out_f : Nat → Int64) (r : Int32) (o_x_tape_size : Int32) (o_out_f : Nat → Int64) (mc ms : Nat) (hok : p_Law_end p0 x_marks x_place x_tape_size out_n out_f = some ((r, o_x_tape_size, o_out_f), mc, ms)) : Met l y_Law_end (.codeWith y_Law_end b_Law_end 4 (some .int) [(0, 9, 12, 19)] :: GW) { frames := 7, cells := mc, slots := ms, locals := 111 } (va_Pc [.ref x, .int p0, .ref out] (gP g cs ka [(x, .inr (9, [.ref x_tape, .ref x_names, .ref x_terms, .ref x_reader, .ref x_unifier, .ref x_printer, .ref x_registers, .ref x_marked, .int x_marks, .int x_place])), (x_tape, .inr (0, [.ref x_tape_items, .int x_tape_size])), (out, .inl (cs 2, out_n, .inr (.inl out_f)))] sz)) (va_Qi (fun (r' : Int32) (_ : Unit) => r = r') (fun _ t => va_P g classes [(x, .inr (9, [.ref x_tape, .ref x_names, .ref x_terms, .ref x_reader, .ref x_unifier, .ref x_printer, .ref x_registers, .ref x_marked, .int x_marks, .int x_place])), (x_tape, .inr (0, [.ref x_tape_items, .int o_x_tape_size])), (out, .inl (cs 2, out_n, .inr (.inl o_out_f)))] t.heap ∧ va_D (va_A [(x, .inr (9, [.ref x_tape, .ref x_names, .ref x_terms, .ref x_reader, .ref x_unifier, .ref x_printer, .ref x_registers, .ref x_marked, .int x_marks, .int x_place])), (x_tape, .inr (0, [.ref x_tape_items, .int x_tape_size])), (out, .inl (cs 2, out_n, .inr (.inl out_f)))] sz) [(x, .inr (9, [.ref x_tape, .ref x_names, .ref x_terms, .ref x_reader, .ref x_unifier, .ref x_printer, .ref x_registers, .ref x_marked, .int x_marks, .int x_place])), (x_tape, .inr (0, [.ref x_tape_items, .int o_x_tape_size])), (out, .inl (cs 2, out_n, .inr (.inl o_out_f)))]) (va_A [(x, .inr (9, [.ref x_tape, .ref x_names, .ref x_terms, .ref x_reader, .ref x_unifier, .ref x_printer, .ref x_registers, .ref x_marked, .int x_marks, .int x_place])), (x_tape, .inr (0, [.ref x_tape_items, .int x_tape_size])), (out, .inl (cs 2, out_n, .inr (.inl out_f)))] sz)) mc ms (va_A [(x, .inr (9, [.ref x_tape, .ref x_names, .ref x_terms, .ref x_reader, .ref x_unifier, .ref x_printer, .ref x_registers, .ref x_marked, .int x_marks, .int x_place])), (x_tape, .inr (0, [.ref x_tape_items, .int x_tape_size])), (out, .inl (cs 2, out_n, .inr (.inl out_f)))] sz) := by
  refine va_MetW (cc := b_Law_end) (maxL := 4) (ret := (some .int)) (by decide) rfl ?_
  intro p e s m args below meth c s₁ B hml hv
  obtain ⟨rfl, hsz, hP, hK, hD0, hgl, hkn, hkr⟩ := hv
  have hx := B.exec
  have hb := B.bytes
  have hr := B.returns
  have hg : ∀ w ∈ GW, w.before ([.ref x, .int p0, .ref out] : List Value).toArray s = true := fun w hw => atoms_spec (ws := .codeWith y_Law_end b_Law_end 4 (some .int) [(0, 9, 12, 19)] :: GW) B.pre w (List.mem_cons_of_mem _ hw)
  have hown : s.vm.findClass R_Law = some m.cls := findClass_of_methodNamed B.named
  have hlocks := B.notSynchronized
  have hcd : (Cond.codeWith y_Law_end b_Law_end 4 (some .int) [(0, 9, 12, 19)]).before ([.ref x, .int p0, .ref out] : List Value).toArray s = true := atoms_spec (ws := .codeWith y_Law_end b_Law_end 4 (some .int) [(0, 9, 12, 19)] :: GW) B.pre _ List.mem_cons_self
  have hE := cw_hand B hcd
  subst hsz
  have hD := hD0.self (sz := s.heap.size)
  generalize hAe : va_A [(x, .inr (9, [.ref x_tape, .ref x_names, .ref x_terms, .ref x_reader, .ref x_unifier, .ref x_printer, .ref x_registers, .ref x_marked, .int x_marks, .int x_place])), (x_tape, .inr (0, [.ref x_tape_items, .int x_tape_size])), (out, .inl (cs 2, out_n, .inr (.inl out_f)))] s.heap.size = A at hD hkn ⊢
  have hA : ∀ q : Nat, s.heap.size ≤ q → A q := fun q h => by rw [← hAe]; exact Or.inr h
  have hS : va_S A s.heap s.heap [] := va_S.rf
  have hP : va_P g classes [(x, .inr (9, [.ref x_tape, .ref x_names, .ref x_terms, .ref x_reader, .ref x_unifier, .ref x_printer, .ref x_registers, .ref x_marked, .int x_marks, .int x_place])), (x_tape, .inr (0, [.ref x_tape_items, .int x_tape_size])), (out, .inl (cs 2, out_n, .inr (.inl out_f)))] s.heap := hP
  have hl := lv_entry ([.ref x, .int p0, .ref out]) (n := 4) (Nat.le_of_ble_eq_true rfl)
  rw [lg_entry_eq]
  generalize (lg_sl ([.ref x, .int p0, .ref out]) ++ List.replicate (4 - (lg_sl ([.ref x, .int p0, .ref out])).length) Slot.unset).toArray = ls at hl ⊢
  have hl : lv_has ls 4 [(0, .ref x), (1, .int p0), (2, .ref out)] := hl
  refine gq (fun Q hQ => ?_)
  obtain ⟨H, hH⟩ : ∃ H : Heap, H = s.heap := ⟨_, rfl⟩
  rw [← hH] at hP
  have hS : va_S A s.heap H [] := by rw [hH]; exact hS
  refine W.eqH hH ?_
  obtain ⟨locs, hlc⟩ : ∃ L : List Loc, L = [] := ⟨_, rfl⟩
  rw [← hlc] at hS ⊢
  unfold p_Law_end at hok
  refine lv_aload_n hx hb d_Law_end_0 rfl (lv_at hl 2 rfl) ?_
  refine lv_iconst (v := 0) hx hb d_Law_end_1 (by decide) ?_
  refine lv_aload_n hx hb d_Law_end_2 rfl (lv_at hl 0 rfl) ?_
  refine lv_iload_n hx hb d_Law_end_3 rfl (lv_at hl 1 rfl) ?_
  obtain ⟨⟨⟨xc1, r1, a_tape_size_1⟩, mk1, sk1⟩, hc1, hok⟩ := bd_some hok
  dsimp only at hok
  obtain ⟨m1, s1, hok, hmc1, hms1⟩ := al_some hok
  obtain ⟨hPc, hDc, hFc⟩ := cut0 (wc := [(x, .inr (9, [.ref x_tape, .ref x_names, .ref x_terms, .ref x_reader, .ref x_unifier, .ref x_printer, .ref x_registers, .ref x_marked, .int x_marks, .int x_place])), (x_tape, .inr (0, [.ref x_tape_items, .int x_tape_size]))]) hP hD hS hA [0, 1] (by decide) rfl
  refine cw_call (A1 := va_A [(x, .inr (9, [.ref x_tape, .ref x_names, .ref x_terms, .ref x_reader, .ref x_unifier, .ref x_printer, .ref x_registers, .ref x_marked, .int x_marks, .int x_place])), (x_tape, .inr (0, [.ref x_tape_items, .int x_tape_size]))] H.size) (tx_runV (As := [.int p0]) (rest := [.int 0, .ref out]) ⟨hx, hb, hml, hown, hg⟩ (c_UB_end l g cs ka hfl x_names x_terms x_reader x_unifier x_printer x_registers x_marked x_tape_items x x_tape H.size p0 x_marks x_place x_tape_size xc1 r1 a_tape_size_1 mk1 sk1 hc1) (cwV (C := R_UB) 1 hg (gw_V wd_1128 wd_1129 wd_1130 wd_632 wd_1127) rfl rfl rfl (by decide +kernel) ⟨Nat.le_of_ble_eq_true rfl, Nat.le_of_ble_eq_true rfl⟩) ⟨gP_blind, va_recv (q0 := 0) (ci := 9) (q := (R_UB, F_UB, 10)) hK hP rfl rfl, gP_pre hPc hDc hK hgl hkn hkr hS hFc⟩ rfl rfl hl.1 rfl (lv_room (Nat.le_of_ble_eq_true rfl)) d_Law_end_4 ⟨show 0 + mk1 ≤ mc from by omega, show 0 + sk1 ≤ ms from by omega⟩) hS (fun st o t h0 hq => hq.2) (fun q _ h => hFc q h) hFc (fun v1 st₀ t H locs h0 ht hW hB hz1 hk1 hS => ?_) (fun x1 st₀ t H locs h0 ht hW hB hz1 hk1 hS => ?_)
  · obtain ⟨⟨hO, hB⟩, -⟩ := hB
    obtain ⟨hx1, hv1⟩ := hO.ret
    subst hv1
    rw [if_pos hx1] at hok
    rw [ht] at hB
    obtain ⟨hP1, hD1⟩ := hB
    obtain ⟨hP, hD⟩ := jn_A hP hD [0, 1] [2] rfl rfl (by decide) (by decide) hk1 hFc hP1 hD1
    obtain ⟨hP, hD⟩ : PD g A H [(out, .inl (cs 2, out_n, .inr (.inl out_f))), (x, .inr (9, [.ref x_tape, .ref x_names, .ref x_terms, .ref x_reader, .ref x_unifier, .ref x_printer, .ref x_registers, .ref x_marked, .int x_marks, .int x_place])), (x_tape, .inr (0, [.ref x_tape_items, .int a_tape_size_1]))] := ⟨hP, hD⟩
    refine W.eq (g2 := F0 m 7 ls [.int r1, .int 0, .ref out]) rfl ?_
    refine lv_i2l hx hb d_Law_end_7 rfl ?_
    obtain ⟨hi2, hok⟩ := ck_some hok
    refine va_last hx hb hK hP hD hS 0 2 rfl rfl (ixb_in hi2) d_Law_end_8 (fun H locs hP hD hS => ?_)
    obtain ⟨hP, hD⟩ : PD g A H [(out, .inl (cs 2, out_n, .inr (.inl (vp_updL out_f (0 : Int32).toNatClampNeg r1.toInt64)))), (x, .inr (9, [.ref x_tape, .ref x_names, .ref x_terms, .ref x_reader, .ref x_unifier, .ref x_printer, .ref x_registers, .ref x_marked, .int x_marks, .int x_place])), (x_tape, .inr (0, [.ref x_tape_items, .int a_tape_size_1]))] := ⟨hP, hD⟩
    refine lv_goto hx hb d_Law_end_9 rfl ?_
    refine lv_iconst (v := 0) hx hb d_Law_end_15 (by decide) ?_
    obtain ⟨hq, hw⟩ := Prod.mk.inj (Option.some.inj hok)
    obtain ⟨hmc0, hms0⟩ := Prod.mk.inj hw
    obtain ⟨hq0, hq⟩ := Prod.mk.inj hq
    obtain ⟨hq1, hq⟩ := Prod.mk.inj hq
    have hq2 := hq
    subst hq0
    subst hq1
    subst hq2
    obtain ⟨hP9, hD9⟩ := sub2 (ws' := [(x, .inr (9, [.ref x_tape, .ref x_names, .ref x_terms, .ref x_reader, .ref x_unifier, .ref x_printer, .ref x_registers, .ref x_marked, .int x_marks, .int x_place])), (x_tape, .inr (0, [.ref x_tape_items, .int a_tape_size_1])), (out, .inl (cs 2, out_n, .inr (.inl (vp_updL out_f (0 : Int32).toNatClampNeg r1.toInt64))))]) hP hD [1, 2, 0] rfl (by decide) rfl
    refine W.widen (k := mc) (n := ms) (by omega) (by omega) ?_
    rw [hQ]
    exact W.iret (v := 0) hx hb hr (fun t ht hW => ⟨⟨_, (), rfl, rfl, by rw [ht]; exact hP9, hD9⟩, hS.F ht⟩) hS.2.2 d_Law_end_16
  · obtain ⟨⟨hO, hB⟩, -⟩ := hB
    obtain ⟨hx1, hX⟩ := hO.thr
    rw [if_neg hx1] at hok
    rw [ht] at hB
    obtain ⟨hP1, hD1⟩ := hB
    obtain ⟨hP, hD⟩ := jn_A hP hD [0, 1] [2] rfl rfl (by decide) (by decide) hk1 hFc hP1 hD1
    obtain ⟨hP, hD⟩ : PD g A H [(out, .inl (cs 2, out_n, .inr (.inl out_f))), (x, .inr (9, [.ref x_tape, .ref x_names, .ref x_terms, .ref x_reader, .ref x_unifier, .ref x_printer, .ref x_registers, .ref x_marked, .int x_marks, .int x_place])), (x_tape, .inr (0, [.ref x_tape_items, .int a_tape_size_1]))] := ⟨hP, hD⟩
    by_cases hy1_1 : xc1 = 1
    · rw [if_pos hy1_1] at hok
      subst hy1_1
      obtain ⟨ce, cX, e1, e2, e3, e4, -⟩ := hX
      have e2 : s.vm.findClass "java/lang/IllegalArgumentException" = some cX := by rw [← hW.alike.findClass]; exact e2
      obtain ⟨k0, hk0⟩ := Vm.classAt_of_findClass e2
      refine cw_caught (h := 12) rfl hE (by rw [← ht]; exact e1) e4 (by rw [e3]; exact hk0) (fun hpl => Or.inr ⟨by show (0 : Nat) ≤ 4 ∧ (4 : Nat) < 9; decide, by show (19 : Nat) ≠ 0; decide, cw_hit hown (hg _ wd_1131) (va_Nw.use rfl (hgl _ wd_1132)) e2 e3 hpl rfl⟩) ?_
      refine W.eq (g2 := F0 m 12 ls [.ref x1]) rfl ?_
      refine lv_astore_n hx hb d_Law_end_12 rfl hl (by decide) rfl (fun ls hl => ?_)
      have hl : lv_has ls 4 [(3, .ref x1), (0, .ref x), (1, .int p0), (2, .ref out)] := hl
      refine lv_iconst (v := 1) hx hb d_Law_end_13 (by decide) ?_
      obtain ⟨hq, hw⟩ := Prod.mk.inj (Option.some.inj hok)
      obtain ⟨hmc0, hms0⟩ := Prod.mk.inj hw
      obtain ⟨hq0, hq⟩ := Prod.mk.inj hq
      obtain ⟨hq1, hq⟩ := Prod.mk.inj hq
      have hq2 := hq
      subst hq0
      subst hq1
      subst hq2
      obtain ⟨hP9, hD9⟩ := sub2 (ws' := [(x, .inr (9, [.ref x_tape, .ref x_names, .ref x_terms, .ref x_reader, .ref x_unifier, .ref x_printer, .ref x_registers, .ref x_marked, .int x_marks, .int x_place])), (x_tape, .inr (0, [.ref x_tape_items, .int a_tape_size_1])), (out, .inl (cs 2, out_n, .inr (.inl out_f)))]) hP hD [1, 2, 0] rfl (by decide) rfl
      refine W.widen (k := mc) (n := ms) (by omega) (by omega) ?_
      rw [hQ]
      exact W.iret (v := 1) hx hb hr (fun t ht hW => ⟨⟨_, (), rfl, rfl, by rw [ht]; exact hP9, hD9⟩, hS.F ht⟩) hS.2.2 d_Law_end_14
    · rw [if_neg hy1_1] at hok
      cases hok

theorem d_Law_mark_0 : decode b_Law_mark 0 = .ok (.aload_n 1, 1) := by decide +kernel
theorem d_Law_mark_1 : decode b_Law_mark 1 = .ok (.iconst 0, 1) := by decide +kernel
theorem d_Law_mark_2 : decode b_Law_mark 2 = .ok (.aload_n 0, 1) := by decide +kernel
theorem d_Law_mark_3 : decode b_Law_mark 3 = .ok (.invokevirtual 39, 3) := by decide +kernel
theorem d_Law_mark_6 : decode b_Law_mark 6 = .ok (.i2l, 1) := by decide +kernel
theorem d_Law_mark_7 : decode b_Law_mark 7 = .ok (.lastore, 1) := by decide +kernel
theorem d_Law_mark_8 : decode b_Law_mark 8 = .ok (.goto 6, 3) := by decide +kernel
theorem d_Law_mark_11 : decode b_Law_mark 11 = .ok (.astore_n 2, 1) := by decide +kernel
theorem d_Law_mark_12 : decode b_Law_mark 12 = .ok (.iconst 1, 1) := by decide +kernel
theorem d_Law_mark_13 : decode b_Law_mark 13 = .ok (.ireturn, 1) := by decide +kernel
theorem d_Law_mark_14 : decode b_Law_mark 14 = .ok (.iconst 0, 1) := by decide +kernel
theorem d_Law_mark_15 : decode b_Law_mark 15 = .ok (.ireturn, 1) := by decide +kernel
def p_Law_mark (n : Nat) (x_marks : Int32) (x_place : Int32) (x_terms_nodes : Int32) (x_terms_variables : Int32) (x_terms_variablesLack : Int32) (x_terms_symbols : Int32) (x_terms_nodesBefore : Int32) (x_terms_partsBefore : Int32) (x_terms_variablesBefore : Int32) (x_terms_became_n : Nat) (x_terms_became_f : Nat → Int32) (x_registers_n : Nat) (x_registers_f : Nat → Int32) (x_marked_size : Int32) (x_marked_items_n : Nat) (x_marked_items_f : Nat → Int32) (out_n : Nat) (out_f : Nat → Int64) : Option ((Int32 × Int32 × Int32 × Nat × (Nat → Int32) × (Nat → Int64)) × Nat × Nat) := (p_UB_mark n x_marks x_place x_terms_nodes x_terms_variables x_terms_variablesLack x_terms_symbols x_terms_nodesBefore x_terms_partsBefore x_terms_variablesBefore x_terms_became_n x_terms_became_f x_registers_n x_registers_f x_marked_size x_marked_items_n x_marked_items_f).bind (fun ((xc1, r1, a_marks_1, a_marked_size_1, a_marked_items_n_1, a_marked_items_f_1), mk1, sk1) => al mk1 sk1 (if xc1 = 0 then (ck (ixb 0 out_n) (some (((0 : Int32), a_marks_1, a_marked_size_1, a_marked_items_n_1, a_marked_items_f_1, vp_updL out_f (0 : Int32).toNatClampNeg r1.toInt64), 0, 0))) else (if xc1 = 3 then (some (((1 : Int32), a_marks_1, a_marked_size_1, a_marked_items_n_1, a_marked_items_f_1, out_f), 0, 0)) else (none))))
set_option maxHeartbeats 40000000 in
set_option maxRecDepth 100000 in
theorem c_Law_mark (l : Launch) (g : va_G) (cs : Nat → ClassId) (ka : Nat → Nat) (hfl : l.flags = pinnedFlags ++ [noTraceFlag]) (x_tape : Nat) (x_names : Nat) (x_reader : Nat) (x_unifier : Nat) (x_printer : Nat) (x_terms_shapes : Nat) (x_terms_values : Nat) (x_terms_firstParts : Nat) (x_terms_parts : Nat) (x_terms_variableNames : Nat) (x x_terms x_terms_became x_registers x_marked x_marked_items out : Nat) (sz : Nat) (n : Nat) (x_marks : Int32) (x_place : Int32) (x_terms_nodes : Int32) (x_terms_variables : Int32) (x_terms_variablesLack : Int32) (x_terms_symbols : Int32) (x_terms_nodesBefore : Int32) (x_terms_partsBefore : Int32) (x_terms_variablesBefore : Int32) (x_terms_became_n : Nat) (x_terms_became_f : Nat → Int32) (x_registers_n : Nat) (x_registers_f : Nat → Int32) (x_marked_size : Int32) (x_marked_items_n : Nat) (x_marked_items_f : Nat → Int32) (out_n : Nat) (out_f : Nat → Int64) (r : Int32) (o_x_marks : Int32) (o_x_marked_size : Int32) (o_x_marked_items_n : Nat) (o_x_marked_items_f : Nat → Int32) (o_out_f : Nat → Int64) (mc ms : Nat) (hok : p_Law_mark n x_marks x_place x_terms_nodes x_terms_variables x_terms_variablesLack x_terms_symbols x_terms_nodesBefore x_terms_partsBefore x_terms_variablesBefore x_terms_became_n x_terms_became_f x_registers_n x_registers_f x_marked_size x_marked_items_n x_marked_items_f out_n out_f = some ((r, o_x_marks, o_x_marked_size, o_x_marked_items_n, o_x_marked_items_f, o_out_f), mc, ms)) : Met l y_Law_mark (.codeWith y_Law_mark b_Law_mark 3 (some .int) [(0, 8, 11, 13)] :: GW) { frames := 7, cells := mc, slots := ms, locals := 186 } (va_Pc [.ref x, .ref out] (gP g cs ka [(x, .inr (9, [.ref x_tape, .ref x_names, .ref x_terms, .ref x_reader, .ref x_unifier, .ref x_printer, .ref x_registers, .ref x_marked, .int x_marks, .int x_place])), (x_terms, .inr (7, [.ref x_terms_shapes, .ref x_terms_values, .ref x_terms_firstParts, .int x_terms_nodes, .ref x_terms_parts, .ref x_terms_variableNames, .ref x_terms_became, .int x_terms_variables, .int x_terms_variablesLack, .int x_terms_symbols, .int x_terms_nodesBefore, .int x_terms_partsBefore, .int x_terms_variablesBefore])), (x_terms_became, .inl (cs 0, x_terms_became_n, .inl x_terms_became_f)), (x_registers, .inl (cs 0, x_registers_n, .inl x_registers_f)), (x_marked, .inr (1, [.ref x_marked_items, .int x_marked_size])), (x_marked_items, .inl (cs 0, x_marked_items_n, .inl x_marked_items_f)), (out, .inl (cs 2, out_n, .inr (.inl out_f)))] sz)) (va_Qi (fun (r' : Int32) (_ : Unit) => r = r') (fun _ t => ∃ b_x_marked_items : Nat, va_P g classes [(x, .inr (9, [.ref x_tape, .ref x_names, .ref x_terms, .ref x_reader, .ref x_unifier, .ref x_printer, .ref x_registers, .ref x_marked, .int o_x_marks, .int x_place])), (x_terms, .inr (7, [.ref x_terms_shapes, .ref x_terms_values, .ref x_terms_firstParts, .int x_terms_nodes, .ref x_terms_parts, .ref x_terms_variableNames, .ref x_terms_became, .int x_terms_variables, .int x_terms_variablesLack, .int x_terms_symbols, .int x_terms_nodesBefore, .int x_terms_partsBefore, .int x_terms_variablesBefore])), (x_terms_became, .inl (cs 0, x_terms_became_n, .inl x_terms_became_f)), (x_registers, .inl (cs 0, x_registers_n, .inl x_registers_f)), (x_marked, .inr (1, [.ref b_x_marked_items, .int o_x_marked_size])), (b_x_marked_items, .inl (cs 0, o_x_marked_items_n, .inl o_x_marked_items_f)), (out, .inl (cs 2, out_n, .inr (.inl o_out_f)))] t.heap ∧ va_D (va_A [(x, .inr (9, [.ref x_tape, .ref x_names, .ref x_terms, .ref x_reader, .ref x_unifier, .ref x_printer, .ref x_registers, .ref x_marked, .int x_marks, .int x_place])), (x_terms, .inr (7, [.ref x_terms_shapes, .ref x_terms_values, .ref x_terms_firstParts, .int x_terms_nodes, .ref x_terms_parts, .ref x_terms_variableNames, .ref x_terms_became, .int x_terms_variables, .int x_terms_variablesLack, .int x_terms_symbols, .int x_terms_nodesBefore, .int x_terms_partsBefore, .int x_terms_variablesBefore])), (x_terms_became, .inl (cs 0, x_terms_became_n, .inl x_terms_became_f)), (x_registers, .inl (cs 0, x_registers_n, .inl x_registers_f)), (x_marked, .inr (1, [.ref x_marked_items, .int x_marked_size])), (x_marked_items, .inl (cs 0, x_marked_items_n, .inl x_marked_items_f)), (out, .inl (cs 2, out_n, .inr (.inl out_f)))] sz) [(x, .inr (9, [.ref x_tape, .ref x_names, .ref x_terms, .ref x_reader, .ref x_unifier, .ref x_printer, .ref x_registers, .ref x_marked, .int o_x_marks, .int x_place])), (x_terms, .inr (7, [.ref x_terms_shapes, .ref x_terms_values, .ref x_terms_firstParts, .int x_terms_nodes, .ref x_terms_parts, .ref x_terms_variableNames, .ref x_terms_became, .int x_terms_variables, .int x_terms_variablesLack, .int x_terms_symbols, .int x_terms_nodesBefore, .int x_terms_partsBefore, .int x_terms_variablesBefore])), (x_terms_became, .inl (cs 0, x_terms_became_n, .inl x_terms_became_f)), (x_registers, .inl (cs 0, x_registers_n, .inl x_registers_f)), (x_marked, .inr (1, [.ref b_x_marked_items, .int o_x_marked_size])), (b_x_marked_items, .inl (cs 0, o_x_marked_items_n, .inl o_x_marked_items_f)), (out, .inl (cs 2, out_n, .inr (.inl o_out_f)))]) (va_A [(x, .inr (9, [.ref x_tape, .ref x_names, .ref x_terms, .ref x_reader, .ref x_unifier, .ref x_printer, .ref x_registers, .ref x_marked, .int x_marks, .int x_place])), (x_terms, .inr (7, [.ref x_terms_shapes, .ref x_terms_values, .ref x_terms_firstParts, .int x_terms_nodes, .ref x_terms_parts, .ref x_terms_variableNames, .ref x_terms_became, .int x_terms_variables, .int x_terms_variablesLack, .int x_terms_symbols, .int x_terms_nodesBefore, .int x_terms_partsBefore, .int x_terms_variablesBefore])), (x_terms_became, .inl (cs 0, x_terms_became_n, .inl x_terms_became_f)), (x_registers, .inl (cs 0, x_registers_n, .inl x_registers_f)), (x_marked, .inr (1, [.ref x_marked_items, .int x_marked_size])), (x_marked_items, .inl (cs 0, x_marked_items_n, .inl x_marked_items_f)), (out, .inl (cs 2, out_n, .inr (.inl out_f)))] sz)) mc ms (va_A [(x, .inr (9, [.ref x_tape, .ref x_names, .ref x_terms, .ref x_reader, .ref x_unifier, .ref x_printer, .ref x_registers, .ref x_marked, .int x_marks, .int x_place])), (x_terms, .inr (7, [.ref x_terms_shapes, .ref x_terms_values, .ref x_terms_firstParts, .int x_terms_nodes, .ref x_terms_parts, .ref x_terms_variableNames, .ref x_terms_became, .int x_terms_variables, .int x_terms_variablesLack, .int x_terms_symbols, .int x_terms_nodesBefore, .int x_terms_partsBefore, .int x_terms_variablesBefore])), (x_terms_became, .inl (cs 0, x_terms_became_n, .inl x_terms_became_f)), (x_registers, .inl (cs 0, x_registers_n, .inl x_registers_f)), (x_marked, .inr (1, [.ref x_marked_items, .int x_marked_size])), (x_marked_items, .inl (cs 0, x_marked_items_n, .inl x_marked_items_f)), (out, .inl (cs 2, out_n, .inr (.inl out_f)))] sz) := by
  refine va_MetW (cc := b_Law_mark) (maxL := 3) (ret := (some .int)) (by decide) rfl ?_
  intro p e s m args below meth c s₁ B hml hv
  obtain ⟨rfl, hsz, hP, hK, hD0, hgl, hkn, hkr⟩ := hv
  have hx := B.exec
  have hb := B.bytes
  have hr := B.returns
  have hg : ∀ w ∈ GW, w.before ([.ref x, .ref out] : List Value).toArray s = true := fun w hw => atoms_spec (ws := .codeWith y_Law_mark b_Law_mark 3 (some .int) [(0, 8, 11, 13)] :: GW) B.pre w (List.mem_cons_of_mem _ hw)
  have hown : s.vm.findClass R_Law = some m.cls := findClass_of_methodNamed B.named
  have hlocks := B.notSynchronized
  have hcd : (Cond.codeWith y_Law_mark b_Law_mark 3 (some .int) [(0, 8, 11, 13)]).before ([.ref x, .ref out] : List Value).toArray s = true := atoms_spec (ws := .codeWith y_Law_mark b_Law_mark 3 (some .int) [(0, 8, 11, 13)] :: GW) B.pre _ List.mem_cons_self
  have hE := cw_hand B hcd
  subst hsz
  have hD := hD0.self (sz := s.heap.size)
  generalize hAe : va_A [(x, .inr (9, [.ref x_tape, .ref x_names, .ref x_terms, .ref x_reader, .ref x_unifier, .ref x_printer, .ref x_registers, .ref x_marked, .int x_marks, .int x_place])), (x_terms, .inr (7, [.ref x_terms_shapes, .ref x_terms_values, .ref x_terms_firstParts, .int x_terms_nodes, .ref x_terms_parts, .ref x_terms_variableNames, .ref x_terms_became, .int x_terms_variables, .int x_terms_variablesLack, .int x_terms_symbols, .int x_terms_nodesBefore, .int x_terms_partsBefore, .int x_terms_variablesBefore])), (x_terms_became, .inl (cs 0, x_terms_became_n, .inl x_terms_became_f)), (x_registers, .inl (cs 0, x_registers_n, .inl x_registers_f)), (x_marked, .inr (1, [.ref x_marked_items, .int x_marked_size])), (x_marked_items, .inl (cs 0, x_marked_items_n, .inl x_marked_items_f)), (out, .inl (cs 2, out_n, .inr (.inl out_f)))] s.heap.size = A at hD hkn ⊢
  have hA : ∀ q : Nat, s.heap.size ≤ q → A q := fun q h => by rw [← hAe]; exact Or.inr h
  have hS : va_S A s.heap s.heap [] := va_S.rf
  have hP : va_P g classes [(x, .inr (9, [.ref x_tape, .ref x_names, .ref x_terms, .ref x_reader, .ref x_unifier, .ref x_printer, .ref x_registers, .ref x_marked, .int x_marks, .int x_place])), (x_terms, .inr (7, [.ref x_terms_shapes, .ref x_terms_values, .ref x_terms_firstParts, .int x_terms_nodes, .ref x_terms_parts, .ref x_terms_variableNames, .ref x_terms_became, .int x_terms_variables, .int x_terms_variablesLack, .int x_terms_symbols, .int x_terms_nodesBefore, .int x_terms_partsBefore, .int x_terms_variablesBefore])), (x_terms_became, .inl (cs 0, x_terms_became_n, .inl x_terms_became_f)), (x_registers, .inl (cs 0, x_registers_n, .inl x_registers_f)), (x_marked, .inr (1, [.ref x_marked_items, .int x_marked_size])), (x_marked_items, .inl (cs 0, x_marked_items_n, .inl x_marked_items_f)), (out, .inl (cs 2, out_n, .inr (.inl out_f)))] s.heap := hP
  have hl := lv_entry ([.ref x, .ref out]) (n := 3) (Nat.le_of_ble_eq_true rfl)
  rw [lg_entry_eq]
  generalize (lg_sl ([.ref x, .ref out]) ++ List.replicate (3 - (lg_sl ([.ref x, .ref out])).length) Slot.unset).toArray = ls at hl ⊢
  have hl : lv_has ls 3 [(0, .ref x), (1, .ref out)] := hl
  refine gq (fun Q hQ => ?_)
  obtain ⟨H, hH⟩ : ∃ H : Heap, H = s.heap := ⟨_, rfl⟩
  rw [← hH] at hP
  have hS : va_S A s.heap H [] := by rw [hH]; exact hS
  refine W.eqH hH ?_
  obtain ⟨locs, hlc⟩ : ∃ L : List Loc, L = [] := ⟨_, rfl⟩
  rw [← hlc] at hS ⊢
  unfold p_Law_mark at hok
  refine lv_aload_n hx hb d_Law_mark_0 rfl (lv_at hl 1 rfl) ?_
  refine lv_iconst (v := 0) hx hb d_Law_mark_1 (by decide) ?_
  refine lv_aload_n hx hb d_Law_mark_2 rfl (lv_at hl 0 rfl) ?_
  obtain ⟨⟨⟨xc1, r1, a_marks_1, a_marked_size_1, a_marked_items_n_1, a_marked_items_f_1⟩, mk1, sk1⟩, hc1, hok⟩ := bd_some hok
  dsimp only at hok
  obtain ⟨m1, s1, hok, hmc1, hms1⟩ := al_some hok
  obtain ⟨hPc, hDc, hFc⟩ := cut0 (wc := [(x, .inr (9, [.ref x_tape, .ref x_names, .ref x_terms, .ref x_reader, .ref x_unifier, .ref x_printer, .ref x_registers, .ref x_marked, .int x_marks, .int x_place])), (x_terms, .inr (7, [.ref x_terms_shapes, .ref x_terms_values, .ref x_terms_firstParts, .int x_terms_nodes, .ref x_terms_parts, .ref x_terms_variableNames, .ref x_terms_became, .int x_terms_variables, .int x_terms_variablesLack, .int x_terms_symbols, .int x_terms_nodesBefore, .int x_terms_partsBefore, .int x_terms_variablesBefore])), (x_terms_became, .inl (cs 0, x_terms_became_n, .inl x_terms_became_f)), (x_registers, .inl (cs 0, x_registers_n, .inl x_registers_f)), (x_marked, .inr (1, [.ref x_marked_items, .int x_marked_size])), (x_marked_items, .inl (cs 0, x_marked_items_n, .inl x_marked_items_f))]) hP hD hS hA [0, 1, 2, 3, 4, 5] (by decide) rfl
  refine cw_call (A1 := va_A [(x, .inr (9, [.ref x_tape, .ref x_names, .ref x_terms, .ref x_reader, .ref x_unifier, .ref x_printer, .ref x_registers, .ref x_marked, .int x_marks, .int x_place])), (x_terms, .inr (7, [.ref x_terms_shapes, .ref x_terms_values, .ref x_terms_firstParts, .int x_terms_nodes, .ref x_terms_parts, .ref x_terms_variableNames, .ref x_terms_became, .int x_terms_variables, .int x_terms_variablesLack, .int x_terms_symbols, .int x_terms_nodesBefore, .int x_terms_partsBefore, .int x_terms_variablesBefore])), (x_terms_became, .inl (cs 0, x_terms_became_n, .inl x_terms_became_f)), (x_registers, .inl (cs 0, x_registers_n, .inl x_registers_f)), (x_marked, .inr (1, [.ref x_marked_items, .int x_marked_size])), (x_marked_items, .inl (cs 0, x_marked_items_n, .inl x_marked_items_f))] H.size) (tx_runV (As := []) (rest := [.int 0, .ref out]) ⟨hx, hb, hml, hown, hg⟩ (c_UB_mark l g cs ka hfl x_tape x_names x_reader x_unifier x_printer x_terms_shapes x_terms_values x_terms_firstParts x_terms_parts x_terms_variableNames x x_terms x_terms_became x_registers x_marked x_marked_items H.size n x_marks x_place x_terms_nodes x_terms_variables x_terms_variablesLack x_terms_symbols x_terms_nodesBefore x_terms_partsBefore x_terms_variablesBefore x_terms_became_n x_terms_became_f x_registers_n x_registers_f x_marked_size x_marked_items_n x_marked_items_f xc1 r1 a_marks_1 a_marked_size_1 a_marked_items_n_1 a_marked_items_f_1 mk1 sk1 hc1) (cwV (C := R_UB) 0 hg (gw_V wd_1134 wd_1135 wd_1136 wd_632 wd_1133) rfl rfl rfl (by decide +kernel) ⟨Nat.le_of_ble_eq_true rfl, Nat.le_of_ble_eq_true rfl⟩) ⟨gP_blind, va_recv (q0 := 0) (ci := 9) (q := (R_UB, F_UB, 10)) hK hP rfl rfl, gP_pre hPc hDc hK hgl hkn hkr hS hFc⟩ rfl rfl hl.1 rfl (lv_room (Nat.le_of_ble_eq_true rfl)) d_Law_mark_3 ⟨show 0 + mk1 ≤ mc from by omega, show 0 + sk1 ≤ ms from by omega⟩) hS (fun st o t h0 hq => hq.2) (fun q _ h => hFc q h) hFc (fun v1 st₀ t H locs h0 ht hW hB hz1 hk1 hS => ?_) (fun x1 st₀ t H locs h0 ht hW hB hz1 hk1 hS => ?_)
  · obtain ⟨⟨hO, hB⟩, -⟩ := hB
    obtain ⟨hx1, hv1⟩ := hO.ret
    subst hv1
    rw [if_pos hx1] at hok
    rw [ht] at hB
    obtain ⟨a_marked_items_1, hP1, hD1⟩ := hB
    obtain ⟨hP, hD⟩ := jn_A hP hD [0, 1, 2, 3, 4, 5] [6] rfl rfl (by decide) (by decide) hk1 hFc hP1 hD1
    obtain ⟨hP, hD⟩ : PD g A H [(out, .inl (cs 2, out_n, .inr (.inl out_f))), (x, .inr (9, [.ref x_tape, .ref x_names, .ref x_terms, .ref x_reader, .ref x_unifier, .ref x_printer, .ref x_registers, .ref x_marked, .int a_marks_1, .int x_place])), (x_terms, .inr (7, [.ref x_terms_shapes, .ref x_terms_values, .ref x_terms_firstParts, .int x_terms_nodes, .ref x_terms_parts, .ref x_terms_variableNames, .ref x_terms_became, .int x_terms_variables, .int x_terms_variablesLack, .int x_terms_symbols, .int x_terms_nodesBefore, .int x_terms_partsBefore, .int x_terms_variablesBefore])), (x_terms_became, .inl (cs 0, x_terms_became_n, .inl x_terms_became_f)), (x_registers, .inl (cs 0, x_registers_n, .inl x_registers_f)), (x_marked, .inr (1, [.ref a_marked_items_1, .int a_marked_size_1])), (a_marked_items_1, .inl (cs 0, a_marked_items_n_1, .inl a_marked_items_f_1))] := ⟨hP, hD⟩
    refine W.eq (g2 := F0 m 6 ls [.int r1, .int 0, .ref out]) rfl ?_
    refine lv_i2l hx hb d_Law_mark_6 rfl ?_
    obtain ⟨hi2, hok⟩ := ck_some hok
    refine va_last hx hb hK hP hD hS 0 2 rfl rfl (ixb_in hi2) d_Law_mark_7 (fun H locs hP hD hS => ?_)
    obtain ⟨hP, hD⟩ : PD g A H [(out, .inl (cs 2, out_n, .inr (.inl (vp_updL out_f (0 : Int32).toNatClampNeg r1.toInt64)))), (x, .inr (9, [.ref x_tape, .ref x_names, .ref x_terms, .ref x_reader, .ref x_unifier, .ref x_printer, .ref x_registers, .ref x_marked, .int a_marks_1, .int x_place])), (x_terms, .inr (7, [.ref x_terms_shapes, .ref x_terms_values, .ref x_terms_firstParts, .int x_terms_nodes, .ref x_terms_parts, .ref x_terms_variableNames, .ref x_terms_became, .int x_terms_variables, .int x_terms_variablesLack, .int x_terms_symbols, .int x_terms_nodesBefore, .int x_terms_partsBefore, .int x_terms_variablesBefore])), (x_terms_became, .inl (cs 0, x_terms_became_n, .inl x_terms_became_f)), (x_registers, .inl (cs 0, x_registers_n, .inl x_registers_f)), (x_marked, .inr (1, [.ref a_marked_items_1, .int a_marked_size_1])), (a_marked_items_1, .inl (cs 0, a_marked_items_n_1, .inl a_marked_items_f_1))] := ⟨hP, hD⟩
    refine lv_goto hx hb d_Law_mark_8 rfl ?_
    refine lv_iconst (v := 0) hx hb d_Law_mark_14 (by decide) ?_
    obtain ⟨hq, hw⟩ := Prod.mk.inj (Option.some.inj hok)
    obtain ⟨hmc0, hms0⟩ := Prod.mk.inj hw
    obtain ⟨hq0, hq⟩ := Prod.mk.inj hq
    obtain ⟨hq1, hq⟩ := Prod.mk.inj hq
    obtain ⟨hq2, hq⟩ := Prod.mk.inj hq
    obtain ⟨hq3, hq⟩ := Prod.mk.inj hq
    obtain ⟨hq4, hq⟩ := Prod.mk.inj hq
    have hq5 := hq
    subst hq0
    subst hq1
    subst hq2
    subst hq3
    subst hq4
    subst hq5
    obtain ⟨hP9, hD9⟩ := sub2 (ws' := [(x, .inr (9, [.ref x_tape, .ref x_names, .ref x_terms, .ref x_reader, .ref x_unifier, .ref x_printer, .ref x_registers, .ref x_marked, .int a_marks_1, .int x_place])), (x_terms, .inr (7, [.ref x_terms_shapes, .ref x_terms_values, .ref x_terms_firstParts, .int x_terms_nodes, .ref x_terms_parts, .ref x_terms_variableNames, .ref x_terms_became, .int x_terms_variables, .int x_terms_variablesLack, .int x_terms_symbols, .int x_terms_nodesBefore, .int x_terms_partsBefore, .int x_terms_variablesBefore])), (x_terms_became, .inl (cs 0, x_terms_became_n, .inl x_terms_became_f)), (x_registers, .inl (cs 0, x_registers_n, .inl x_registers_f)), (x_marked, .inr (1, [.ref a_marked_items_1, .int a_marked_size_1])), (a_marked_items_1, .inl (cs 0, a_marked_items_n_1, .inl a_marked_items_f_1)), (out, .inl (cs 2, out_n, .inr (.inl (vp_updL out_f (0 : Int32).toNatClampNeg r1.toInt64))))]) hP hD [1, 2, 3, 4, 5, 6, 0] rfl (by decide) rfl
    refine W.widen (k := mc) (n := ms) (by omega) (by omega) ?_
    rw [hQ]
    exact W.iret (v := 0) hx hb hr (fun t ht hW => ⟨⟨_, (), rfl, rfl, a_marked_items_1, by rw [ht]; exact hP9, hD9⟩, hS.F ht⟩) hS.2.2 d_Law_mark_15
  · obtain ⟨⟨hO, hB⟩, -⟩ := hB
    obtain ⟨hx1, hX⟩ := hO.thr
    rw [if_neg hx1] at hok
    rw [ht] at hB
    obtain ⟨a_marked_items_1, hP1, hD1⟩ := hB
    obtain ⟨hP, hD⟩ := jn_A hP hD [0, 1, 2, 3, 4, 5] [6] rfl rfl (by decide) (by decide) hk1 hFc hP1 hD1
    obtain ⟨hP, hD⟩ : PD g A H [(out, .inl (cs 2, out_n, .inr (.inl out_f))), (x, .inr (9, [.ref x_tape, .ref x_names, .ref x_terms, .ref x_reader, .ref x_unifier, .ref x_printer, .ref x_registers, .ref x_marked, .int a_marks_1, .int x_place])), (x_terms, .inr (7, [.ref x_terms_shapes, .ref x_terms_values, .ref x_terms_firstParts, .int x_terms_nodes, .ref x_terms_parts, .ref x_terms_variableNames, .ref x_terms_became, .int x_terms_variables, .int x_terms_variablesLack, .int x_terms_symbols, .int x_terms_nodesBefore, .int x_terms_partsBefore, .int x_terms_variablesBefore])), (x_terms_became, .inl (cs 0, x_terms_became_n, .inl x_terms_became_f)), (x_registers, .inl (cs 0, x_registers_n, .inl x_registers_f)), (x_marked, .inr (1, [.ref a_marked_items_1, .int a_marked_size_1])), (a_marked_items_1, .inl (cs 0, a_marked_items_n_1, .inl a_marked_items_f_1))] := ⟨hP, hD⟩
    by_cases hy1_3 : xc1 = 3
    · rw [if_pos hy1_3] at hok
      subst hy1_3
      obtain ⟨ce, cX, e1, e2, e3, e4, -⟩ := hX
      have e2 : s.vm.findClass "java/lang/IndexOutOfBoundsException" = some cX := by rw [← hW.alike.findClass]; exact e2
      obtain ⟨k0, hk0⟩ := Vm.classAt_of_findClass e2
      refine cw_caught (h := 11) rfl hE (by rw [← ht]; exact e1) e4 (by rw [e3]; exact hk0) (fun hpl => Or.inr ⟨by show (0 : Nat) ≤ 3 ∧ (3 : Nat) < 8; decide, by show (13 : Nat) ≠ 0; decide, cw_hit hown (hg _ wd_1125) (va_Nw.use rfl (hgl _ wd_1126)) e2 e3 hpl rfl⟩) ?_
      refine W.eq (g2 := F0 m 11 ls [.ref x1]) rfl ?_
      refine lv_astore_n hx hb d_Law_mark_11 rfl hl (by decide) rfl (fun ls hl => ?_)
      have hl : lv_has ls 3 [(2, .ref x1), (0, .ref x), (1, .ref out)] := hl
      refine lv_iconst (v := 1) hx hb d_Law_mark_12 (by decide) ?_
      obtain ⟨hq, hw⟩ := Prod.mk.inj (Option.some.inj hok)
      obtain ⟨hmc0, hms0⟩ := Prod.mk.inj hw
      obtain ⟨hq0, hq⟩ := Prod.mk.inj hq
      obtain ⟨hq1, hq⟩ := Prod.mk.inj hq
      obtain ⟨hq2, hq⟩ := Prod.mk.inj hq
      obtain ⟨hq3, hq⟩ := Prod.mk.inj hq
      obtain ⟨hq4, hq⟩ := Prod.mk.inj hq
      have hq5 := hq
      subst hq0
      subst hq1
      subst hq2
      subst hq3
      subst hq4
      subst hq5
      obtain ⟨hP9, hD9⟩ := sub2 (ws' := [(x, .inr (9, [.ref x_tape, .ref x_names, .ref x_terms, .ref x_reader, .ref x_unifier, .ref x_printer, .ref x_registers, .ref x_marked, .int a_marks_1, .int x_place])), (x_terms, .inr (7, [.ref x_terms_shapes, .ref x_terms_values, .ref x_terms_firstParts, .int x_terms_nodes, .ref x_terms_parts, .ref x_terms_variableNames, .ref x_terms_became, .int x_terms_variables, .int x_terms_variablesLack, .int x_terms_symbols, .int x_terms_nodesBefore, .int x_terms_partsBefore, .int x_terms_variablesBefore])), (x_terms_became, .inl (cs 0, x_terms_became_n, .inl x_terms_became_f)), (x_registers, .inl (cs 0, x_registers_n, .inl x_registers_f)), (x_marked, .inr (1, [.ref a_marked_items_1, .int a_marked_size_1])), (a_marked_items_1, .inl (cs 0, a_marked_items_n_1, .inl a_marked_items_f_1)), (out, .inl (cs 2, out_n, .inr (.inl out_f)))]) hP hD [1, 2, 3, 4, 5, 6, 0] rfl (by decide) rfl
      refine W.widen (k := mc) (n := ms) (by omega) (by omega) ?_
      rw [hQ]
      exact W.iret (v := 1) hx hb hr (fun t ht hW => ⟨⟨_, (), rfl, rfl, a_marked_items_1, by rw [ht]; exact hP9, hD9⟩, hS.F ht⟩) hS.2.2 d_Law_mark_13
    · rw [if_neg hy1_3] at hok
      cases hok

theorem d_Law_undo_0 : decode b_Law_undo 0 = .ok (.aload_n 1, 1) := by decide +kernel
theorem d_Law_undo_1 : decode b_Law_undo 1 = .ok (.iconst 0, 1) := by decide +kernel
theorem d_Law_undo_2 : decode b_Law_undo 2 = .ok (.aload_n 0, 1) := by decide +kernel
theorem d_Law_undo_3 : decode b_Law_undo 3 = .ok (.invokevirtual 43, 3) := by decide +kernel
theorem d_Law_undo_6 : decode b_Law_undo 6 = .ok (.i2l, 1) := by decide +kernel
theorem d_Law_undo_7 : decode b_Law_undo 7 = .ok (.lastore, 1) := by decide +kernel
theorem d_Law_undo_8 : decode b_Law_undo 8 = .ok (.goto 6, 3) := by decide +kernel
theorem d_Law_undo_11 : decode b_Law_undo 11 = .ok (.astore_n 2, 1) := by decide +kernel
theorem d_Law_undo_12 : decode b_Law_undo 12 = .ok (.iconst 1, 1) := by decide +kernel
theorem d_Law_undo_13 : decode b_Law_undo 13 = .ok (.ireturn, 1) := by decide +kernel
theorem d_Law_undo_14 : decode b_Law_undo 14 = .ok (.iconst 0, 1) := by decide +kernel
theorem d_Law_undo_15 : decode b_Law_undo 15 = .ok (.ireturn, 1) := by decide +kernel
def p_Law_undo (n : Nat) (x_marks : Int32) (x_place : Int32) (x_terms_nodes : Int32) (x_terms_variables : Int32) (x_terms_variablesLack : Int32) (x_terms_symbols : Int32) (x_terms_nodesBefore : Int32) (x_terms_partsBefore : Int32) (x_terms_variablesBefore : Int32) (x_terms_became_n : Nat) (x_terms_became_f : Nat → Int32) (x_registers_n : Nat) (x_registers_f : Nat → Int32) (x_marked_size : Int32) (x_marked_items_n : Nat) (x_marked_items_f : Nat → Int32) (out_n : Nat) (out_f : Nat → Int64) : Option ((Int32 × Int32 × (Nat → Int32) × (Nat → Int32) × Int32 × (Nat → Int64)) × Nat × Nat) := (p_UB_undo n x_marks x_place x_terms_nodes x_terms_variables x_terms_variablesLack x_terms_symbols x_terms_nodesBefore x_terms_partsBefore x_terms_variablesBefore x_terms_became_n x_terms_became_f x_registers_n x_registers_f x_marked_size x_marked_items_n x_marked_items_f).bind (fun ((xc1, r1, a_marks_1, a_terms_became_f_1, a_registers_f_1, a_marked_size_1), mk1, sk1) => al mk1 sk1 (if xc1 = 0 then (ck (ixb 0 out_n) (some (((0 : Int32), a_marks_1, a_terms_became_f_1, a_registers_f_1, a_marked_size_1, vp_updL out_f (0 : Int32).toNatClampNeg r1.toInt64), 0, 0))) else (if xc1 = 4 then (some (((1 : Int32), a_marks_1, a_terms_became_f_1, a_registers_f_1, a_marked_size_1, out_f), 0, 0)) else (none))))
set_option maxHeartbeats 40000000 in
set_option maxRecDepth 100000 in
theorem c_Law_undo (l : Launch) (g : va_G) (cs : Nat → ClassId) (ka : Nat → Nat) (hfl : l.flags = pinnedFlags ++ [noTraceFlag]) (x_tape : Nat) (x_names : Nat) (x_reader : Nat) (x_unifier : Nat) (x_printer : Nat) (x_terms_shapes : Nat) (x_terms_values : Nat) (x_terms_firstParts : Nat) (x_terms_parts : Nat) (x_terms_variableNames : Nat) (x x_terms x_terms_became x_registers x_marked x_marked_items out : Nat) (sz : Nat) (n : Nat) (x_marks : Int32) (x_place : Int32) (x_terms_nodes : Int32) (x_terms_variables : Int32) (x_terms_variablesLack : Int32) (x_terms_symbols : Int32) (x_terms_nodesBefore : Int32) (x_terms_partsBefore : Int32) (x_terms_variablesBefore : Int32) (x_terms_became_n : Nat) (x_terms_became_f : Nat → Int32) (x_registers_n : Nat) (x_registers_f : Nat → Int32) (x_marked_size : Int32) (x_marked_items_n : Nat) (x_marked_items_f : Nat → Int32) (out_n : Nat) (out_f : Nat → Int64) (r : Int32) (o_x_marks : Int32) (o_x_terms_became_f : Nat → Int32) (o_x_registers_f : Nat → Int32) (o_x_marked_size : Int32) (o_out_f : Nat → Int64) (mc ms : Nat) (hok : p_Law_undo n x_marks x_place x_terms_nodes x_terms_variables x_terms_variablesLack x_terms_symbols x_terms_nodesBefore x_terms_partsBefore x_terms_variablesBefore x_terms_became_n x_terms_became_f x_registers_n x_registers_f x_marked_size x_marked_items_n x_marked_items_f out_n out_f = some ((r, o_x_marks, o_x_terms_became_f, o_x_registers_f, o_x_marked_size, o_out_f), mc, ms)) : Met l y_Law_undo (.codeWith y_Law_undo b_Law_undo 3 (some .int) [(0, 8, 11, 37)] :: GW) { frames := 7, cells := mc, slots := ms, locals := 111 } (va_Pc [.ref x, .ref out] (gP g cs ka [(x, .inr (9, [.ref x_tape, .ref x_names, .ref x_terms, .ref x_reader, .ref x_unifier, .ref x_printer, .ref x_registers, .ref x_marked, .int x_marks, .int x_place])), (x_terms, .inr (7, [.ref x_terms_shapes, .ref x_terms_values, .ref x_terms_firstParts, .int x_terms_nodes, .ref x_terms_parts, .ref x_terms_variableNames, .ref x_terms_became, .int x_terms_variables, .int x_terms_variablesLack, .int x_terms_symbols, .int x_terms_nodesBefore, .int x_terms_partsBefore, .int x_terms_variablesBefore])), (x_terms_became, .inl (cs 0, x_terms_became_n, .inl x_terms_became_f)), (x_registers, .inl (cs 0, x_registers_n, .inl x_registers_f)), (x_marked, .inr (1, [.ref x_marked_items, .int x_marked_size])), (x_marked_items, .inl (cs 0, x_marked_items_n, .inl x_marked_items_f)), (out, .inl (cs 2, out_n, .inr (.inl out_f)))] sz)) (va_Qi (fun (r' : Int32) (_ : Unit) => r = r') (fun _ t => va_P g classes [(x, .inr (9, [.ref x_tape, .ref x_names, .ref x_terms, .ref x_reader, .ref x_unifier, .ref x_printer, .ref x_registers, .ref x_marked, .int o_x_marks, .int x_place])), (x_terms, .inr (7, [.ref x_terms_shapes, .ref x_terms_values, .ref x_terms_firstParts, .int x_terms_nodes, .ref x_terms_parts, .ref x_terms_variableNames, .ref x_terms_became, .int x_terms_variables, .int x_terms_variablesLack, .int x_terms_symbols, .int x_terms_nodesBefore, .int x_terms_partsBefore, .int x_terms_variablesBefore])), (x_terms_became, .inl (cs 0, x_terms_became_n, .inl o_x_terms_became_f)), (x_registers, .inl (cs 0, x_registers_n, .inl o_x_registers_f)), (x_marked, .inr (1, [.ref x_marked_items, .int o_x_marked_size])), (x_marked_items, .inl (cs 0, x_marked_items_n, .inl x_marked_items_f)), (out, .inl (cs 2, out_n, .inr (.inl o_out_f)))] t.heap ∧ va_D (va_A [(x, .inr (9, [.ref x_tape, .ref x_names, .ref x_terms, .ref x_reader, .ref x_unifier, .ref x_printer, .ref x_registers, .ref x_marked, .int x_marks, .int x_place])), (x_terms, .inr (7, [.ref x_terms_shapes, .ref x_terms_values, .ref x_terms_firstParts, .int x_terms_nodes, .ref x_terms_parts, .ref x_terms_variableNames, .ref x_terms_became, .int x_terms_variables, .int x_terms_variablesLack, .int x_terms_symbols, .int x_terms_nodesBefore, .int x_terms_partsBefore, .int x_terms_variablesBefore])), (x_terms_became, .inl (cs 0, x_terms_became_n, .inl x_terms_became_f)), (x_registers, .inl (cs 0, x_registers_n, .inl x_registers_f)), (x_marked, .inr (1, [.ref x_marked_items, .int x_marked_size])), (x_marked_items, .inl (cs 0, x_marked_items_n, .inl x_marked_items_f)), (out, .inl (cs 2, out_n, .inr (.inl out_f)))] sz) [(x, .inr (9, [.ref x_tape, .ref x_names, .ref x_terms, .ref x_reader, .ref x_unifier, .ref x_printer, .ref x_registers, .ref x_marked, .int o_x_marks, .int x_place])), (x_terms, .inr (7, [.ref x_terms_shapes, .ref x_terms_values, .ref x_terms_firstParts, .int x_terms_nodes, .ref x_terms_parts, .ref x_terms_variableNames, .ref x_terms_became, .int x_terms_variables, .int x_terms_variablesLack, .int x_terms_symbols, .int x_terms_nodesBefore, .int x_terms_partsBefore, .int x_terms_variablesBefore])), (x_terms_became, .inl (cs 0, x_terms_became_n, .inl o_x_terms_became_f)), (x_registers, .inl (cs 0, x_registers_n, .inl o_x_registers_f)), (x_marked, .inr (1, [.ref x_marked_items, .int o_x_marked_size])), (x_marked_items, .inl (cs 0, x_marked_items_n, .inl x_marked_items_f)), (out, .inl (cs 2, out_n, .inr (.inl o_out_f)))]) (va_A [(x, .inr (9, [.ref x_tape, .ref x_names, .ref x_terms, .ref x_reader, .ref x_unifier, .ref x_printer, .ref x_registers, .ref x_marked, .int x_marks, .int x_place])), (x_terms, .inr (7, [.ref x_terms_shapes, .ref x_terms_values, .ref x_terms_firstParts, .int x_terms_nodes, .ref x_terms_parts, .ref x_terms_variableNames, .ref x_terms_became, .int x_terms_variables, .int x_terms_variablesLack, .int x_terms_symbols, .int x_terms_nodesBefore, .int x_terms_partsBefore, .int x_terms_variablesBefore])), (x_terms_became, .inl (cs 0, x_terms_became_n, .inl x_terms_became_f)), (x_registers, .inl (cs 0, x_registers_n, .inl x_registers_f)), (x_marked, .inr (1, [.ref x_marked_items, .int x_marked_size])), (x_marked_items, .inl (cs 0, x_marked_items_n, .inl x_marked_items_f)), (out, .inl (cs 2, out_n, .inr (.inl out_f)))] sz)) mc ms (va_A [(x, .inr (9, [.ref x_tape, .ref x_names, .ref x_terms, .ref x_reader, .ref x_unifier, .ref x_printer, .ref x_registers, .ref x_marked, .int x_marks, .int x_place])), (x_terms, .inr (7, [.ref x_terms_shapes, .ref x_terms_values, .ref x_terms_firstParts, .int x_terms_nodes, .ref x_terms_parts, .ref x_terms_variableNames, .ref x_terms_became, .int x_terms_variables, .int x_terms_variablesLack, .int x_terms_symbols, .int x_terms_nodesBefore, .int x_terms_partsBefore, .int x_terms_variablesBefore])), (x_terms_became, .inl (cs 0, x_terms_became_n, .inl x_terms_became_f)), (x_registers, .inl (cs 0, x_registers_n, .inl x_registers_f)), (x_marked, .inr (1, [.ref x_marked_items, .int x_marked_size])), (x_marked_items, .inl (cs 0, x_marked_items_n, .inl x_marked_items_f)), (out, .inl (cs 2, out_n, .inr (.inl out_f)))] sz) := by
  refine va_MetW (cc := b_Law_undo) (maxL := 3) (ret := (some .int)) (by decide) rfl ?_
  intro p e s m args below meth c s₁ B hml hv
  obtain ⟨rfl, hsz, hP, hK, hD0, hgl, hkn, hkr⟩ := hv
  have hx := B.exec
  have hb := B.bytes
  have hr := B.returns
  have hg : ∀ w ∈ GW, w.before ([.ref x, .ref out] : List Value).toArray s = true := fun w hw => atoms_spec (ws := .codeWith y_Law_undo b_Law_undo 3 (some .int) [(0, 8, 11, 37)] :: GW) B.pre w (List.mem_cons_of_mem _ hw)
  have hown : s.vm.findClass R_Law = some m.cls := findClass_of_methodNamed B.named
  have hlocks := B.notSynchronized
  have hcd : (Cond.codeWith y_Law_undo b_Law_undo 3 (some .int) [(0, 8, 11, 37)]).before ([.ref x, .ref out] : List Value).toArray s = true := atoms_spec (ws := .codeWith y_Law_undo b_Law_undo 3 (some .int) [(0, 8, 11, 37)] :: GW) B.pre _ List.mem_cons_self
  have hE := cw_hand B hcd
  subst hsz
  have hD := hD0.self (sz := s.heap.size)
  generalize hAe : va_A [(x, .inr (9, [.ref x_tape, .ref x_names, .ref x_terms, .ref x_reader, .ref x_unifier, .ref x_printer, .ref x_registers, .ref x_marked, .int x_marks, .int x_place])), (x_terms, .inr (7, [.ref x_terms_shapes, .ref x_terms_values, .ref x_terms_firstParts, .int x_terms_nodes, .ref x_terms_parts, .ref x_terms_variableNames, .ref x_terms_became, .int x_terms_variables, .int x_terms_variablesLack, .int x_terms_symbols, .int x_terms_nodesBefore, .int x_terms_partsBefore, .int x_terms_variablesBefore])), (x_terms_became, .inl (cs 0, x_terms_became_n, .inl x_terms_became_f)), (x_registers, .inl (cs 0, x_registers_n, .inl x_registers_f)), (x_marked, .inr (1, [.ref x_marked_items, .int x_marked_size])), (x_marked_items, .inl (cs 0, x_marked_items_n, .inl x_marked_items_f)), (out, .inl (cs 2, out_n, .inr (.inl out_f)))] s.heap.size = A at hD hkn ⊢
  have hA : ∀ q : Nat, s.heap.size ≤ q → A q := fun q h => by rw [← hAe]; exact Or.inr h
  have hS : va_S A s.heap s.heap [] := va_S.rf
  have hP : va_P g classes [(x, .inr (9, [.ref x_tape, .ref x_names, .ref x_terms, .ref x_reader, .ref x_unifier, .ref x_printer, .ref x_registers, .ref x_marked, .int x_marks, .int x_place])), (x_terms, .inr (7, [.ref x_terms_shapes, .ref x_terms_values, .ref x_terms_firstParts, .int x_terms_nodes, .ref x_terms_parts, .ref x_terms_variableNames, .ref x_terms_became, .int x_terms_variables, .int x_terms_variablesLack, .int x_terms_symbols, .int x_terms_nodesBefore, .int x_terms_partsBefore, .int x_terms_variablesBefore])), (x_terms_became, .inl (cs 0, x_terms_became_n, .inl x_terms_became_f)), (x_registers, .inl (cs 0, x_registers_n, .inl x_registers_f)), (x_marked, .inr (1, [.ref x_marked_items, .int x_marked_size])), (x_marked_items, .inl (cs 0, x_marked_items_n, .inl x_marked_items_f)), (out, .inl (cs 2, out_n, .inr (.inl out_f)))] s.heap := hP
  have hl := lv_entry ([.ref x, .ref out]) (n := 3) (Nat.le_of_ble_eq_true rfl)
  rw [lg_entry_eq]
  generalize (lg_sl ([.ref x, .ref out]) ++ List.replicate (3 - (lg_sl ([.ref x, .ref out])).length) Slot.unset).toArray = ls at hl ⊢
  have hl : lv_has ls 3 [(0, .ref x), (1, .ref out)] := hl
  refine gq (fun Q hQ => ?_)
  obtain ⟨H, hH⟩ : ∃ H : Heap, H = s.heap := ⟨_, rfl⟩
  rw [← hH] at hP
  have hS : va_S A s.heap H [] := by rw [hH]; exact hS
  refine W.eqH hH ?_
  obtain ⟨locs, hlc⟩ : ∃ L : List Loc, L = [] := ⟨_, rfl⟩
  rw [← hlc] at hS ⊢
  unfold p_Law_undo at hok
  refine lv_aload_n hx hb d_Law_undo_0 rfl (lv_at hl 1 rfl) ?_
  refine lv_iconst (v := 0) hx hb d_Law_undo_1 (by decide) ?_
  refine lv_aload_n hx hb d_Law_undo_2 rfl (lv_at hl 0 rfl) ?_
  obtain ⟨⟨⟨xc1, r1, a_marks_1, a_terms_became_f_1, a_registers_f_1, a_marked_size_1⟩, mk1, sk1⟩, hc1, hok⟩ := bd_some hok
  dsimp only at hok
  obtain ⟨m1, s1, hok, hmc1, hms1⟩ := al_some hok
  obtain ⟨hPc, hDc, hFc⟩ := cut0 (wc := [(x, .inr (9, [.ref x_tape, .ref x_names, .ref x_terms, .ref x_reader, .ref x_unifier, .ref x_printer, .ref x_registers, .ref x_marked, .int x_marks, .int x_place])), (x_terms, .inr (7, [.ref x_terms_shapes, .ref x_terms_values, .ref x_terms_firstParts, .int x_terms_nodes, .ref x_terms_parts, .ref x_terms_variableNames, .ref x_terms_became, .int x_terms_variables, .int x_terms_variablesLack, .int x_terms_symbols, .int x_terms_nodesBefore, .int x_terms_partsBefore, .int x_terms_variablesBefore])), (x_terms_became, .inl (cs 0, x_terms_became_n, .inl x_terms_became_f)), (x_registers, .inl (cs 0, x_registers_n, .inl x_registers_f)), (x_marked, .inr (1, [.ref x_marked_items, .int x_marked_size])), (x_marked_items, .inl (cs 0, x_marked_items_n, .inl x_marked_items_f))]) hP hD hS hA [0, 1, 2, 3, 4, 5] (by decide) rfl
  refine cw_call (A1 := va_A [(x, .inr (9, [.ref x_tape, .ref x_names, .ref x_terms, .ref x_reader, .ref x_unifier, .ref x_printer, .ref x_registers, .ref x_marked, .int x_marks, .int x_place])), (x_terms, .inr (7, [.ref x_terms_shapes, .ref x_terms_values, .ref x_terms_firstParts, .int x_terms_nodes, .ref x_terms_parts, .ref x_terms_variableNames, .ref x_terms_became, .int x_terms_variables, .int x_terms_variablesLack, .int x_terms_symbols, .int x_terms_nodesBefore, .int x_terms_partsBefore, .int x_terms_variablesBefore])), (x_terms_became, .inl (cs 0, x_terms_became_n, .inl x_terms_became_f)), (x_registers, .inl (cs 0, x_registers_n, .inl x_registers_f)), (x_marked, .inr (1, [.ref x_marked_items, .int x_marked_size])), (x_marked_items, .inl (cs 0, x_marked_items_n, .inl x_marked_items_f))] H.size) (tx_runV (As := []) (rest := [.int 0, .ref out]) ⟨hx, hb, hml, hown, hg⟩ (c_UB_undo l g cs ka hfl x_tape x_names x_reader x_unifier x_printer x_terms_shapes x_terms_values x_terms_firstParts x_terms_parts x_terms_variableNames x x_terms x_terms_became x_registers x_marked x_marked_items H.size n x_marks x_place x_terms_nodes x_terms_variables x_terms_variablesLack x_terms_symbols x_terms_nodesBefore x_terms_partsBefore x_terms_variablesBefore x_terms_became_n x_terms_became_f x_registers_n x_registers_f x_marked_size x_marked_items_n x_marked_items_f xc1 r1 a_marks_1 a_terms_became_f_1 a_registers_f_1 a_marked_size_1 mk1 sk1 hc1) (cwV (C := R_UB) 0 hg (gw_V wd_1138 wd_1139 wd_1140 wd_632 wd_1137) rfl rfl rfl (by decide +kernel) ⟨Nat.le_of_ble_eq_true rfl, Nat.le_of_ble_eq_true rfl⟩) ⟨gP_blind, va_recv (q0 := 0) (ci := 9) (q := (R_UB, F_UB, 10)) hK hP rfl rfl, gP_pre hPc hDc hK hgl hkn hkr hS hFc⟩ rfl rfl hl.1 rfl (lv_room (Nat.le_of_ble_eq_true rfl)) d_Law_undo_3 ⟨show 0 + mk1 ≤ mc from by omega, show 0 + sk1 ≤ ms from by omega⟩) hS (fun st o t h0 hq => hq.2) (fun q _ h => hFc q h) hFc (fun v1 st₀ t H locs h0 ht hW hB hz1 hk1 hS => ?_) (fun x1 st₀ t H locs h0 ht hW hB hz1 hk1 hS => ?_)
  · obtain ⟨⟨hO, hB⟩, -⟩ := hB
    obtain ⟨hx1, hv1⟩ := hO.ret
    subst hv1
    rw [if_pos hx1] at hok
    rw [ht] at hB
    obtain ⟨hP1, hD1⟩ := hB
    obtain ⟨hP, hD⟩ := jn_A hP hD [0, 1, 2, 3, 4, 5] [6] rfl rfl (by decide) (by decide) hk1 hFc hP1 hD1
    obtain ⟨hP, hD⟩ : PD g A H [(out, .inl (cs 2, out_n, .inr (.inl out_f))), (x, .inr (9, [.ref x_tape, .ref x_names, .ref x_terms, .ref x_reader, .ref x_unifier, .ref x_printer, .ref x_registers, .ref x_marked, .int a_marks_1, .int x_place])), (x_terms, .inr (7, [.ref x_terms_shapes, .ref x_terms_values, .ref x_terms_firstParts, .int x_terms_nodes, .ref x_terms_parts, .ref x_terms_variableNames, .ref x_terms_became, .int x_terms_variables, .int x_terms_variablesLack, .int x_terms_symbols, .int x_terms_nodesBefore, .int x_terms_partsBefore, .int x_terms_variablesBefore])), (x_terms_became, .inl (cs 0, x_terms_became_n, .inl a_terms_became_f_1)), (x_registers, .inl (cs 0, x_registers_n, .inl a_registers_f_1)), (x_marked, .inr (1, [.ref x_marked_items, .int a_marked_size_1])), (x_marked_items, .inl (cs 0, x_marked_items_n, .inl x_marked_items_f))] := ⟨hP, hD⟩
    refine W.eq (g2 := F0 m 6 ls [.int r1, .int 0, .ref out]) rfl ?_
    refine lv_i2l hx hb d_Law_undo_6 rfl ?_
    obtain ⟨hi2, hok⟩ := ck_some hok
    refine va_last hx hb hK hP hD hS 0 2 rfl rfl (ixb_in hi2) d_Law_undo_7 (fun H locs hP hD hS => ?_)
    obtain ⟨hP, hD⟩ : PD g A H [(out, .inl (cs 2, out_n, .inr (.inl (vp_updL out_f (0 : Int32).toNatClampNeg r1.toInt64)))), (x, .inr (9, [.ref x_tape, .ref x_names, .ref x_terms, .ref x_reader, .ref x_unifier, .ref x_printer, .ref x_registers, .ref x_marked, .int a_marks_1, .int x_place])), (x_terms, .inr (7, [.ref x_terms_shapes, .ref x_terms_values, .ref x_terms_firstParts, .int x_terms_nodes, .ref x_terms_parts, .ref x_terms_variableNames, .ref x_terms_became, .int x_terms_variables, .int x_terms_variablesLack, .int x_terms_symbols, .int x_terms_nodesBefore, .int x_terms_partsBefore, .int x_terms_variablesBefore])), (x_terms_became, .inl (cs 0, x_terms_became_n, .inl a_terms_became_f_1)), (x_registers, .inl (cs 0, x_registers_n, .inl a_registers_f_1)), (x_marked, .inr (1, [.ref x_marked_items, .int a_marked_size_1])), (x_marked_items, .inl (cs 0, x_marked_items_n, .inl x_marked_items_f))] := ⟨hP, hD⟩
    refine lv_goto hx hb d_Law_undo_8 rfl ?_
    refine lv_iconst (v := 0) hx hb d_Law_undo_14 (by decide) ?_
    obtain ⟨hq, hw⟩ := Prod.mk.inj (Option.some.inj hok)
    obtain ⟨hmc0, hms0⟩ := Prod.mk.inj hw
    obtain ⟨hq0, hq⟩ := Prod.mk.inj hq
    obtain ⟨hq1, hq⟩ := Prod.mk.inj hq
    obtain ⟨hq2, hq⟩ := Prod.mk.inj hq
    obtain ⟨hq3, hq⟩ := Prod.mk.inj hq
    obtain ⟨hq4, hq⟩ := Prod.mk.inj hq
    have hq5 := hq
    subst hq0
    subst hq1
    subst hq2
    subst hq3
    subst hq4
    subst hq5
    obtain ⟨hP9, hD9⟩ := sub2 (ws' := [(x, .inr (9, [.ref x_tape, .ref x_names, .ref x_terms, .ref x_reader, .ref x_unifier, .ref x_printer, .ref x_registers, .ref x_marked, .int a_marks_1, .int x_place])), (x_terms, .inr (7, [.ref x_terms_shapes, .ref x_terms_values, .ref x_terms_firstParts, .int x_terms_nodes, .ref x_terms_parts, .ref x_terms_variableNames, .ref x_terms_became, .int x_terms_variables, .int x_terms_variablesLack, .int x_terms_symbols, .int x_terms_nodesBefore, .int x_terms_partsBefore, .int x_terms_variablesBefore])), (x_terms_became, .inl (cs 0, x_terms_became_n, .inl a_terms_became_f_1)), (x_registers, .inl (cs 0, x_registers_n, .inl a_registers_f_1)), (x_marked, .inr (1, [.ref x_marked_items, .int a_marked_size_1])), (x_marked_items, .inl (cs 0, x_marked_items_n, .inl x_marked_items_f)), (out, .inl (cs 2, out_n, .inr (.inl (vp_updL out_f (0 : Int32).toNatClampNeg r1.toInt64))))]) hP hD [1, 2, 3, 4, 5, 6, 0] rfl (by decide) rfl
    refine W.widen (k := mc) (n := ms) (by omega) (by omega) ?_
    rw [hQ]
    exact W.iret (v := 0) hx hb hr (fun t ht hW => ⟨⟨_, (), rfl, rfl, by rw [ht]; exact hP9, hD9⟩, hS.F ht⟩) hS.2.2 d_Law_undo_15
  · obtain ⟨⟨hO, hB⟩, -⟩ := hB
    obtain ⟨hx1, hX⟩ := hO.thr
    rw [if_neg hx1] at hok
    rw [ht] at hB
    obtain ⟨hP1, hD1⟩ := hB
    obtain ⟨hP, hD⟩ := jn_A hP hD [0, 1, 2, 3, 4, 5] [6] rfl rfl (by decide) (by decide) hk1 hFc hP1 hD1
    obtain ⟨hP, hD⟩ : PD g A H [(out, .inl (cs 2, out_n, .inr (.inl out_f))), (x, .inr (9, [.ref x_tape, .ref x_names, .ref x_terms, .ref x_reader, .ref x_unifier, .ref x_printer, .ref x_registers, .ref x_marked, .int a_marks_1, .int x_place])), (x_terms, .inr (7, [.ref x_terms_shapes, .ref x_terms_values, .ref x_terms_firstParts, .int x_terms_nodes, .ref x_terms_parts, .ref x_terms_variableNames, .ref x_terms_became, .int x_terms_variables, .int x_terms_variablesLack, .int x_terms_symbols, .int x_terms_nodesBefore, .int x_terms_partsBefore, .int x_terms_variablesBefore])), (x_terms_became, .inl (cs 0, x_terms_became_n, .inl a_terms_became_f_1)), (x_registers, .inl (cs 0, x_registers_n, .inl a_registers_f_1)), (x_marked, .inr (1, [.ref x_marked_items, .int a_marked_size_1])), (x_marked_items, .inl (cs 0, x_marked_items_n, .inl x_marked_items_f))] := ⟨hP, hD⟩
    by_cases hy1_4 : xc1 = 4
    · rw [if_pos hy1_4] at hok
      subst hy1_4
      obtain ⟨ce, cX, e1, e2, e3, e4, -⟩ := hX
      have e2 : s.vm.findClass "java/util/NoSuchElementException" = some cX := by rw [← hW.alike.findClass]; exact e2
      obtain ⟨k0, hk0⟩ := Vm.classAt_of_findClass e2
      refine cw_caught (h := 11) rfl hE (by rw [← ht]; exact e1) e4 (by rw [e3]; exact hk0) (fun hpl => Or.inr ⟨by show (0 : Nat) ≤ 3 ∧ (3 : Nat) < 8; decide, by show (37 : Nat) ≠ 0; decide, cw_hit hown (hg _ wd_1141) (va_Nw.use rfl (hgl _ wd_1142)) e2 e3 hpl rfl⟩) ?_
      refine W.eq (g2 := F0 m 11 ls [.ref x1]) rfl ?_
      refine lv_astore_n hx hb d_Law_undo_11 rfl hl (by decide) rfl (fun ls hl => ?_)
      have hl : lv_has ls 3 [(2, .ref x1), (0, .ref x), (1, .ref out)] := hl
      refine lv_iconst (v := 1) hx hb d_Law_undo_12 (by decide) ?_
      obtain ⟨hq, hw⟩ := Prod.mk.inj (Option.some.inj hok)
      obtain ⟨hmc0, hms0⟩ := Prod.mk.inj hw
      obtain ⟨hq0, hq⟩ := Prod.mk.inj hq
      obtain ⟨hq1, hq⟩ := Prod.mk.inj hq
      obtain ⟨hq2, hq⟩ := Prod.mk.inj hq
      obtain ⟨hq3, hq⟩ := Prod.mk.inj hq
      obtain ⟨hq4, hq⟩ := Prod.mk.inj hq
      have hq5 := hq
      subst hq0
      subst hq1
      subst hq2
      subst hq3
      subst hq4
      subst hq5
      obtain ⟨hP9, hD9⟩ := sub2 (ws' := [(x, .inr (9, [.ref x_tape, .ref x_names, .ref x_terms, .ref x_reader, .ref x_unifier, .ref x_printer, .ref x_registers, .ref x_marked, .int a_marks_1, .int x_place])), (x_terms, .inr (7, [.ref x_terms_shapes, .ref x_terms_values, .ref x_terms_firstParts, .int x_terms_nodes, .ref x_terms_parts, .ref x_terms_variableNames, .ref x_terms_became, .int x_terms_variables, .int x_terms_variablesLack, .int x_terms_symbols, .int x_terms_nodesBefore, .int x_terms_partsBefore, .int x_terms_variablesBefore])), (x_terms_became, .inl (cs 0, x_terms_became_n, .inl a_terms_became_f_1)), (x_registers, .inl (cs 0, x_registers_n, .inl a_registers_f_1)), (x_marked, .inr (1, [.ref x_marked_items, .int a_marked_size_1])), (x_marked_items, .inl (cs 0, x_marked_items_n, .inl x_marked_items_f)), (out, .inl (cs 2, out_n, .inr (.inl out_f)))]) hP hD [1, 2, 3, 4, 5, 6, 0] rfl (by decide) rfl
      refine W.widen (k := mc) (n := ms) (by omega) (by omega) ?_
      rw [hQ]
      exact W.iret (v := 1) hx hb hr (fun t ht hW => ⟨⟨_, (), rfl, rfl, by rw [ht]; exact hP9, hD9⟩, hS.F ht⟩) hS.2.2 d_Law_undo_13
    · rw [if_neg hy1_4] at hok
      cases hok

theorem d_Law_unify_0 : decode b_Law_unify 0 = .ok (.aload_n 3, 1) := by decide +kernel
theorem d_Law_unify_1 : decode b_Law_unify 1 = .ok (.iconst 0, 1) := by decide +kernel
theorem d_Law_unify_2 : decode b_Law_unify 2 = .ok (.aload_n 0, 1) := by decide +kernel
theorem d_Law_unify_3 : decode b_Law_unify 3 = .ok (.iload_n 1, 1) := by decide +kernel
theorem d_Law_unify_4 : decode b_Law_unify 4 = .ok (.iload_n 2, 1) := by decide +kernel
theorem d_Law_unify_5 : decode b_Law_unify 5 = .ok (.invokevirtual 26, 3) := by decide +kernel
theorem d_Law_unify_8 : decode b_Law_unify 8 = .ok (.ifCond .eq 7, 3) := by decide +kernel
theorem d_Law_unify_11 : decode b_Law_unify 11 = .ok (.lconst 1, 1) := by decide +kernel
theorem d_Law_unify_12 : decode b_Law_unify 12 = .ok (.goto 4, 3) := by decide +kernel
theorem d_Law_unify_15 : decode b_Law_unify 15 = .ok (.lconst 0, 1) := by decide +kernel
theorem d_Law_unify_16 : decode b_Law_unify 16 = .ok (.lastore, 1) := by decide +kernel
theorem d_Law_unify_17 : decode b_Law_unify 17 = .ok (.goto 7, 3) := by decide +kernel
theorem d_Law_unify_20 : decode b_Law_unify 20 = .ok (.astore 4, 2) := by decide +kernel
theorem d_Law_unify_22 : decode b_Law_unify 22 = .ok (.iconst 1, 1) := by decide +kernel
theorem d_Law_unify_23 : decode b_Law_unify 23 = .ok (.ireturn, 1) := by decide +kernel
theorem d_Law_unify_24 : decode b_Law_unify 24 = .ok (.iconst 0, 1) := by decide +kernel
theorem d_Law_unify_25 : decode b_Law_unify 25 = .ok (.ireturn, 1) := by decide +kernel
def p_Law_unify (n : Nat) (p0 : Int32) (p1 : Int32) (x_marks : Int32) (x_place : Int32) (x_terms_nodes : Int32) (x_terms_variables : Int32) (x_terms_variablesLack : Int32) (x_terms_symbols : Int32) (x_terms_nodesBefore : Int32) (x_terms_partsBefore : Int32) (x_terms_variablesBefore : Int32) (x_terms_shapes_n : Nat) (x_terms_shapes_f : Nat → Int32) (x_terms_values_n : Nat) (x_terms_values_f : Nat → Int64) (x_terms_firstParts_n : Nat) (x_terms_firstParts_f : Nat → Int32) (x_terms_parts_size : Int32) (x_terms_parts_items_n : Nat) (x_terms_parts_items_f : Nat → Int32) (x_terms_became_n : Nat) (x_terms_became_f : Nat → Int32) (x_unifier_links_n : Nat) (x_unifier_links_f : Nat → Int32) (x_unifier_states_n : Nat) (x_unifier_states_f : Nat → Int32) (x_unifier_pairs_size : Int32) (x_unifier_pairs_items_n : Nat) (x_unifier_pairs_items_f : Nat → Int32) (x_unifier_joined_size : Int32) (x_unifier_joined_items_n : Nat) (x_unifier_joined_items_f : Nat → Int32) (x_unifier_seen_size : Int32) (x_unifier_seen_items_n : Nat) (x_unifier_seen_items_f : Nat → Int32) (x_unifier_path_size : Int32) (x_unifier_path_items_n : Nat) (x_unifier_path_items_f : Nat → Int32) (x_registers_n : Nat) (x_registers_f : Nat → Int32) (out_n : Nat) (out_f : Nat → Int64) : Option ((Int32 × (Nat → Int32) × Nat × (Nat → Int32) × Nat × (Nat → Int32) × Int32 × Nat × (Nat → Int32) × Int32 × Nat × (Nat → Int32) × Int32 × Nat × (Nat → Int32) × Int32 × Nat × (Nat → Int32) × (Nat → Int64)) × Nat × Nat) := (p_UB_unify n p0 p1 x_marks x_place x_terms_nodes x_terms_variables x_terms_variablesLack x_terms_symbols x_terms_nodesBefore x_terms_partsBefore x_terms_variablesBefore x_terms_shapes_n x_terms_shapes_f x_terms_values_n x_terms_values_f x_terms_firstParts_n x_terms_firstParts_f x_terms_parts_size x_terms_parts_items_n x_terms_parts_items_f x_terms_became_n x_terms_became_f x_unifier_links_n x_unifier_links_f x_unifier_states_n x_unifier_states_f x_unifier_pairs_size x_unifier_pairs_items_n x_unifier_pairs_items_f x_unifier_joined_size x_unifier_joined_items_n x_unifier_joined_items_f x_unifier_seen_size x_unifier_seen_items_n x_unifier_seen_items_f x_unifier_path_size x_unifier_path_items_n x_unifier_path_items_f x_registers_n x_registers_f).bind (fun ((xc1, r1, a_terms_became_f_1, a_unifier_links_n_1, a_unifier_links_f_1, a_unifier_states_n_1, a_unifier_states_f_1, a_unifier_pairs_size_1, a_unifier_pairs_items_n_1, a_unifier_pairs_items_f_1, a_unifier_joined_size_1, a_unifier_joined_items_n_1, a_unifier_joined_items_f_1, a_unifier_seen_size_1, a_unifier_seen_items_n_1, a_unifier_seen_items_f_1, a_unifier_path_size_1, a_unifier_path_items_n_1, a_unifier_path_items_f_1), mk1, sk1) => al mk1 sk1 (if xc1 = 0 then (if r1 = 0 then (ck (ixb 0 out_n) (some (((0 : Int32), a_terms_became_f_1, a_unifier_links_n_1, a_unifier_links_f_1, a_unifier_states_n_1, a_unifier_states_f_1, a_unifier_pairs_size_1, a_unifier_pairs_items_n_1, a_unifier_pairs_items_f_1, a_unifier_joined_size_1, a_unifier_joined_items_n_1, a_unifier_joined_items_f_1, a_unifier_seen_size_1, a_unifier_seen_items_n_1, a_unifier_seen_items_f_1, a_unifier_path_size_1, a_unifier_path_items_n_1, a_unifier_path_items_f_1, vp_updL out_f (0 : Int32).toNatClampNeg 0), 0, 0))) else (ck (ixb 0 out_n) (some (((0 : Int32), a_terms_became_f_1, a_unifier_links_n_1, a_unifier_links_f_1, a_unifier_states_n_1, a_unifier_states_f_1, a_unifier_pairs_size_1, a_unifier_pairs_items_n_1, a_unifier_pairs_items_f_1, a_unifier_joined_size_1, a_unifier_joined_items_n_1, a_unifier_joined_items_f_1, a_unifier_seen_size_1, a_unifier_seen_items_n_1, a_unifier_seen_items_f_1, a_unifier_path_size_1, a_unifier_path_items_n_1, a_unifier_path_items_f_1, vp_updL out_f (0 : Int32).toNatClampNeg 1), 0, 0)))) else (if xc1 = 1 then (some (((1 : Int32), a_terms_became_f_1, a_unifier_links_n_1, a_unifier_links_f_1, a_unifier_states_n_1, a_unifier_states_f_1, a_unifier_pairs_size_1, a_unifier_pairs_items_n_1, a_unifier_pairs_items_f_1, a_unifier_joined_size_1, a_unifier_joined_items_n_1, a_unifier_joined_items_f_1, a_unifier_seen_size_1, a_unifier_seen_items_n_1, a_unifier_seen_items_f_1, a_unifier_path_size_1, a_unifier_path_items_n_1, a_unifier_path_items_f_1, out_f), 0, 0)) else (none))))
set_option maxHeartbeats 40000000 in
set_option maxRecDepth 100000 in
theorem c_Law_unify (l : Launch) (g : va_G) (cs : Nat → ClassId) (ka : Nat → Nat) (hfl : l.flags = pinnedFlags ++ [noTraceFlag]) (x_tape : Nat) (x_names : Nat) (x_reader : Nat) (x_printer : Nat) (x_marked : Nat) (x_terms_variableNames : Nat) (x x_terms x_terms_shapes x_terms_values x_terms_firstParts x_terms_parts x_terms_parts_items x_terms_became x_unifier x_unifier_links x_unifier_states x_unifier_pairs x_unifier_pairs_items x_unifier_joined x_unifier_joined_items x_unifier_seen x_unifier_seen_items x_unifier_path x_unifier_path_items x_registers out : Nat) (sz : Nat) (n : Nat) (p0 : Int32) (p1 : Int32) (x_marks : Int32) (x_place : Int32) (x_terms_nodes : Int32) (x_terms_variables : Int32) (x_terms_variablesLack : Int32) (x_terms_symbols : Int32) (x_terms_nodesBefore : Int32) (x_terms_partsBefore : Int32) (x_terms_variablesBefore : Int32) (x_terms_shapes_n : Nat) (x_terms_shapes_f : Nat → Int32) (x_terms_values_n : Nat) (x_terms_values_f : Nat → Int64) (x_terms_firstParts_n : Nat) (x_terms_firstParts_f : Nat → Int32) (x_terms_parts_size : Int32) (x_terms_parts_items_n : Nat) (x_terms_parts_items_f : Nat → Int32) (x_terms_became_n : Nat) (x_terms_became_f : Nat → Int32) (x_unifier_links_n : Nat) (x_unifier_links_f : Nat → Int32) (x_unifier_states_n : Nat) (x_unifier_states_f : Nat → Int32) (x_unifier_pairs_size : Int32) (x_unifier_pairs_items_n : Nat) (x_unifier_pairs_items_f : Nat → Int32) (x_unifier_joined_size : Int32) (x_unifier_joined_items_n : Nat) (x_unifier_joined_items_f : Nat → Int32) (x_unifier_seen_size : Int32) (x_unifier_seen_items_n : Nat) (x_unifier_seen_items_f : Nat → Int32) (x_unifier_path_size : Int32) (x_unifier_path_items_n : Nat) (x_unifier_path_items_f : Nat → Int32) (x_registers_n : Nat) (x_registers_f : Nat → Int32) (out_n : Nat) (out_f : Nat → Int64) (r : Int32) (o_x_terms_became_f : Nat → Int32) (o_x_unifier_links_n : Nat) (o_x_unifier_links_f : Nat → Int32) (o_x_unifier_states_n : Nat) (o_x_unifier_states_f : Nat → Int32) (o_x_unifier_pairs_size : Int32) (o_x_unifier_pairs_items_n : Nat) (o_x_unifier_pairs_items_f : Nat → Int32) (o_x_unifier_joined_size : Int32) (o_x_unifier_joined_items_n : Nat) (o_x_unifier_joined_items_f : Nat → Int32) (o_x_unifier_seen_size : Int32) (o_x_unifier_seen_items_n : Nat) (o_x_unifier_seen_items_f : Nat → Int32) (o_x_unifier_path_size : Int32) (o_x_unifier_path_items_n : Nat) (o_x_unifier_path_items_f : Nat → Int32) (o_out_f : Nat → Int64) (mc ms : Nat) (hok : p_Law_unify n p0 p1 x_marks x_place x_terms_nodes x_terms_variables x_terms_variablesLack x_terms_symbols x_terms_nodesBefore x_terms_partsBefore x_terms_variablesBefore x_terms_shapes_n x_terms_shapes_f x_terms_values_n x_terms_values_f x_terms_firstParts_n x_terms_firstParts_f x_terms_parts_size x_terms_parts_items_n x_terms_parts_items_f x_terms_became_n x_terms_became_f x_unifier_links_n x_unifier_links_f x_unifier_states_n x_unifier_states_f x_unifier_pairs_size x_unifier_pairs_items_n x_unifier_pairs_items_f x_unifier_joined_size x_unifier_joined_items_n x_unifier_joined_items_f x_unifier_seen_size x_unifier_seen_items_n x_unifier_seen_items_f x_unifier_path_size x_unifier_path_items_n x_unifier_path_items_f x_registers_n x_registers_f out_n out_f = some ((r, o_x_terms_became_f, o_x_unifier_links_n, o_x_unifier_links_f, o_x_unifier_states_n, o_x_unifier_states_f, o_x_unifier_pairs_size, o_x_unifier_pairs_items_n, o_x_unifier_pairs_items_f, o_x_unifier_joined_size, o_x_unifier_joined_items_n, o_x_unifier_joined_items_f, o_x_unifier_seen_size, o_x_unifier_seen_items_n, o_x_unifier_seen_items_f, o_x_unifier_path_size, o_x_unifier_path_items_n, o_x_unifier_path_items_f, o_out_f), mc, ms)) : Met l y_Law_unify (.codeWith y_Law_unify b_Law_unify 5 (some .int) [(0, 17, 20, 19)] :: GW) { frames := 8, cells := mc, slots := ms, locals := 260 } (va_Pc [.ref x, .int p0, .int p1, .ref out] (gP g cs ka [(x, .inr (9, [.ref x_tape, .ref x_names, .ref x_terms, .ref x_reader, .ref x_unifier, .ref x_printer, .ref x_registers, .ref x_marked, .int x_marks, .int x_place])), (x_terms, .inr (7, [.ref x_terms_shapes, .ref x_terms_values, .ref x_terms_firstParts, .int x_terms_nodes, .ref x_terms_parts, .ref x_terms_variableNames, .ref x_terms_became, .int x_terms_variables, .int x_terms_variablesLack, .int x_terms_symbols, .int x_terms_nodesBefore, .int x_terms_partsBefore, .int x_terms_variablesBefore])), (x_terms_shapes, .inl (cs 0, x_terms_shapes_n, .inl x_terms_shapes_f)), (x_terms_values, .inl (cs 2, x_terms_values_n, .inr (.inl x_terms_values_f))), (x_terms_firstParts, .inl (cs 0, x_terms_firstParts_n, .inl x_terms_firstParts_f)), (x_terms_parts, .inr (1, [.ref x_terms_parts_items, .int x_terms_parts_size])), (x_terms_parts_items, .inl (cs 0, x_terms_parts_items_n, .inl x_terms_parts_items_f)), (x_terms_became, .inl (cs 0, x_terms_became_n, .inl x_terms_became_f)), (x_unifier, .inr (8, [.ref x_terms, .ref x_unifier_links, .ref x_unifier_states, .ref x_unifier_pairs, .ref x_unifier_joined, .ref x_unifier_seen, .ref x_unifier_path])), (x_unifier_links, .inl (cs 0, x_unifier_links_n, .inl x_unifier_links_f)), (x_unifier_states, .inl (cs 0, x_unifier_states_n, .inl x_unifier_states_f)), (x_unifier_pairs, .inr (1, [.ref x_unifier_pairs_items, .int x_unifier_pairs_size])), (x_unifier_pairs_items, .inl (cs 0, x_unifier_pairs_items_n, .inl x_unifier_pairs_items_f)), (x_unifier_joined, .inr (1, [.ref x_unifier_joined_items, .int x_unifier_joined_size])), (x_unifier_joined_items, .inl (cs 0, x_unifier_joined_items_n, .inl x_unifier_joined_items_f)), (x_unifier_seen, .inr (1, [.ref x_unifier_seen_items, .int x_unifier_seen_size])), (x_unifier_seen_items, .inl (cs 0, x_unifier_seen_items_n, .inl x_unifier_seen_items_f)), (x_unifier_path, .inr (1, [.ref x_unifier_path_items, .int x_unifier_path_size])), (x_unifier_path_items, .inl (cs 0, x_unifier_path_items_n, .inl x_unifier_path_items_f)), (x_registers, .inl (cs 0, x_registers_n, .inl x_registers_f)), (out, .inl (cs 2, out_n, .inr (.inl out_f)))] sz)) (va_Qi (fun (r' : Int32) (_ : Unit) => r = r') (fun _ t => ∃ b_x_unifier_links b_x_unifier_states b_x_unifier_pairs_items b_x_unifier_joined_items b_x_unifier_seen_items b_x_unifier_path_items : Nat, va_P g classes [(x, .inr (9, [.ref x_tape, .ref x_names, .ref x_terms, .ref x_reader, .ref x_unifier, .ref x_printer, .ref x_registers, .ref x_marked, .int x_marks, .int x_place])), (x_terms, .inr (7, [.ref x_terms_shapes, .ref x_terms_values, .ref x_terms_firstParts, .int x_terms_nodes, .ref x_terms_parts, .ref x_terms_variableNames, .ref x_terms_became, .int x_terms_variables, .int x_terms_variablesLack, .int x_terms_symbols, .int x_terms_nodesBefore, .int x_terms_partsBefore, .int x_terms_variablesBefore])), (x_terms_shapes, .inl (cs 0, x_terms_shapes_n, .inl x_terms_shapes_f)), (x_terms_values, .inl (cs 2, x_terms_values_n, .inr (.inl x_terms_values_f))), (x_terms_firstParts, .inl (cs 0, x_terms_firstParts_n, .inl x_terms_firstParts_f)), (x_terms_parts, .inr (1, [.ref x_terms_parts_items, .int x_terms_parts_size])), (x_terms_parts_items, .inl (cs 0, x_terms_parts_items_n, .inl x_terms_parts_items_f)), (x_terms_became, .inl (cs 0, x_terms_became_n, .inl o_x_terms_became_f)), (x_unifier, .inr (8, [.ref x_terms, .ref b_x_unifier_links, .ref b_x_unifier_states, .ref x_unifier_pairs, .ref x_unifier_joined, .ref x_unifier_seen, .ref x_unifier_path])), (b_x_unifier_links, .inl (cs 0, o_x_unifier_links_n, .inl o_x_unifier_links_f)), (b_x_unifier_states, .inl (cs 0, o_x_unifier_states_n, .inl o_x_unifier_states_f)), (x_unifier_pairs, .inr (1, [.ref b_x_unifier_pairs_items, .int o_x_unifier_pairs_size])), (b_x_unifier_pairs_items, .inl (cs 0, o_x_unifier_pairs_items_n, .inl o_x_unifier_pairs_items_f)), (x_unifier_joined, .inr (1, [.ref b_x_unifier_joined_items, .int o_x_unifier_joined_size])), (b_x_unifier_joined_items, .inl (cs 0, o_x_unifier_joined_items_n, .inl o_x_unifier_joined_items_f)), (x_unifier_seen, .inr (1, [.ref b_x_unifier_seen_items, .int o_x_unifier_seen_size])), (b_x_unifier_seen_items, .inl (cs 0, o_x_unifier_seen_items_n, .inl o_x_unifier_seen_items_f)), (x_unifier_path, .inr (1, [.ref b_x_unifier_path_items, .int o_x_unifier_path_size])), (b_x_unifier_path_items, .inl (cs 0, o_x_unifier_path_items_n, .inl o_x_unifier_path_items_f)), (x_registers, .inl (cs 0, x_registers_n, .inl x_registers_f)), (out, .inl (cs 2, out_n, .inr (.inl o_out_f)))] t.heap ∧ va_D (va_A [(x, .inr (9, [.ref x_tape, .ref x_names, .ref x_terms, .ref x_reader, .ref x_unifier, .ref x_printer, .ref x_registers, .ref x_marked, .int x_marks, .int x_place])), (x_terms, .inr (7, [.ref x_terms_shapes, .ref x_terms_values, .ref x_terms_firstParts, .int x_terms_nodes, .ref x_terms_parts, .ref x_terms_variableNames, .ref x_terms_became, .int x_terms_variables, .int x_terms_variablesLack, .int x_terms_symbols, .int x_terms_nodesBefore, .int x_terms_partsBefore, .int x_terms_variablesBefore])), (x_terms_shapes, .inl (cs 0, x_terms_shapes_n, .inl x_terms_shapes_f)), (x_terms_values, .inl (cs 2, x_terms_values_n, .inr (.inl x_terms_values_f))), (x_terms_firstParts, .inl (cs 0, x_terms_firstParts_n, .inl x_terms_firstParts_f)), (x_terms_parts, .inr (1, [.ref x_terms_parts_items, .int x_terms_parts_size])), (x_terms_parts_items, .inl (cs 0, x_terms_parts_items_n, .inl x_terms_parts_items_f)), (x_terms_became, .inl (cs 0, x_terms_became_n, .inl x_terms_became_f)), (x_unifier, .inr (8, [.ref x_terms, .ref x_unifier_links, .ref x_unifier_states, .ref x_unifier_pairs, .ref x_unifier_joined, .ref x_unifier_seen, .ref x_unifier_path])), (x_unifier_links, .inl (cs 0, x_unifier_links_n, .inl x_unifier_links_f)), (x_unifier_states, .inl (cs 0, x_unifier_states_n, .inl x_unifier_states_f)), (x_unifier_pairs, .inr (1, [.ref x_unifier_pairs_items, .int x_unifier_pairs_size])), (x_unifier_pairs_items, .inl (cs 0, x_unifier_pairs_items_n, .inl x_unifier_pairs_items_f)), (x_unifier_joined, .inr (1, [.ref x_unifier_joined_items, .int x_unifier_joined_size])), (x_unifier_joined_items, .inl (cs 0, x_unifier_joined_items_n, .inl x_unifier_joined_items_f)), (x_unifier_seen, .inr (1, [.ref x_unifier_seen_items, .int x_unifier_seen_size])), (x_unifier_seen_items, .inl (cs 0, x_unifier_seen_items_n, .inl x_unifier_seen_items_f)), (x_unifier_path, .inr (1, [.ref x_unifier_path_items, .int x_unifier_path_size])), (x_unifier_path_items, .inl (cs 0, x_unifier_path_items_n, .inl x_unifier_path_items_f)), (x_registers, .inl (cs 0, x_registers_n, .inl x_registers_f)), (out, .inl (cs 2, out_n, .inr (.inl out_f)))] sz) [(x, .inr (9, [.ref x_tape, .ref x_names, .ref x_terms, .ref x_reader, .ref x_unifier, .ref x_printer, .ref x_registers, .ref x_marked, .int x_marks, .int x_place])), (x_terms, .inr (7, [.ref x_terms_shapes, .ref x_terms_values, .ref x_terms_firstParts, .int x_terms_nodes, .ref x_terms_parts, .ref x_terms_variableNames, .ref x_terms_became, .int x_terms_variables, .int x_terms_variablesLack, .int x_terms_symbols, .int x_terms_nodesBefore, .int x_terms_partsBefore, .int x_terms_variablesBefore])), (x_terms_shapes, .inl (cs 0, x_terms_shapes_n, .inl x_terms_shapes_f)), (x_terms_values, .inl (cs 2, x_terms_values_n, .inr (.inl x_terms_values_f))), (x_terms_firstParts, .inl (cs 0, x_terms_firstParts_n, .inl x_terms_firstParts_f)), (x_terms_parts, .inr (1, [.ref x_terms_parts_items, .int x_terms_parts_size])), (x_terms_parts_items, .inl (cs 0, x_terms_parts_items_n, .inl x_terms_parts_items_f)), (x_terms_became, .inl (cs 0, x_terms_became_n, .inl o_x_terms_became_f)), (x_unifier, .inr (8, [.ref x_terms, .ref b_x_unifier_links, .ref b_x_unifier_states, .ref x_unifier_pairs, .ref x_unifier_joined, .ref x_unifier_seen, .ref x_unifier_path])), (b_x_unifier_links, .inl (cs 0, o_x_unifier_links_n, .inl o_x_unifier_links_f)), (b_x_unifier_states, .inl (cs 0, o_x_unifier_states_n, .inl o_x_unifier_states_f)), (x_unifier_pairs, .inr (1, [.ref b_x_unifier_pairs_items, .int o_x_unifier_pairs_size])), (b_x_unifier_pairs_items, .inl (cs 0, o_x_unifier_pairs_items_n, .inl o_x_unifier_pairs_items_f)), (x_unifier_joined, .inr (1, [.ref b_x_unifier_joined_items, .int o_x_unifier_joined_size])), (b_x_unifier_joined_items, .inl (cs 0, o_x_unifier_joined_items_n, .inl o_x_unifier_joined_items_f)), (x_unifier_seen, .inr (1, [.ref b_x_unifier_seen_items, .int o_x_unifier_seen_size])), (b_x_unifier_seen_items, .inl (cs 0, o_x_unifier_seen_items_n, .inl o_x_unifier_seen_items_f)), (x_unifier_path, .inr (1, [.ref b_x_unifier_path_items, .int o_x_unifier_path_size])), (b_x_unifier_path_items, .inl (cs 0, o_x_unifier_path_items_n, .inl o_x_unifier_path_items_f)), (x_registers, .inl (cs 0, x_registers_n, .inl x_registers_f)), (out, .inl (cs 2, out_n, .inr (.inl o_out_f)))]) (va_A [(x, .inr (9, [.ref x_tape, .ref x_names, .ref x_terms, .ref x_reader, .ref x_unifier, .ref x_printer, .ref x_registers, .ref x_marked, .int x_marks, .int x_place])), (x_terms, .inr (7, [.ref x_terms_shapes, .ref x_terms_values, .ref x_terms_firstParts, .int x_terms_nodes, .ref x_terms_parts, .ref x_terms_variableNames, .ref x_terms_became, .int x_terms_variables, .int x_terms_variablesLack, .int x_terms_symbols, .int x_terms_nodesBefore, .int x_terms_partsBefore, .int x_terms_variablesBefore])), (x_terms_shapes, .inl (cs 0, x_terms_shapes_n, .inl x_terms_shapes_f)), (x_terms_values, .inl (cs 2, x_terms_values_n, .inr (.inl x_terms_values_f))), (x_terms_firstParts, .inl (cs 0, x_terms_firstParts_n, .inl x_terms_firstParts_f)), (x_terms_parts, .inr (1, [.ref x_terms_parts_items, .int x_terms_parts_size])), (x_terms_parts_items, .inl (cs 0, x_terms_parts_items_n, .inl x_terms_parts_items_f)), (x_terms_became, .inl (cs 0, x_terms_became_n, .inl x_terms_became_f)), (x_unifier, .inr (8, [.ref x_terms, .ref x_unifier_links, .ref x_unifier_states, .ref x_unifier_pairs, .ref x_unifier_joined, .ref x_unifier_seen, .ref x_unifier_path])), (x_unifier_links, .inl (cs 0, x_unifier_links_n, .inl x_unifier_links_f)), (x_unifier_states, .inl (cs 0, x_unifier_states_n, .inl x_unifier_states_f)), (x_unifier_pairs, .inr (1, [.ref x_unifier_pairs_items, .int x_unifier_pairs_size])), (x_unifier_pairs_items, .inl (cs 0, x_unifier_pairs_items_n, .inl x_unifier_pairs_items_f)), (x_unifier_joined, .inr (1, [.ref x_unifier_joined_items, .int x_unifier_joined_size])), (x_unifier_joined_items, .inl (cs 0, x_unifier_joined_items_n, .inl x_unifier_joined_items_f)), (x_unifier_seen, .inr (1, [.ref x_unifier_seen_items, .int x_unifier_seen_size])), (x_unifier_seen_items, .inl (cs 0, x_unifier_seen_items_n, .inl x_unifier_seen_items_f)), (x_unifier_path, .inr (1, [.ref x_unifier_path_items, .int x_unifier_path_size])), (x_unifier_path_items, .inl (cs 0, x_unifier_path_items_n, .inl x_unifier_path_items_f)), (x_registers, .inl (cs 0, x_registers_n, .inl x_registers_f)), (out, .inl (cs 2, out_n, .inr (.inl out_f)))] sz)) mc ms (va_A [(x, .inr (9, [.ref x_tape, .ref x_names, .ref x_terms, .ref x_reader, .ref x_unifier, .ref x_printer, .ref x_registers, .ref x_marked, .int x_marks, .int x_place])), (x_terms, .inr (7, [.ref x_terms_shapes, .ref x_terms_values, .ref x_terms_firstParts, .int x_terms_nodes, .ref x_terms_parts, .ref x_terms_variableNames, .ref x_terms_became, .int x_terms_variables, .int x_terms_variablesLack, .int x_terms_symbols, .int x_terms_nodesBefore, .int x_terms_partsBefore, .int x_terms_variablesBefore])), (x_terms_shapes, .inl (cs 0, x_terms_shapes_n, .inl x_terms_shapes_f)), (x_terms_values, .inl (cs 2, x_terms_values_n, .inr (.inl x_terms_values_f))), (x_terms_firstParts, .inl (cs 0, x_terms_firstParts_n, .inl x_terms_firstParts_f)), (x_terms_parts, .inr (1, [.ref x_terms_parts_items, .int x_terms_parts_size])), (x_terms_parts_items, .inl (cs 0, x_terms_parts_items_n, .inl x_terms_parts_items_f)), (x_terms_became, .inl (cs 0, x_terms_became_n, .inl x_terms_became_f)), (x_unifier, .inr (8, [.ref x_terms, .ref x_unifier_links, .ref x_unifier_states, .ref x_unifier_pairs, .ref x_unifier_joined, .ref x_unifier_seen, .ref x_unifier_path])), (x_unifier_links, .inl (cs 0, x_unifier_links_n, .inl x_unifier_links_f)), (x_unifier_states, .inl (cs 0, x_unifier_states_n, .inl x_unifier_states_f)), (x_unifier_pairs, .inr (1, [.ref x_unifier_pairs_items, .int x_unifier_pairs_size])), (x_unifier_pairs_items, .inl (cs 0, x_unifier_pairs_items_n, .inl x_unifier_pairs_items_f)), (x_unifier_joined, .inr (1, [.ref x_unifier_joined_items, .int x_unifier_joined_size])), (x_unifier_joined_items, .inl (cs 0, x_unifier_joined_items_n, .inl x_unifier_joined_items_f)), (x_unifier_seen, .inr (1, [.ref x_unifier_seen_items, .int x_unifier_seen_size])), (x_unifier_seen_items, .inl (cs 0, x_unifier_seen_items_n, .inl x_unifier_seen_items_f)), (x_unifier_path, .inr (1, [.ref x_unifier_path_items, .int x_unifier_path_size])), (x_unifier_path_items, .inl (cs 0, x_unifier_path_items_n, .inl x_unifier_path_items_f)), (x_registers, .inl (cs 0, x_registers_n, .inl x_registers_f)), (out, .inl (cs 2, out_n, .inr (.inl out_f)))] sz) := by
  refine va_MetW (cc := b_Law_unify) (maxL := 5) (ret := (some .int)) (by decide) rfl ?_
  intro p e s m args below meth c s₁ B hml hv
  obtain ⟨rfl, hsz, hP, hK, hD0, hgl, hkn, hkr⟩ := hv
  have hx := B.exec
  have hb := B.bytes
  have hr := B.returns
  have hg : ∀ w ∈ GW, w.before ([.ref x, .int p0, .int p1, .ref out] : List Value).toArray s = true := fun w hw => atoms_spec (ws := .codeWith y_Law_unify b_Law_unify 5 (some .int) [(0, 17, 20, 19)] :: GW) B.pre w (List.mem_cons_of_mem _ hw)
  have hown : s.vm.findClass R_Law = some m.cls := findClass_of_methodNamed B.named
  have hlocks := B.notSynchronized
  have hcd : (Cond.codeWith y_Law_unify b_Law_unify 5 (some .int) [(0, 17, 20, 19)]).before ([.ref x, .int p0, .int p1, .ref out] : List Value).toArray s = true := atoms_spec (ws := .codeWith y_Law_unify b_Law_unify 5 (some .int) [(0, 17, 20, 19)] :: GW) B.pre _ List.mem_cons_self
  have hE := cw_hand B hcd
  subst hsz
  have hD := hD0.self (sz := s.heap.size)
  generalize hAe : va_A [(x, .inr (9, [.ref x_tape, .ref x_names, .ref x_terms, .ref x_reader, .ref x_unifier, .ref x_printer, .ref x_registers, .ref x_marked, .int x_marks, .int x_place])), (x_terms, .inr (7, [.ref x_terms_shapes, .ref x_terms_values, .ref x_terms_firstParts, .int x_terms_nodes, .ref x_terms_parts, .ref x_terms_variableNames, .ref x_terms_became, .int x_terms_variables, .int x_terms_variablesLack, .int x_terms_symbols, .int x_terms_nodesBefore, .int x_terms_partsBefore, .int x_terms_variablesBefore])), (x_terms_shapes, .inl (cs 0, x_terms_shapes_n, .inl x_terms_shapes_f)), (x_terms_values, .inl (cs 2, x_terms_values_n, .inr (.inl x_terms_values_f))), (x_terms_firstParts, .inl (cs 0, x_terms_firstParts_n, .inl x_terms_firstParts_f)), (x_terms_parts, .inr (1, [.ref x_terms_parts_items, .int x_terms_parts_size])), (x_terms_parts_items, .inl (cs 0, x_terms_parts_items_n, .inl x_terms_parts_items_f)), (x_terms_became, .inl (cs 0, x_terms_became_n, .inl x_terms_became_f)), (x_unifier, .inr (8, [.ref x_terms, .ref x_unifier_links, .ref x_unifier_states, .ref x_unifier_pairs, .ref x_unifier_joined, .ref x_unifier_seen, .ref x_unifier_path])), (x_unifier_links, .inl (cs 0, x_unifier_links_n, .inl x_unifier_links_f)), (x_unifier_states, .inl (cs 0, x_unifier_states_n, .inl x_unifier_states_f)), (x_unifier_pairs, .inr (1, [.ref x_unifier_pairs_items, .int x_unifier_pairs_size])), (x_unifier_pairs_items, .inl (cs 0, x_unifier_pairs_items_n, .inl x_unifier_pairs_items_f)), (x_unifier_joined, .inr (1, [.ref x_unifier_joined_items, .int x_unifier_joined_size])), (x_unifier_joined_items, .inl (cs 0, x_unifier_joined_items_n, .inl x_unifier_joined_items_f)), (x_unifier_seen, .inr (1, [.ref x_unifier_seen_items, .int x_unifier_seen_size])), (x_unifier_seen_items, .inl (cs 0, x_unifier_seen_items_n, .inl x_unifier_seen_items_f)), (x_unifier_path, .inr (1, [.ref x_unifier_path_items, .int x_unifier_path_size])), (x_unifier_path_items, .inl (cs 0, x_unifier_path_items_n, .inl x_unifier_path_items_f)), (x_registers, .inl (cs 0, x_registers_n, .inl x_registers_f)), (out, .inl (cs 2, out_n, .inr (.inl out_f)))] s.heap.size = A at hD hkn ⊢
  have hA : ∀ q : Nat, s.heap.size ≤ q → A q := fun q h => by rw [← hAe]; exact Or.inr h
  have hS : va_S A s.heap s.heap [] := va_S.rf
  have hP : va_P g classes [(x, .inr (9, [.ref x_tape, .ref x_names, .ref x_terms, .ref x_reader, .ref x_unifier, .ref x_printer, .ref x_registers, .ref x_marked, .int x_marks, .int x_place])), (x_terms, .inr (7, [.ref x_terms_shapes, .ref x_terms_values, .ref x_terms_firstParts, .int x_terms_nodes, .ref x_terms_parts, .ref x_terms_variableNames, .ref x_terms_became, .int x_terms_variables, .int x_terms_variablesLack, .int x_terms_symbols, .int x_terms_nodesBefore, .int x_terms_partsBefore, .int x_terms_variablesBefore])), (x_terms_shapes, .inl (cs 0, x_terms_shapes_n, .inl x_terms_shapes_f)), (x_terms_values, .inl (cs 2, x_terms_values_n, .inr (.inl x_terms_values_f))), (x_terms_firstParts, .inl (cs 0, x_terms_firstParts_n, .inl x_terms_firstParts_f)), (x_terms_parts, .inr (1, [.ref x_terms_parts_items, .int x_terms_parts_size])), (x_terms_parts_items, .inl (cs 0, x_terms_parts_items_n, .inl x_terms_parts_items_f)), (x_terms_became, .inl (cs 0, x_terms_became_n, .inl x_terms_became_f)), (x_unifier, .inr (8, [.ref x_terms, .ref x_unifier_links, .ref x_unifier_states, .ref x_unifier_pairs, .ref x_unifier_joined, .ref x_unifier_seen, .ref x_unifier_path])), (x_unifier_links, .inl (cs 0, x_unifier_links_n, .inl x_unifier_links_f)), (x_unifier_states, .inl (cs 0, x_unifier_states_n, .inl x_unifier_states_f)), (x_unifier_pairs, .inr (1, [.ref x_unifier_pairs_items, .int x_unifier_pairs_size])), (x_unifier_pairs_items, .inl (cs 0, x_unifier_pairs_items_n, .inl x_unifier_pairs_items_f)), (x_unifier_joined, .inr (1, [.ref x_unifier_joined_items, .int x_unifier_joined_size])), (x_unifier_joined_items, .inl (cs 0, x_unifier_joined_items_n, .inl x_unifier_joined_items_f)), (x_unifier_seen, .inr (1, [.ref x_unifier_seen_items, .int x_unifier_seen_size])), (x_unifier_seen_items, .inl (cs 0, x_unifier_seen_items_n, .inl x_unifier_seen_items_f)), (x_unifier_path, .inr (1, [.ref x_unifier_path_items, .int x_unifier_path_size])), (x_unifier_path_items, .inl (cs 0, x_unifier_path_items_n, .inl x_unifier_path_items_f)), (x_registers, .inl (cs 0, x_registers_n, .inl x_registers_f)), (out, .inl (cs 2, out_n, .inr (.inl out_f)))] s.heap := hP
  have hl := lv_entry ([.ref x, .int p0, .int p1, .ref out]) (n := 5) (Nat.le_of_ble_eq_true rfl)
  rw [lg_entry_eq]
  generalize (lg_sl ([.ref x, .int p0, .int p1, .ref out]) ++ List.replicate (5 - (lg_sl ([.ref x, .int p0, .int p1, .ref out])).length) Slot.unset).toArray = ls at hl ⊢
  have hl : lv_has ls 5 [(0, .ref x), (1, .int p0), (2, .int p1), (3, .ref out)] := hl
  refine gq (fun Q hQ => ?_)
  obtain ⟨H, hH⟩ : ∃ H : Heap, H = s.heap := ⟨_, rfl⟩
  rw [← hH] at hP
  have hS : va_S A s.heap H [] := by rw [hH]; exact hS
  refine W.eqH hH ?_
  obtain ⟨locs, hlc⟩ : ∃ L : List Loc, L = [] := ⟨_, rfl⟩
  rw [← hlc] at hS ⊢
  unfold p_Law_unify at hok
  refine lv_aload_n hx hb d_Law_unify_0 rfl (lv_at hl 3 rfl) ?_
  refine lv_iconst (v := 0) hx hb d_Law_unify_1 (by decide) ?_
  refine lv_aload_n hx hb d_Law_unify_2 rfl (lv_at hl 0 rfl) ?_
  refine lv_iload_n hx hb d_Law_unify_3 rfl (lv_at hl 1 rfl) ?_
  refine lv_iload_n hx hb d_Law_unify_4 rfl (lv_at hl 2 rfl) ?_
  obtain ⟨⟨⟨xc1, r1, a_terms_became_f_1, a_unifier_links_n_1, a_unifier_links_f_1, a_unifier_states_n_1, a_unifier_states_f_1, a_unifier_pairs_size_1, a_unifier_pairs_items_n_1, a_unifier_pairs_items_f_1, a_unifier_joined_size_1, a_unifier_joined_items_n_1, a_unifier_joined_items_f_1, a_unifier_seen_size_1, a_unifier_seen_items_n_1, a_unifier_seen_items_f_1, a_unifier_path_size_1, a_unifier_path_items_n_1, a_unifier_path_items_f_1⟩, mk1, sk1⟩, hc1, hok⟩ := bd_some hok
  dsimp only at hok
  obtain ⟨m1, s1, hok, hmc1, hms1⟩ := al_some hok
  obtain ⟨hPc, hDc, hFc⟩ := cut0 (wc := [(x, .inr (9, [.ref x_tape, .ref x_names, .ref x_terms, .ref x_reader, .ref x_unifier, .ref x_printer, .ref x_registers, .ref x_marked, .int x_marks, .int x_place])), (x_terms, .inr (7, [.ref x_terms_shapes, .ref x_terms_values, .ref x_terms_firstParts, .int x_terms_nodes, .ref x_terms_parts, .ref x_terms_variableNames, .ref x_terms_became, .int x_terms_variables, .int x_terms_variablesLack, .int x_terms_symbols, .int x_terms_nodesBefore, .int x_terms_partsBefore, .int x_terms_variablesBefore])), (x_terms_shapes, .inl (cs 0, x_terms_shapes_n, .inl x_terms_shapes_f)), (x_terms_values, .inl (cs 2, x_terms_values_n, .inr (.inl x_terms_values_f))), (x_terms_firstParts, .inl (cs 0, x_terms_firstParts_n, .inl x_terms_firstParts_f)), (x_terms_parts, .inr (1, [.ref x_terms_parts_items, .int x_terms_parts_size])), (x_terms_parts_items, .inl (cs 0, x_terms_parts_items_n, .inl x_terms_parts_items_f)), (x_terms_became, .inl (cs 0, x_terms_became_n, .inl x_terms_became_f)), (x_unifier, .inr (8, [.ref x_terms, .ref x_unifier_links, .ref x_unifier_states, .ref x_unifier_pairs, .ref x_unifier_joined, .ref x_unifier_seen, .ref x_unifier_path])), (x_unifier_links, .inl (cs 0, x_unifier_links_n, .inl x_unifier_links_f)), (x_unifier_states, .inl (cs 0, x_unifier_states_n, .inl x_unifier_states_f)), (x_unifier_pairs, .inr (1, [.ref x_unifier_pairs_items, .int x_unifier_pairs_size])), (x_unifier_pairs_items, .inl (cs 0, x_unifier_pairs_items_n, .inl x_unifier_pairs_items_f)), (x_unifier_joined, .inr (1, [.ref x_unifier_joined_items, .int x_unifier_joined_size])), (x_unifier_joined_items, .inl (cs 0, x_unifier_joined_items_n, .inl x_unifier_joined_items_f)), (x_unifier_seen, .inr (1, [.ref x_unifier_seen_items, .int x_unifier_seen_size])), (x_unifier_seen_items, .inl (cs 0, x_unifier_seen_items_n, .inl x_unifier_seen_items_f)), (x_unifier_path, .inr (1, [.ref x_unifier_path_items, .int x_unifier_path_size])), (x_unifier_path_items, .inl (cs 0, x_unifier_path_items_n, .inl x_unifier_path_items_f)), (x_registers, .inl (cs 0, x_registers_n, .inl x_registers_f))]) hP hD hS hA [0, 1, 2, 3, 4, 5, 6, 7, 8, 9, 10, 11, 12, 13, 14, 15, 16, 17, 18, 19] (by decide) rfl
  refine cw_call (A1 := va_A [(x, .inr (9, [.ref x_tape, .ref x_names, .ref x_terms, .ref x_reader, .ref x_unifier, .ref x_printer, .ref x_registers, .ref x_marked, .int x_marks, .int x_place])), (x_terms, .inr (7, [.ref x_terms_shapes, .ref x_terms_values, .ref x_terms_firstParts, .int x_terms_nodes, .ref x_terms_parts, .ref x_terms_variableNames, .ref x_terms_became, .int x_terms_variables, .int x_terms_variablesLack, .int x_terms_symbols, .int x_terms_nodesBefore, .int x_terms_partsBefore, .int x_terms_variablesBefore])), (x_terms_shapes, .inl (cs 0, x_terms_shapes_n, .inl x_terms_shapes_f)), (x_terms_values, .inl (cs 2, x_terms_values_n, .inr (.inl x_terms_values_f))), (x_terms_firstParts, .inl (cs 0, x_terms_firstParts_n, .inl x_terms_firstParts_f)), (x_terms_parts, .inr (1, [.ref x_terms_parts_items, .int x_terms_parts_size])), (x_terms_parts_items, .inl (cs 0, x_terms_parts_items_n, .inl x_terms_parts_items_f)), (x_terms_became, .inl (cs 0, x_terms_became_n, .inl x_terms_became_f)), (x_unifier, .inr (8, [.ref x_terms, .ref x_unifier_links, .ref x_unifier_states, .ref x_unifier_pairs, .ref x_unifier_joined, .ref x_unifier_seen, .ref x_unifier_path])), (x_unifier_links, .inl (cs 0, x_unifier_links_n, .inl x_unifier_links_f)), (x_unifier_states, .inl (cs 0, x_unifier_states_n, .inl x_unifier_states_f)), (x_unifier_pairs, .inr (1, [.ref x_unifier_pairs_items, .int x_unifier_pairs_size])), (x_unifier_pairs_items, .inl (cs 0, x_unifier_pairs_items_n, .inl x_unifier_pairs_items_f)), (x_unifier_joined, .inr (1, [.ref x_unifier_joined_items, .int x_unifier_joined_size])), (x_unifier_joined_items, .inl (cs 0, x_unifier_joined_items_n, .inl x_unifier_joined_items_f)), (x_unifier_seen, .inr (1, [.ref x_unifier_seen_items, .int x_unifier_seen_size])), (x_unifier_seen_items, .inl (cs 0, x_unifier_seen_items_n, .inl x_unifier_seen_items_f)), (x_unifier_path, .inr (1, [.ref x_unifier_path_items, .int x_unifier_path_size])), (x_unifier_path_items, .inl (cs 0, x_unifier_path_items_n, .inl x_unifier_path_items_f)), (x_registers, .inl (cs 0, x_registers_n, .inl x_registers_f))] H.size) (tx_runV (As := [.int p0, .int p1]) (rest := [.int 0, .ref out]) ⟨hx, hb, hml, hown, hg⟩ (c_UB_unify l g cs ka hfl x_tape x_names x_reader x_printer x_marked x_terms_variableNames x x_terms x_terms_shapes x_terms_values x_terms_firstParts x_terms_parts x_terms_parts_items x_terms_became x_unifier x_unifier_links x_unifier_states x_unifier_pairs x_unifier_pairs_items x_unifier_joined x_unifier_joined_items x_unifier_seen x_unifier_seen_items x_unifier_path x_unifier_path_items x_registers H.size n p0 p1 x_marks x_place x_terms_nodes x_terms_variables x_terms_variablesLack x_terms_symbols x_terms_nodesBefore x_terms_partsBefore x_terms_variablesBefore x_terms_shapes_n x_terms_shapes_f x_terms_values_n x_terms_values_f x_terms_firstParts_n x_terms_firstParts_f x_terms_parts_size x_terms_parts_items_n x_terms_parts_items_f x_terms_became_n x_terms_became_f x_unifier_links_n x_unifier_links_f x_unifier_states_n x_unifier_states_f x_unifier_pairs_size x_unifier_pairs_items_n x_unifier_pairs_items_f x_unifier_joined_size x_unifier_joined_items_n x_unifier_joined_items_f x_unifier_seen_size x_unifier_seen_items_n x_unifier_seen_items_f x_unifier_path_size x_unifier_path_items_n x_unifier_path_items_f x_registers_n x_registers_f xc1 r1 a_terms_became_f_1 a_unifier_links_n_1 a_unifier_links_f_1 a_unifier_states_n_1 a_unifier_states_f_1 a_unifier_pairs_size_1 a_unifier_pairs_items_n_1 a_unifier_pairs_items_f_1 a_unifier_joined_size_1 a_unifier_joined_items_n_1 a_unifier_joined_items_f_1 a_unifier_seen_size_1 a_unifier_seen_items_n_1 a_unifier_seen_items_f_1 a_unifier_path_size_1 a_unifier_path_items_n_1 a_unifier_path_items_f_1 mk1 sk1 hc1) (cwV (C := R_UB) 2 hg (gw_V wd_1144 wd_1145 wd_1146 wd_632 wd_1143) rfl rfl rfl (by decide +kernel) ⟨Nat.le_of_ble_eq_true rfl, Nat.le_of_ble_eq_true rfl⟩) ⟨gP_blind, va_recv (q0 := 0) (ci := 9) (q := (R_UB, F_UB, 10)) hK hP rfl rfl, gP_pre hPc hDc hK hgl hkn hkr hS hFc⟩ rfl rfl hl.1 rfl (lv_room (Nat.le_of_ble_eq_true rfl)) d_Law_unify_5 ⟨show 0 + mk1 ≤ mc from by omega, show 0 + sk1 ≤ ms from by omega⟩) hS (fun st o t h0 hq => hq.2) (fun q _ h => hFc q h) hFc (fun v1 st₀ t H locs h0 ht hW hB hz1 hk1 hS => ?_) (fun x1 st₀ t H locs h0 ht hW hB hz1 hk1 hS => ?_)
  · obtain ⟨⟨hO, hB⟩, -⟩ := hB
    obtain ⟨hx1, hv1⟩ := hO.ret
    subst hv1
    rw [if_pos hx1] at hok
    rw [ht] at hB
    obtain ⟨a_unifier_links_1, a_unifier_states_1, a_unifier_pairs_items_1, a_unifier_joined_items_1, a_unifier_seen_items_1, a_unifier_path_items_1, hP1, hD1⟩ := hB
    obtain ⟨hP, hD⟩ := jn_A hP hD [0, 1, 2, 3, 4, 5, 6, 7, 8, 9, 10, 11, 12, 13, 14, 15, 16, 17, 18, 19] [20] rfl rfl (by decide) (by decide) hk1 hFc hP1 hD1
    obtain ⟨hP, hD⟩ : PD g A H [(out, .inl (cs 2, out_n, .inr (.inl out_f))), (x, .inr (9, [.ref x_tape, .ref x_names, .ref x_terms, .ref x_reader, .ref x_unifier, .ref x_printer, .ref x_registers, .ref x_marked, .int x_marks, .int x_place])), (x_terms, .inr (7, [.ref x_terms_shapes, .ref x_terms_values, .ref x_terms_firstParts, .int x_terms_nodes, .ref x_terms_parts, .ref x_terms_variableNames, .ref x_terms_became, .int x_terms_variables, .int x_terms_variablesLack, .int x_terms_symbols, .int x_terms_nodesBefore, .int x_terms_partsBefore, .int x_terms_variablesBefore])), (x_terms_shapes, .inl (cs 0, x_terms_shapes_n, .inl x_terms_shapes_f)), (x_terms_values, .inl (cs 2, x_terms_values_n, .inr (.inl x_terms_values_f))), (x_terms_firstParts, .inl (cs 0, x_terms_firstParts_n, .inl x_terms_firstParts_f)), (x_terms_parts, .inr (1, [.ref x_terms_parts_items, .int x_terms_parts_size])), (x_terms_parts_items, .inl (cs 0, x_terms_parts_items_n, .inl x_terms_parts_items_f)), (x_terms_became, .inl (cs 0, x_terms_became_n, .inl a_terms_became_f_1)), (x_unifier, .inr (8, [.ref x_terms, .ref a_unifier_links_1, .ref a_unifier_states_1, .ref x_unifier_pairs, .ref x_unifier_joined, .ref x_unifier_seen, .ref x_unifier_path])), (a_unifier_links_1, .inl (cs 0, a_unifier_links_n_1, .inl a_unifier_links_f_1)), (a_unifier_states_1, .inl (cs 0, a_unifier_states_n_1, .inl a_unifier_states_f_1)), (x_unifier_pairs, .inr (1, [.ref a_unifier_pairs_items_1, .int a_unifier_pairs_size_1])), (a_unifier_pairs_items_1, .inl (cs 0, a_unifier_pairs_items_n_1, .inl a_unifier_pairs_items_f_1)), (x_unifier_joined, .inr (1, [.ref a_unifier_joined_items_1, .int a_unifier_joined_size_1])), (a_unifier_joined_items_1, .inl (cs 0, a_unifier_joined_items_n_1, .inl a_unifier_joined_items_f_1)), (x_unifier_seen, .inr (1, [.ref a_unifier_seen_items_1, .int a_unifier_seen_size_1])), (a_unifier_seen_items_1, .inl (cs 0, a_unifier_seen_items_n_1, .inl a_unifier_seen_items_f_1)), (x_unifier_path, .inr (1, [.ref a_unifier_path_items_1, .int a_unifier_path_size_1])), (a_unifier_path_items_1, .inl (cs 0, a_unifier_path_items_n_1, .inl a_unifier_path_items_f_1)), (x_registers, .inl (cs 0, x_registers_n, .inl x_registers_f))] := ⟨hP, hD⟩
    refine W.eq (g2 := F0 m 8 ls [.int r1, .int 0, .ref out]) rfl ?_
    refine lv_if_eq hx hb d_Law_unify_8 rfl (fun h2 => ?_) (fun h2 => ?_)
    · rw [if_pos h2] at hok
      refine lv_lconst (v := 0) hx hb d_Law_unify_15 (by decide) ?_
      obtain ⟨hi3, hok⟩ := ck_some hok
      refine va_last hx hb hK hP hD hS 0 2 rfl rfl (ixb_in hi3) d_Law_unify_16 (fun H locs hP hD hS => ?_)
      obtain ⟨hP, hD⟩ : PD g A H [(out, .inl (cs 2, out_n, .inr (.inl (vp_updL out_f (0 : Int32).toNatClampNeg 0)))), (x, .inr (9, [.ref x_tape, .ref x_names, .ref x_terms, .ref x_reader, .ref x_unifier, .ref x_printer, .ref x_registers, .ref x_marked, .int x_marks, .int x_place])), (x_terms, .inr (7, [.ref x_terms_shapes, .ref x_terms_values, .ref x_terms_firstParts, .int x_terms_nodes, .ref x_terms_parts, .ref x_terms_variableNames, .ref x_terms_became, .int x_terms_variables, .int x_terms_variablesLack, .int x_terms_symbols, .int x_terms_nodesBefore, .int x_terms_partsBefore, .int x_terms_variablesBefore])), (x_terms_shapes, .inl (cs 0, x_terms_shapes_n, .inl x_terms_shapes_f)), (x_terms_values, .inl (cs 2, x_terms_values_n, .inr (.inl x_terms_values_f))), (x_terms_firstParts, .inl (cs 0, x_terms_firstParts_n, .inl x_terms_firstParts_f)), (x_terms_parts, .inr (1, [.ref x_terms_parts_items, .int x_terms_parts_size])), (x_terms_parts_items, .inl (cs 0, x_terms_parts_items_n, .inl x_terms_parts_items_f)), (x_terms_became, .inl (cs 0, x_terms_became_n, .inl a_terms_became_f_1)), (x_unifier, .inr (8, [.ref x_terms, .ref a_unifier_links_1, .ref a_unifier_states_1, .ref x_unifier_pairs, .ref x_unifier_joined, .ref x_unifier_seen, .ref x_unifier_path])), (a_unifier_links_1, .inl (cs 0, a_unifier_links_n_1, .inl a_unifier_links_f_1)), (a_unifier_states_1, .inl (cs 0, a_unifier_states_n_1, .inl a_unifier_states_f_1)), (x_unifier_pairs, .inr (1, [.ref a_unifier_pairs_items_1, .int a_unifier_pairs_size_1])), (a_unifier_pairs_items_1, .inl (cs 0, a_unifier_pairs_items_n_1, .inl a_unifier_pairs_items_f_1)), (x_unifier_joined, .inr (1, [.ref a_unifier_joined_items_1, .int a_unifier_joined_size_1])), (a_unifier_joined_items_1, .inl (cs 0, a_unifier_joined_items_n_1, .inl a_unifier_joined_items_f_1)), (x_unifier_seen, .inr (1, [.ref a_unifier_seen_items_1, .int a_unifier_seen_size_1])), (a_unifier_seen_items_1, .inl (cs 0, a_unifier_seen_items_n_1, .inl a_unifier_seen_items_f_1)), (x_unifier_path, .inr (1, [.ref a_unifier_path_items_1, .int a_unifier_path_size_1])), (a_unifier_path_items_1, .inl (cs 0, a_unifier_path_items_n_1, .inl a_unifier_path_items_f_1)), (x_registers, .inl (cs 0, x_registers_n, .inl x_registers_f))] := ⟨hP, hD⟩
      refine lv_goto hx hb d_Law_unify_17 rfl ?_
      refine lv_iconst (v := 0) hx hb d_Law_unify_24 (by decide) ?_
      obtain ⟨hq, hw⟩ := Prod.mk.inj (Option.some.inj hok)
      obtain ⟨hmc0, hms0⟩ := Prod.mk.inj hw
      obtain ⟨hq0, hq⟩ := Prod.mk.inj hq
      obtain ⟨hq1, hq⟩ := Prod.mk.inj hq
      obtain ⟨hq2, hq⟩ := Prod.mk.inj hq
      obtain ⟨hq3, hq⟩ := Prod.mk.inj hq
      obtain ⟨hq4, hq⟩ := Prod.mk.inj hq
      obtain ⟨hq5, hq⟩ := Prod.mk.inj hq
      obtain ⟨hq6, hq⟩ := Prod.mk.inj hq
      obtain ⟨hq7, hq⟩ := Prod.mk.inj hq
      obtain ⟨hq8, hq⟩ := Prod.mk.inj hq
      obtain ⟨hq9, hq⟩ := Prod.mk.inj hq
      obtain ⟨hq10, hq⟩ := Prod.mk.inj hq
      obtain ⟨hq11, hq⟩ := Prod.mk.inj hq
      obtain ⟨hq12, hq⟩ := Prod.mk.inj hq
      obtain ⟨hq13, hq⟩ := Prod.mk.inj hq
      obtain ⟨hq14, hq⟩ := Prod.mk.inj hq
      obtain ⟨hq15, hq⟩ := Prod.mk.inj hq
      obtain ⟨hq16, hq⟩ := Prod.mk.inj hq
      obtain ⟨hq17, hq⟩ := Prod.mk.inj hq
      have hq18 := hq
      subst hq0
      subst hq1
      subst hq2
      subst hq3
      subst hq4
      subst hq5
      subst hq6
      subst hq7
      subst hq8
      subst hq9
      subst hq10
      subst hq11
      subst hq12
      subst hq13
      subst hq14
      subst hq15
      subst hq16
      subst hq17
      subst hq18
      obtain ⟨hP9, hD9⟩ := sub2 (ws' := [(x, .inr (9, [.ref x_tape, .ref x_names, .ref x_terms, .ref x_reader, .ref x_unifier, .ref x_printer, .ref x_registers, .ref x_marked, .int x_marks, .int x_place])), (x_terms, .inr (7, [.ref x_terms_shapes, .ref x_terms_values, .ref x_terms_firstParts, .int x_terms_nodes, .ref x_terms_parts, .ref x_terms_variableNames, .ref x_terms_became, .int x_terms_variables, .int x_terms_variablesLack, .int x_terms_symbols, .int x_terms_nodesBefore, .int x_terms_partsBefore, .int x_terms_variablesBefore])), (x_terms_shapes, .inl (cs 0, x_terms_shapes_n, .inl x_terms_shapes_f)), (x_terms_values, .inl (cs 2, x_terms_values_n, .inr (.inl x_terms_values_f))), (x_terms_firstParts, .inl (cs 0, x_terms_firstParts_n, .inl x_terms_firstParts_f)), (x_terms_parts, .inr (1, [.ref x_terms_parts_items, .int x_terms_parts_size])), (x_terms_parts_items, .inl (cs 0, x_terms_parts_items_n, .inl x_terms_parts_items_f)), (x_terms_became, .inl (cs 0, x_terms_became_n, .inl a_terms_became_f_1)), (x_unifier, .inr (8, [.ref x_terms, .ref a_unifier_links_1, .ref a_unifier_states_1, .ref x_unifier_pairs, .ref x_unifier_joined, .ref x_unifier_seen, .ref x_unifier_path])), (a_unifier_links_1, .inl (cs 0, a_unifier_links_n_1, .inl a_unifier_links_f_1)), (a_unifier_states_1, .inl (cs 0, a_unifier_states_n_1, .inl a_unifier_states_f_1)), (x_unifier_pairs, .inr (1, [.ref a_unifier_pairs_items_1, .int a_unifier_pairs_size_1])), (a_unifier_pairs_items_1, .inl (cs 0, a_unifier_pairs_items_n_1, .inl a_unifier_pairs_items_f_1)), (x_unifier_joined, .inr (1, [.ref a_unifier_joined_items_1, .int a_unifier_joined_size_1])), (a_unifier_joined_items_1, .inl (cs 0, a_unifier_joined_items_n_1, .inl a_unifier_joined_items_f_1)), (x_unifier_seen, .inr (1, [.ref a_unifier_seen_items_1, .int a_unifier_seen_size_1])), (a_unifier_seen_items_1, .inl (cs 0, a_unifier_seen_items_n_1, .inl a_unifier_seen_items_f_1)), (x_unifier_path, .inr (1, [.ref a_unifier_path_items_1, .int a_unifier_path_size_1])), (a_unifier_path_items_1, .inl (cs 0, a_unifier_path_items_n_1, .inl a_unifier_path_items_f_1)), (x_registers, .inl (cs 0, x_registers_n, .inl x_registers_f)), (out, .inl (cs 2, out_n, .inr (.inl (vp_updL out_f (0 : Int32).toNatClampNeg 0))))]) hP hD [1, 2, 3, 4, 5, 6, 7, 8, 9, 10, 11, 12, 13, 14, 15, 16, 17, 18, 19, 20, 0] rfl (by decide) rfl
      refine W.widen (k := mc) (n := ms) (by omega) (by omega) ?_
      rw [hQ]
      exact W.iret (v := 0) hx hb hr (fun t ht hW => ⟨⟨_, (), rfl, rfl, a_unifier_links_1, a_unifier_states_1, a_unifier_pairs_items_1, a_unifier_joined_items_1, a_unifier_seen_items_1, a_unifier_path_items_1, by rw [ht]; exact hP9, hD9⟩, hS.F ht⟩) hS.2.2 d_Law_unify_25
    · rw [if_neg h2] at hok
      refine lv_lconst (v := 1) hx hb d_Law_unify_11 (by decide) ?_
      refine lv_goto hx hb d_Law_unify_12 rfl ?_
      obtain ⟨hi4, hok⟩ := ck_some hok
      refine va_last hx hb hK hP hD hS 0 2 rfl rfl (ixb_in hi4) d_Law_unify_16 (fun H locs hP hD hS => ?_)
      obtain ⟨hP, hD⟩ : PD g A H [(out, .inl (cs 2, out_n, .inr (.inl (vp_updL out_f (0 : Int32).toNatClampNeg 1)))), (x, .inr (9, [.ref x_tape, .ref x_names, .ref x_terms, .ref x_reader, .ref x_unifier, .ref x_printer, .ref x_registers, .ref x_marked, .int x_marks, .int x_place])), (x_terms, .inr (7, [.ref x_terms_shapes, .ref x_terms_values, .ref x_terms_firstParts, .int x_terms_nodes, .ref x_terms_parts, .ref x_terms_variableNames, .ref x_terms_became, .int x_terms_variables, .int x_terms_variablesLack, .int x_terms_symbols, .int x_terms_nodesBefore, .int x_terms_partsBefore, .int x_terms_variablesBefore])), (x_terms_shapes, .inl (cs 0, x_terms_shapes_n, .inl x_terms_shapes_f)), (x_terms_values, .inl (cs 2, x_terms_values_n, .inr (.inl x_terms_values_f))), (x_terms_firstParts, .inl (cs 0, x_terms_firstParts_n, .inl x_terms_firstParts_f)), (x_terms_parts, .inr (1, [.ref x_terms_parts_items, .int x_terms_parts_size])), (x_terms_parts_items, .inl (cs 0, x_terms_parts_items_n, .inl x_terms_parts_items_f)), (x_terms_became, .inl (cs 0, x_terms_became_n, .inl a_terms_became_f_1)), (x_unifier, .inr (8, [.ref x_terms, .ref a_unifier_links_1, .ref a_unifier_states_1, .ref x_unifier_pairs, .ref x_unifier_joined, .ref x_unifier_seen, .ref x_unifier_path])), (a_unifier_links_1, .inl (cs 0, a_unifier_links_n_1, .inl a_unifier_links_f_1)), (a_unifier_states_1, .inl (cs 0, a_unifier_states_n_1, .inl a_unifier_states_f_1)), (x_unifier_pairs, .inr (1, [.ref a_unifier_pairs_items_1, .int a_unifier_pairs_size_1])), (a_unifier_pairs_items_1, .inl (cs 0, a_unifier_pairs_items_n_1, .inl a_unifier_pairs_items_f_1)), (x_unifier_joined, .inr (1, [.ref a_unifier_joined_items_1, .int a_unifier_joined_size_1])), (a_unifier_joined_items_1, .inl (cs 0, a_unifier_joined_items_n_1, .inl a_unifier_joined_items_f_1)), (x_unifier_seen, .inr (1, [.ref a_unifier_seen_items_1, .int a_unifier_seen_size_1])), (a_unifier_seen_items_1, .inl (cs 0, a_unifier_seen_items_n_1, .inl a_unifier_seen_items_f_1)), (x_unifier_path, .inr (1, [.ref a_unifier_path_items_1, .int a_unifier_path_size_1])), (a_unifier_path_items_1, .inl (cs 0, a_unifier_path_items_n_1, .inl a_unifier_path_items_f_1)), (x_registers, .inl (cs 0, x_registers_n, .inl x_registers_f))] := ⟨hP, hD⟩
      refine lv_goto hx hb d_Law_unify_17 rfl ?_
      refine lv_iconst (v := 0) hx hb d_Law_unify_24 (by decide) ?_
      obtain ⟨hq, hw⟩ := Prod.mk.inj (Option.some.inj hok)
      obtain ⟨hmc0, hms0⟩ := Prod.mk.inj hw
      obtain ⟨hq0, hq⟩ := Prod.mk.inj hq
      obtain ⟨hq1, hq⟩ := Prod.mk.inj hq
      obtain ⟨hq2, hq⟩ := Prod.mk.inj hq
      obtain ⟨hq3, hq⟩ := Prod.mk.inj hq
      obtain ⟨hq4, hq⟩ := Prod.mk.inj hq
      obtain ⟨hq5, hq⟩ := Prod.mk.inj hq
      obtain ⟨hq6, hq⟩ := Prod.mk.inj hq
      obtain ⟨hq7, hq⟩ := Prod.mk.inj hq
      obtain ⟨hq8, hq⟩ := Prod.mk.inj hq
      obtain ⟨hq9, hq⟩ := Prod.mk.inj hq
      obtain ⟨hq10, hq⟩ := Prod.mk.inj hq
      obtain ⟨hq11, hq⟩ := Prod.mk.inj hq
      obtain ⟨hq12, hq⟩ := Prod.mk.inj hq
      obtain ⟨hq13, hq⟩ := Prod.mk.inj hq
      obtain ⟨hq14, hq⟩ := Prod.mk.inj hq
      obtain ⟨hq15, hq⟩ := Prod.mk.inj hq
      obtain ⟨hq16, hq⟩ := Prod.mk.inj hq
      obtain ⟨hq17, hq⟩ := Prod.mk.inj hq
      have hq18 := hq
      subst hq0
      subst hq1
      subst hq2
      subst hq3
      subst hq4
      subst hq5
      subst hq6
      subst hq7
      subst hq8
      subst hq9
      subst hq10
      subst hq11
      subst hq12
      subst hq13
      subst hq14
      subst hq15
      subst hq16
      subst hq17
      subst hq18
      obtain ⟨hP9, hD9⟩ := sub2 (ws' := [(x, .inr (9, [.ref x_tape, .ref x_names, .ref x_terms, .ref x_reader, .ref x_unifier, .ref x_printer, .ref x_registers, .ref x_marked, .int x_marks, .int x_place])), (x_terms, .inr (7, [.ref x_terms_shapes, .ref x_terms_values, .ref x_terms_firstParts, .int x_terms_nodes, .ref x_terms_parts, .ref x_terms_variableNames, .ref x_terms_became, .int x_terms_variables, .int x_terms_variablesLack, .int x_terms_symbols, .int x_terms_nodesBefore, .int x_terms_partsBefore, .int x_terms_variablesBefore])), (x_terms_shapes, .inl (cs 0, x_terms_shapes_n, .inl x_terms_shapes_f)), (x_terms_values, .inl (cs 2, x_terms_values_n, .inr (.inl x_terms_values_f))), (x_terms_firstParts, .inl (cs 0, x_terms_firstParts_n, .inl x_terms_firstParts_f)), (x_terms_parts, .inr (1, [.ref x_terms_parts_items, .int x_terms_parts_size])), (x_terms_parts_items, .inl (cs 0, x_terms_parts_items_n, .inl x_terms_parts_items_f)), (x_terms_became, .inl (cs 0, x_terms_became_n, .inl a_terms_became_f_1)), (x_unifier, .inr (8, [.ref x_terms, .ref a_unifier_links_1, .ref a_unifier_states_1, .ref x_unifier_pairs, .ref x_unifier_joined, .ref x_unifier_seen, .ref x_unifier_path])), (a_unifier_links_1, .inl (cs 0, a_unifier_links_n_1, .inl a_unifier_links_f_1)), (a_unifier_states_1, .inl (cs 0, a_unifier_states_n_1, .inl a_unifier_states_f_1)), (x_unifier_pairs, .inr (1, [.ref a_unifier_pairs_items_1, .int a_unifier_pairs_size_1])), (a_unifier_pairs_items_1, .inl (cs 0, a_unifier_pairs_items_n_1, .inl a_unifier_pairs_items_f_1)), (x_unifier_joined, .inr (1, [.ref a_unifier_joined_items_1, .int a_unifier_joined_size_1])), (a_unifier_joined_items_1, .inl (cs 0, a_unifier_joined_items_n_1, .inl a_unifier_joined_items_f_1)), (x_unifier_seen, .inr (1, [.ref a_unifier_seen_items_1, .int a_unifier_seen_size_1])), (a_unifier_seen_items_1, .inl (cs 0, a_unifier_seen_items_n_1, .inl a_unifier_seen_items_f_1)), (x_unifier_path, .inr (1, [.ref a_unifier_path_items_1, .int a_unifier_path_size_1])), (a_unifier_path_items_1, .inl (cs 0, a_unifier_path_items_n_1, .inl a_unifier_path_items_f_1)), (x_registers, .inl (cs 0, x_registers_n, .inl x_registers_f)), (out, .inl (cs 2, out_n, .inr (.inl (vp_updL out_f (0 : Int32).toNatClampNeg 1))))]) hP hD [1, 2, 3, 4, 5, 6, 7, 8, 9, 10, 11, 12, 13, 14, 15, 16, 17, 18, 19, 20, 0] rfl (by decide) rfl
      refine W.widen (k := mc) (n := ms) (by omega) (by omega) ?_
      rw [hQ]
      exact W.iret (v := 0) hx hb hr (fun t ht hW => ⟨⟨_, (), rfl, rfl, a_unifier_links_1, a_unifier_states_1, a_unifier_pairs_items_1, a_unifier_joined_items_1, a_unifier_seen_items_1, a_unifier_path_items_1, by rw [ht]; exact hP9, hD9⟩, hS.F ht⟩) hS.2.2 d_Law_unify_25
  · obtain ⟨⟨hO, hB⟩, -⟩ := hB
    obtain ⟨hx1, hX⟩ := hO.thr
    rw [if_neg hx1] at hok
    rw [ht] at hB
    obtain ⟨a_unifier_links_1, a_unifier_states_1, a_unifier_pairs_items_1, a_unifier_joined_items_1, a_unifier_seen_items_1, a_unifier_path_items_1, hP1, hD1⟩ := hB
    obtain ⟨hP, hD⟩ := jn_A hP hD [0, 1, 2, 3, 4, 5, 6, 7, 8, 9, 10, 11, 12, 13, 14, 15, 16, 17, 18, 19] [20] rfl rfl (by decide) (by decide) hk1 hFc hP1 hD1
    obtain ⟨hP, hD⟩ : PD g A H [(out, .inl (cs 2, out_n, .inr (.inl out_f))), (x, .inr (9, [.ref x_tape, .ref x_names, .ref x_terms, .ref x_reader, .ref x_unifier, .ref x_printer, .ref x_registers, .ref x_marked, .int x_marks, .int x_place])), (x_terms, .inr (7, [.ref x_terms_shapes, .ref x_terms_values, .ref x_terms_firstParts, .int x_terms_nodes, .ref x_terms_parts, .ref x_terms_variableNames, .ref x_terms_became, .int x_terms_variables, .int x_terms_variablesLack, .int x_terms_symbols, .int x_terms_nodesBefore, .int x_terms_partsBefore, .int x_terms_variablesBefore])), (x_terms_shapes, .inl (cs 0, x_terms_shapes_n, .inl x_terms_shapes_f)), (x_terms_values, .inl (cs 2, x_terms_values_n, .inr (.inl x_terms_values_f))), (x_terms_firstParts, .inl (cs 0, x_terms_firstParts_n, .inl x_terms_firstParts_f)), (x_terms_parts, .inr (1, [.ref x_terms_parts_items, .int x_terms_parts_size])), (x_terms_parts_items, .inl (cs 0, x_terms_parts_items_n, .inl x_terms_parts_items_f)), (x_terms_became, .inl (cs 0, x_terms_became_n, .inl a_terms_became_f_1)), (x_unifier, .inr (8, [.ref x_terms, .ref a_unifier_links_1, .ref a_unifier_states_1, .ref x_unifier_pairs, .ref x_unifier_joined, .ref x_unifier_seen, .ref x_unifier_path])), (a_unifier_links_1, .inl (cs 0, a_unifier_links_n_1, .inl a_unifier_links_f_1)), (a_unifier_states_1, .inl (cs 0, a_unifier_states_n_1, .inl a_unifier_states_f_1)), (x_unifier_pairs, .inr (1, [.ref a_unifier_pairs_items_1, .int a_unifier_pairs_size_1])), (a_unifier_pairs_items_1, .inl (cs 0, a_unifier_pairs_items_n_1, .inl a_unifier_pairs_items_f_1)), (x_unifier_joined, .inr (1, [.ref a_unifier_joined_items_1, .int a_unifier_joined_size_1])), (a_unifier_joined_items_1, .inl (cs 0, a_unifier_joined_items_n_1, .inl a_unifier_joined_items_f_1)), (x_unifier_seen, .inr (1, [.ref a_unifier_seen_items_1, .int a_unifier_seen_size_1])), (a_unifier_seen_items_1, .inl (cs 0, a_unifier_seen_items_n_1, .inl a_unifier_seen_items_f_1)), (x_unifier_path, .inr (1, [.ref a_unifier_path_items_1, .int a_unifier_path_size_1])), (a_unifier_path_items_1, .inl (cs 0, a_unifier_path_items_n_1, .inl a_unifier_path_items_f_1)), (x_registers, .inl (cs 0, x_registers_n, .inl x_registers_f))] := ⟨hP, hD⟩
    by_cases hy1_1 : xc1 = 1
    · rw [if_pos hy1_1] at hok
      subst hy1_1
      obtain ⟨ce, cX, e1, e2, e3, e4, -⟩ := hX
      have e2 : s.vm.findClass "java/lang/IllegalArgumentException" = some cX := by rw [← hW.alike.findClass]; exact e2
      obtain ⟨k0, hk0⟩ := Vm.classAt_of_findClass e2
      refine cw_caught (h := 20) rfl hE (by rw [← ht]; exact e1) e4 (by rw [e3]; exact hk0) (fun hpl => Or.inr ⟨by show (0 : Nat) ≤ 5 ∧ (5 : Nat) < 17; decide, by show (19 : Nat) ≠ 0; decide, cw_hit hown (hg _ wd_1131) (va_Nw.use rfl (hgl _ wd_1132)) e2 e3 hpl rfl⟩) ?_
      refine W.eq (g2 := F0 m 20 ls [.ref x1]) rfl ?_
      refine lv_astore hx hb d_Law_unify_20 hl (by decide) rfl (fun ls hl => ?_)
      have hl : lv_has ls 5 [(4, .ref x1), (0, .ref x), (1, .int p0), (2, .int p1), (3, .ref out)] := hl
      refine lv_iconst (v := 1) hx hb d_Law_unify_22 (by decide) ?_
      obtain ⟨hq, hw⟩ := Prod.mk.inj (Option.some.inj hok)
      obtain ⟨hmc0, hms0⟩ := Prod.mk.inj hw
      obtain ⟨hq0, hq⟩ := Prod.mk.inj hq
      obtain ⟨hq1, hq⟩ := Prod.mk.inj hq
      obtain ⟨hq2, hq⟩ := Prod.mk.inj hq
      obtain ⟨hq3, hq⟩ := Prod.mk.inj hq
      obtain ⟨hq4, hq⟩ := Prod.mk.inj hq
      obtain ⟨hq5, hq⟩ := Prod.mk.inj hq
      obtain ⟨hq6, hq⟩ := Prod.mk.inj hq
      obtain ⟨hq7, hq⟩ := Prod.mk.inj hq
      obtain ⟨hq8, hq⟩ := Prod.mk.inj hq
      obtain ⟨hq9, hq⟩ := Prod.mk.inj hq
      obtain ⟨hq10, hq⟩ := Prod.mk.inj hq
      obtain ⟨hq11, hq⟩ := Prod.mk.inj hq
      obtain ⟨hq12, hq⟩ := Prod.mk.inj hq
      obtain ⟨hq13, hq⟩ := Prod.mk.inj hq
      obtain ⟨hq14, hq⟩ := Prod.mk.inj hq
      obtain ⟨hq15, hq⟩ := Prod.mk.inj hq
      obtain ⟨hq16, hq⟩ := Prod.mk.inj hq
      obtain ⟨hq17, hq⟩ := Prod.mk.inj hq
      have hq18 := hq
      subst hq0
      subst hq1
      subst hq2
      subst hq3
      subst hq4
      subst hq5
      subst hq6
      subst hq7
      subst hq8
      subst hq9
      subst hq10
      subst hq11
      subst hq12
      subst hq13
      subst hq14
      subst hq15
      subst hq16
      subst hq17
      subst hq18
      obtain ⟨hP9, hD9⟩ := sub2 (ws' := [(x, .inr (9, [.ref x_tape, .ref x_names, .ref x_terms, .ref x_reader, .ref x_unifier, .ref x_printer, .ref x_registers, .ref x_marked, .int x_marks, .int x_place])), (x_terms, .inr (7, [.ref x_terms_shapes, .ref x_terms_values, .ref x_terms_firstParts, .int x_terms_nodes, .ref x_terms_parts, .ref x_terms_variableNames, .ref x_terms_became, .int x_terms_variables, .int x_terms_variablesLack, .int x_terms_symbols, .int x_terms_nodesBefore, .int x_terms_partsBefore, .int x_terms_variablesBefore])), (x_terms_shapes, .inl (cs 0, x_terms_shapes_n, .inl x_terms_shapes_f)), (x_terms_values, .inl (cs 2, x_terms_values_n, .inr (.inl x_terms_values_f))), (x_terms_firstParts, .inl (cs 0, x_terms_firstParts_n, .inl x_terms_firstParts_f)), (x_terms_parts, .inr (1, [.ref x_terms_parts_items, .int x_terms_parts_size])), (x_terms_parts_items, .inl (cs 0, x_terms_parts_items_n, .inl x_terms_parts_items_f)), (x_terms_became, .inl (cs 0, x_terms_became_n, .inl a_terms_became_f_1)), (x_unifier, .inr (8, [.ref x_terms, .ref a_unifier_links_1, .ref a_unifier_states_1, .ref x_unifier_pairs, .ref x_unifier_joined, .ref x_unifier_seen, .ref x_unifier_path])), (a_unifier_links_1, .inl (cs 0, a_unifier_links_n_1, .inl a_unifier_links_f_1)), (a_unifier_states_1, .inl (cs 0, a_unifier_states_n_1, .inl a_unifier_states_f_1)), (x_unifier_pairs, .inr (1, [.ref a_unifier_pairs_items_1, .int a_unifier_pairs_size_1])), (a_unifier_pairs_items_1, .inl (cs 0, a_unifier_pairs_items_n_1, .inl a_unifier_pairs_items_f_1)), (x_unifier_joined, .inr (1, [.ref a_unifier_joined_items_1, .int a_unifier_joined_size_1])), (a_unifier_joined_items_1, .inl (cs 0, a_unifier_joined_items_n_1, .inl a_unifier_joined_items_f_1)), (x_unifier_seen, .inr (1, [.ref a_unifier_seen_items_1, .int a_unifier_seen_size_1])), (a_unifier_seen_items_1, .inl (cs 0, a_unifier_seen_items_n_1, .inl a_unifier_seen_items_f_1)), (x_unifier_path, .inr (1, [.ref a_unifier_path_items_1, .int a_unifier_path_size_1])), (a_unifier_path_items_1, .inl (cs 0, a_unifier_path_items_n_1, .inl a_unifier_path_items_f_1)), (x_registers, .inl (cs 0, x_registers_n, .inl x_registers_f)), (out, .inl (cs 2, out_n, .inr (.inl out_f)))]) hP hD [1, 2, 3, 4, 5, 6, 7, 8, 9, 10, 11, 12, 13, 14, 15, 16, 17, 18, 19, 20, 0] rfl (by decide) rfl
      refine W.widen (k := mc) (n := ms) (by omega) (by omega) ?_
      rw [hQ]
      exact W.iret (v := 1) hx hb hr (fun t ht hW => ⟨⟨_, (), rfl, rfl, a_unifier_links_1, a_unifier_states_1, a_unifier_pairs_items_1, a_unifier_joined_items_1, a_unifier_seen_items_1, a_unifier_path_items_1, by rw [ht]; exact hP9, hD9⟩, hS.F ht⟩) hS.2.2 d_Law_unify_23
    · rw [if_neg hy1_1] at hok
      cases hok

theorem d_Law_same_0 : decode b_Law_same 0 = .ok (.aload_n 3, 1) := by decide +kernel
theorem d_Law_same_1 : decode b_Law_same 1 = .ok (.iconst 0, 1) := by decide +kernel
theorem d_Law_same_2 : decode b_Law_same 2 = .ok (.aload_n 0, 1) := by decide +kernel
theorem d_Law_same_3 : decode b_Law_same 3 = .ok (.iload_n 1, 1) := by decide +kernel
theorem d_Law_same_4 : decode b_Law_same 4 = .ok (.iload_n 2, 1) := by decide +kernel
theorem d_Law_same_5 : decode b_Law_same 5 = .ok (.invokevirtual 30, 3) := by decide +kernel
theorem d_Law_same_8 : decode b_Law_same 8 = .ok (.ifCond .eq 7, 3) := by decide +kernel
theorem d_Law_same_11 : decode b_Law_same 11 = .ok (.lconst 1, 1) := by decide +kernel
theorem d_Law_same_12 : decode b_Law_same 12 = .ok (.goto 4, 3) := by decide +kernel
theorem d_Law_same_15 : decode b_Law_same 15 = .ok (.lconst 0, 1) := by decide +kernel
theorem d_Law_same_16 : decode b_Law_same 16 = .ok (.lastore, 1) := by decide +kernel
theorem d_Law_same_17 : decode b_Law_same 17 = .ok (.goto 7, 3) := by decide +kernel
theorem d_Law_same_20 : decode b_Law_same 20 = .ok (.astore 4, 2) := by decide +kernel
theorem d_Law_same_22 : decode b_Law_same 22 = .ok (.iconst 1, 1) := by decide +kernel
theorem d_Law_same_23 : decode b_Law_same 23 = .ok (.ireturn, 1) := by decide +kernel
theorem d_Law_same_24 : decode b_Law_same 24 = .ok (.iconst 0, 1) := by decide +kernel
theorem d_Law_same_25 : decode b_Law_same 25 = .ok (.ireturn, 1) := by decide +kernel
def p_Law_same (n : Nat) (p0 : Int32) (p1 : Int32) (x_marks : Int32) (x_place : Int32) (x_terms_nodes : Int32) (x_terms_variables : Int32) (x_terms_variablesLack : Int32) (x_terms_symbols : Int32) (x_terms_nodesBefore : Int32) (x_terms_partsBefore : Int32) (x_terms_variablesBefore : Int32) (x_terms_shapes_n : Nat) (x_terms_shapes_f : Nat → Int32) (x_terms_values_n : Nat) (x_terms_values_f : Nat → Int64) (x_terms_firstParts_n : Nat) (x_terms_firstParts_f : Nat → Int32) (x_terms_parts_size : Int32) (x_terms_parts_items_n : Nat) (x_terms_parts_items_f : Nat → Int32) (x_terms_became_n : Nat) (x_terms_became_f : Nat → Int32) (x_unifier_links_n : Nat) (x_unifier_links_f : Nat → Int32) (x_unifier_states_n : Nat) (x_unifier_states_f : Nat → Int32) (x_unifier_pairs_size : Int32) (x_unifier_pairs_items_n : Nat) (x_unifier_pairs_items_f : Nat → Int32) (x_unifier_joined_size : Int32) (x_unifier_joined_items_n : Nat) (x_unifier_joined_items_f : Nat → Int32) (x_unifier_seen_size : Int32) (x_unifier_seen_items_n : Nat) (x_unifier_seen_items_f : Nat → Int32) (x_unifier_path_size : Int32) (x_registers_n : Nat) (x_registers_f : Nat → Int32) (out_n : Nat) (out_f : Nat → Int64) : Option ((Int32 × Nat × (Nat → Int32) × Nat × (Nat → Int32) × Int32 × Nat × (Nat → Int32) × Int32 × Nat × (Nat → Int32) × Int32 × Int32 × (Nat → Int64)) × Nat × Nat) := (p_UB_same n p0 p1 x_marks x_place x_terms_nodes x_terms_variables x_terms_variablesLack x_terms_symbols x_terms_nodesBefore x_terms_partsBefore x_terms_variablesBefore x_terms_shapes_n x_terms_shapes_f x_terms_values_n x_terms_values_f x_terms_firstParts_n x_terms_firstParts_f x_terms_parts_size x_terms_parts_items_n x_terms_parts_items_f x_terms_became_n x_terms_became_f x_unifier_links_n x_unifier_links_f x_unifier_states_n x_unifier_states_f x_unifier_pairs_size x_unifier_pairs_items_n x_unifier_pairs_items_f x_unifier_joined_size x_unifier_joined_items_n x_unifier_joined_items_f x_unifier_seen_size x_unifier_seen_items_n x_unifier_seen_items_f x_unifier_path_size x_registers_n x_registers_f).bind (fun ((xc1, r1, a_unifier_links_n_1, a_unifier_links_f_1, a_unifier_states_n_1, a_unifier_states_f_1, a_unifier_pairs_size_1, a_unifier_pairs_items_n_1, a_unifier_pairs_items_f_1, a_unifier_joined_size_1, a_unifier_joined_items_n_1, a_unifier_joined_items_f_1, a_unifier_seen_size_1, a_unifier_path_size_1), mk1, sk1) => al mk1 sk1 (if xc1 = 0 then (if r1 = 0 then (ck (ixb 0 out_n) (some (((0 : Int32), a_unifier_links_n_1, a_unifier_links_f_1, a_unifier_states_n_1, a_unifier_states_f_1, a_unifier_pairs_size_1, a_unifier_pairs_items_n_1, a_unifier_pairs_items_f_1, a_unifier_joined_size_1, a_unifier_joined_items_n_1, a_unifier_joined_items_f_1, a_unifier_seen_size_1, a_unifier_path_size_1, vp_updL out_f (0 : Int32).toNatClampNeg 0), 0, 0))) else (ck (ixb 0 out_n) (some (((0 : Int32), a_unifier_links_n_1, a_unifier_links_f_1, a_unifier_states_n_1, a_unifier_states_f_1, a_unifier_pairs_size_1, a_unifier_pairs_items_n_1, a_unifier_pairs_items_f_1, a_unifier_joined_size_1, a_unifier_joined_items_n_1, a_unifier_joined_items_f_1, a_unifier_seen_size_1, a_unifier_path_size_1, vp_updL out_f (0 : Int32).toNatClampNeg 1), 0, 0)))) else (if xc1 = 1 then (some (((1 : Int32), a_unifier_links_n_1, a_unifier_links_f_1, a_unifier_states_n_1, a_unifier_states_f_1, a_unifier_pairs_size_1, a_unifier_pairs_items_n_1, a_unifier_pairs_items_f_1, a_unifier_joined_size_1, a_unifier_joined_items_n_1, a_unifier_joined_items_f_1, a_unifier_seen_size_1, a_unifier_path_size_1, out_f), 0, 0)) else (none))))
set_option maxHeartbeats 40000000 in
set_option maxRecDepth 100000 in
theorem c_Law_same (l : Launch) (g : va_G) (cs : Nat → ClassId) (ka : Nat → Nat) (hfl : l.flags = pinnedFlags ++ [noTraceFlag]) (x_tape : Nat) (x_names : Nat) (x_reader : Nat) (x_printer : Nat) (x_marked : Nat) (x_terms_variableNames : Nat) (x_unifier_path_items : Nat) (x x_terms x_terms_shapes x_terms_values x_terms_firstParts x_terms_parts x_terms_parts_items x_terms_became x_unifier x_unifier_links x_unifier_states x_unifier_pairs x_unifier_pairs_items x_unifier_joined x_unifier_joined_items x_unifier_seen x_unifier_seen_items x_unifier_path x_registers out : Nat) (sz : Nat) (n : Nat) (p0 : Int32) (p1 : Int32) (x_marks : Int32) (x_place : Int32) (x_terms_nodes : Int32) (x_terms_variables : Int32) (x_terms_variablesLack : Int32) (x_terms_symbols : Int32) (x_terms_nodesBefore : Int32) (x_terms_partsBefore : Int32) (x_terms_variablesBefore : Int32) (x_terms_shapes_n : Nat) (x_terms_shapes_f : Nat → Int32) (x_terms_values_n : Nat) (x_terms_values_f : Nat → Int64) (x_terms_firstParts_n : Nat) (x_terms_firstParts_f : Nat → Int32) (x_terms_parts_size : Int32) (x_terms_parts_items_n : Nat) (x_terms_parts_items_f : Nat → Int32) (x_terms_became_n : Nat) (x_terms_became_f : Nat → Int32) (x_unifier_links_n : Nat) (x_unifier_links_f : Nat → Int32) (x_unifier_states_n : Nat) (x_unifier_states_f : Nat → Int32) (x_unifier_pairs_size : Int32) (x_unifier_pairs_items_n : Nat) (x_unifier_pairs_items_f : Nat → Int32) (x_unifier_joined_size : Int32) (x_unifier_joined_items_n : Nat) (x_unifier_joined_items_f : Nat → Int32) (x_unifier_seen_size : Int32) (x_unifier_seen_items_n : Nat) (x_unifier_seen_items_f : Nat → Int32) (x_unifier_path_size : Int32) (x_registers_n : Nat) (x_registers_f : Nat → Int32) (out_n : Nat) (out_f : Nat → Int64) (r : Int32) (o_x_unifier_links_n : Nat) (o_x_unifier_links_f : Nat → Int32) (o_x_unifier_states_n : Nat) (o_x_unifier_states_f : Nat → Int32) (o_x_unifier_pairs_size : Int32) (o_x_unifier_pairs_items_n : Nat) (o_x_unifier_pairs_items_f : Nat → Int32) (o_x_unifier_joined_size : Int32) (o_x_unifier_joined_items_n : Nat) (o_x_unifier_joined_items_f : Nat → Int32) (o_x_unifier_seen_size : Int32) (o_x_unifier_path_size : Int32) (o_out_f : Nat → Int64) (mc ms : Nat) (hok : p_Law_same n p0 p1 x_marks x_place x_terms_nodes x_terms_variables x_terms_variablesLack x_terms_symbols x_terms_nodesBefore x_terms_partsBefore x_terms_variablesBefore x_terms_shapes_n x_terms_shapes_f x_terms_values_n x_terms_values_f x_terms_firstParts_n x_terms_firstParts_f x_terms_parts_size x_terms_parts_items_n x_terms_parts_items_f x_terms_became_n x_terms_became_f x_unifier_links_n x_unifier_links_f x_unifier_states_n x_unifier_states_f x_unifier_pairs_size x_unifier_pairs_items_n x_unifier_pairs_items_f x_unifier_joined_size x_unifier_joined_items_n x_unifier_joined_items_f x_unifier_seen_size x_unifier_seen_items_n x_unifier_seen_items_f x_unifier_path_size x_registers_n x_registers_f out_n out_f = some ((r, o_x_unifier_links_n, o_x_unifier_links_f, o_x_unifier_states_n, o_x_unifier_states_f, o_x_unifier_pairs_size, o_x_unifier_pairs_items_n, o_x_unifier_pairs_items_f, o_x_unifier_joined_size, o_x_unifier_joined_items_n, o_x_unifier_joined_items_f, o_x_unifier_seen_size, o_x_unifier_path_size, o_out_f), mc, ms)) : Met l y_Law_same (.codeWith y_Law_same b_Law_same 5 (some .int) [(0, 17, 20, 19)] :: GW) { frames := 8, cells := mc, slots := ms, locals := 260 } (va_Pc [.ref x, .int p0, .int p1, .ref out] (gP g cs ka [(x, .inr (9, [.ref x_tape, .ref x_names, .ref x_terms, .ref x_reader, .ref x_unifier, .ref x_printer, .ref x_registers, .ref x_marked, .int x_marks, .int x_place])), (x_terms, .inr (7, [.ref x_terms_shapes, .ref x_terms_values, .ref x_terms_firstParts, .int x_terms_nodes, .ref x_terms_parts, .ref x_terms_variableNames, .ref x_terms_became, .int x_terms_variables, .int x_terms_variablesLack, .int x_terms_symbols, .int x_terms_nodesBefore, .int x_terms_partsBefore, .int x_terms_variablesBefore])), (x_terms_shapes, .inl (cs 0, x_terms_shapes_n, .inl x_terms_shapes_f)), (x_terms_values, .inl (cs 2, x_terms_values_n, .inr (.inl x_terms_values_f))), (x_terms_firstParts, .inl (cs 0, x_terms_firstParts_n, .inl x_terms_firstParts_f)), (x_terms_parts, .inr (1, [.ref x_terms_parts_items, .int x_terms_parts_size])), (x_terms_parts_items, .inl (cs 0, x_terms_parts_items_n, .inl x_terms_parts_items_f)), (x_terms_became, .inl (cs 0, x_terms_became_n, .inl x_terms_became_f)), (x_unifier, .inr (8, [.ref x_terms, .ref x_unifier_links, .ref x_unifier_states, .ref x_unifier_pairs, .ref x_unifier_joined, .ref x_unifier_seen, .ref x_unifier_path])), (x_unifier_links, .inl (cs 0, x_unifier_links_n, .inl x_unifier_links_f)), (x_unifier_states, .inl (cs 0, x_unifier_states_n, .inl x_unifier_states_f)), (x_unifier_pairs, .inr (1, [.ref x_unifier_pairs_items, .int x_unifier_pairs_size])), (x_unifier_pairs_items, .inl (cs 0, x_unifier_pairs_items_n, .inl x_unifier_pairs_items_f)), (x_unifier_joined, .inr (1, [.ref x_unifier_joined_items, .int x_unifier_joined_size])), (x_unifier_joined_items, .inl (cs 0, x_unifier_joined_items_n, .inl x_unifier_joined_items_f)), (x_unifier_seen, .inr (1, [.ref x_unifier_seen_items, .int x_unifier_seen_size])), (x_unifier_seen_items, .inl (cs 0, x_unifier_seen_items_n, .inl x_unifier_seen_items_f)), (x_unifier_path, .inr (1, [.ref x_unifier_path_items, .int x_unifier_path_size])), (x_registers, .inl (cs 0, x_registers_n, .inl x_registers_f)), (out, .inl (cs 2, out_n, .inr (.inl out_f)))] sz)) (va_Qi (fun (r' : Int32) (_ : Unit) => r = r') (fun _ t => ∃ b_x_unifier_links b_x_unifier_states b_x_unifier_pairs_items b_x_unifier_joined_items : Nat, va_P g classes [(x, .inr (9, [.ref x_tape, .ref x_names, .ref x_terms, .ref x_reader, .ref x_unifier, .ref x_printer, .ref x_registers, .ref x_marked, .int x_marks, .int x_place])), (x_terms, .inr (7, [.ref x_terms_shapes, .ref x_terms_values, .ref x_terms_firstParts, .int x_terms_nodes, .ref x_terms_parts, .ref x_terms_variableNames, .ref x_terms_became, .int x_terms_variables, .int x_terms_variablesLack, .int x_terms_symbols, .int x_terms_nodesBefore, .int x_terms_partsBefore, .int x_terms_variablesBefore])), (x_terms_shapes, .inl (cs 0, x_terms_shapes_n, .inl x_terms_shapes_f)), (x_terms_values, .inl (cs 2, x_terms_values_n, .inr (.inl x_terms_values_f))), (x_terms_firstParts, .inl (cs 0, x_terms_firstParts_n, .inl x_terms_firstParts_f)), (x_terms_parts, .inr (1, [.ref x_terms_parts_items, .int x_terms_parts_size])), (x_terms_parts_items, .inl (cs 0, x_terms_parts_items_n, .inl x_terms_parts_items_f)), (x_terms_became, .inl (cs 0, x_terms_became_n, .inl x_terms_became_f)), (x_unifier, .inr (8, [.ref x_terms, .ref b_x_unifier_links, .ref b_x_unifier_states, .ref x_unifier_pairs, .ref x_unifier_joined, .ref x_unifier_seen, .ref x_unifier_path])), (b_x_unifier_links, .inl (cs 0, o_x_unifier_links_n, .inl o_x_unifier_links_f)), (b_x_unifier_states, .inl (cs 0, o_x_unifier_states_n, .inl o_x_unifier_states_f)), (x_unifier_pairs, .inr (1, [.ref b_x_unifier_pairs_items, .int o_x_unifier_pairs_size])), (b_x_unifier_pairs_items, .inl (cs 0, o_x_unifier_pairs_items_n, .inl o_x_unifier_pairs_items_f)), (x_unifier_joined, .inr (1, [.ref b_x_unifier_joined_items, .int o_x_unifier_joined_size])), (b_x_unifier_joined_items, .inl (cs 0, o_x_unifier_joined_items_n, .inl o_x_unifier_joined_items_f)), (x_unifier_seen, .inr (1, [.ref x_unifier_seen_items, .int o_x_unifier_seen_size])), (x_unifier_seen_items, .inl (cs 0, x_unifier_seen_items_n, .inl x_unifier_seen_items_f)), (x_unifier_path, .inr (1, [.ref x_unifier_path_items, .int o_x_unifier_path_size])), (x_registers, .inl (cs 0, x_registers_n, .inl x_registers_f)), (out, .inl (cs 2, out_n, .inr (.inl o_out_f)))] t.heap ∧ va_D (va_A [(x, .inr (9, [.ref x_tape, .ref x_names, .ref x_terms, .ref x_reader, .ref x_unifier, .ref x_printer, .ref x_registers, .ref x_marked, .int x_marks, .int x_place])), (x_terms, .inr (7, [.ref x_terms_shapes, .ref x_terms_values, .ref x_terms_firstParts, .int x_terms_nodes, .ref x_terms_parts, .ref x_terms_variableNames, .ref x_terms_became, .int x_terms_variables, .int x_terms_variablesLack, .int x_terms_symbols, .int x_terms_nodesBefore, .int x_terms_partsBefore, .int x_terms_variablesBefore])), (x_terms_shapes, .inl (cs 0, x_terms_shapes_n, .inl x_terms_shapes_f)), (x_terms_values, .inl (cs 2, x_terms_values_n, .inr (.inl x_terms_values_f))), (x_terms_firstParts, .inl (cs 0, x_terms_firstParts_n, .inl x_terms_firstParts_f)), (x_terms_parts, .inr (1, [.ref x_terms_parts_items, .int x_terms_parts_size])), (x_terms_parts_items, .inl (cs 0, x_terms_parts_items_n, .inl x_terms_parts_items_f)), (x_terms_became, .inl (cs 0, x_terms_became_n, .inl x_terms_became_f)), (x_unifier, .inr (8, [.ref x_terms, .ref x_unifier_links, .ref x_unifier_states, .ref x_unifier_pairs, .ref x_unifier_joined, .ref x_unifier_seen, .ref x_unifier_path])), (x_unifier_links, .inl (cs 0, x_unifier_links_n, .inl x_unifier_links_f)), (x_unifier_states, .inl (cs 0, x_unifier_states_n, .inl x_unifier_states_f)), (x_unifier_pairs, .inr (1, [.ref x_unifier_pairs_items, .int x_unifier_pairs_size])), (x_unifier_pairs_items, .inl (cs 0, x_unifier_pairs_items_n, .inl x_unifier_pairs_items_f)), (x_unifier_joined, .inr (1, [.ref x_unifier_joined_items, .int x_unifier_joined_size])), (x_unifier_joined_items, .inl (cs 0, x_unifier_joined_items_n, .inl x_unifier_joined_items_f)), (x_unifier_seen, .inr (1, [.ref x_unifier_seen_items, .int x_unifier_seen_size])), (x_unifier_seen_items, .inl (cs 0, x_unifier_seen_items_n, .inl x_unifier_seen_items_f)), (x_unifier_path, .inr (1, [.ref x_unifier_path_items, .int x_unifier_path_size])), (x_registers, .inl (cs 0, x_registers_n, .inl x_registers_f)), (out, .inl (cs 2, out_n, .inr (.inl out_f)))] sz) [(x, .inr (9, [.ref x_tape, .ref x_names, .ref x_terms, .ref x_reader, .ref x_unifier, .ref x_printer, .ref x_registers, .ref x_marked, .int x_marks, .int x_place])), (x_terms, .inr (7, [.ref x_terms_shapes, .ref x_terms_values, .ref x_terms_firstParts, .int x_terms_nodes, .ref x_terms_parts, .ref x_terms_variableNames, .ref x_terms_became, .int x_terms_variables, .int x_terms_variablesLack, .int x_terms_symbols, .int x_terms_nodesBefore, .int x_terms_partsBefore, .int x_terms_variablesBefore])), (x_terms_shapes, .inl (cs 0, x_terms_shapes_n, .inl x_terms_shapes_f)), (x_terms_values, .inl (cs 2, x_terms_values_n, .inr (.inl x_terms_values_f))), (x_terms_firstParts, .inl (cs 0, x_terms_firstParts_n, .inl x_terms_firstParts_f)), (x_terms_parts, .inr (1, [.ref x_terms_parts_items, .int x_terms_parts_size])), (x_terms_parts_items, .inl (cs 0, x_terms_parts_items_n, .inl x_terms_parts_items_f)), (x_terms_became, .inl (cs 0, x_terms_became_n, .inl x_terms_became_f)), (x_unifier, .inr (8, [.ref x_terms, .ref b_x_unifier_links, .ref b_x_unifier_states, .ref x_unifier_pairs, .ref x_unifier_joined, .ref x_unifier_seen, .ref x_unifier_path])), (b_x_unifier_links, .inl (cs 0, o_x_unifier_links_n, .inl o_x_unifier_links_f)), (b_x_unifier_states, .inl (cs 0, o_x_unifier_states_n, .inl o_x_unifier_states_f)), (x_unifier_pairs, .inr (1, [.ref b_x_unifier_pairs_items, .int o_x_unifier_pairs_size])), (b_x_unifier_pairs_items, .inl (cs 0, o_x_unifier_pairs_items_n, .inl o_x_unifier_pairs_items_f)), (x_unifier_joined, .inr (1, [.ref b_x_unifier_joined_items, .int o_x_unifier_joined_size])), (b_x_unifier_joined_items, .inl (cs 0, o_x_unifier_joined_items_n, .inl o_x_unifier_joined_items_f)), (x_unifier_seen, .inr (1, [.ref x_unifier_seen_items, .int o_x_unifier_seen_size])), (x_unifier_seen_items, .inl (cs 0, x_unifier_seen_items_n, .inl x_unifier_seen_items_f)), (x_unifier_path, .inr (1, [.ref x_unifier_path_items, .int o_x_unifier_path_size])), (x_registers, .inl (cs 0, x_registers_n, .inl x_registers_f)), (out, .inl (cs 2, out_n, .inr (.inl o_out_f)))]) (va_A [(x, .inr (9, [.ref x_tape, .ref x_names, .ref x_terms, .ref x_reader, .ref x_unifier, .ref x_printer, .ref x_registers, .ref x_marked, .int x_marks, .int x_place])), (x_terms, .inr (7, [.ref x_terms_shapes, .ref x_terms_values, .ref x_terms_firstParts, .int x_terms_nodes, .ref x_terms_parts, .ref x_terms_variableNames, .ref x_terms_became, .int x_terms_variables, .int x_terms_variablesLack, .int x_terms_symbols, .int x_terms_nodesBefore, .int x_terms_partsBefore, .int x_terms_variablesBefore])), (x_terms_shapes, .inl (cs 0, x_terms_shapes_n, .inl x_terms_shapes_f)), (x_terms_values, .inl (cs 2, x_terms_values_n, .inr (.inl x_terms_values_f))), (x_terms_firstParts, .inl (cs 0, x_terms_firstParts_n, .inl x_terms_firstParts_f)), (x_terms_parts, .inr (1, [.ref x_terms_parts_items, .int x_terms_parts_size])), (x_terms_parts_items, .inl (cs 0, x_terms_parts_items_n, .inl x_terms_parts_items_f)), (x_terms_became, .inl (cs 0, x_terms_became_n, .inl x_terms_became_f)), (x_unifier, .inr (8, [.ref x_terms, .ref x_unifier_links, .ref x_unifier_states, .ref x_unifier_pairs, .ref x_unifier_joined, .ref x_unifier_seen, .ref x_unifier_path])), (x_unifier_links, .inl (cs 0, x_unifier_links_n, .inl x_unifier_links_f)), (x_unifier_states, .inl (cs 0, x_unifier_states_n, .inl x_unifier_states_f)), (x_unifier_pairs, .inr (1, [.ref x_unifier_pairs_items, .int x_unifier_pairs_size])), (x_unifier_pairs_items, .inl (cs 0, x_unifier_pairs_items_n, .inl x_unifier_pairs_items_f)), (x_unifier_joined, .inr (1, [.ref x_unifier_joined_items, .int x_unifier_joined_size])), (x_unifier_joined_items, .inl (cs 0, x_unifier_joined_items_n, .inl x_unifier_joined_items_f)), (x_unifier_seen, .inr (1, [.ref x_unifier_seen_items, .int x_unifier_seen_size])), (x_unifier_seen_items, .inl (cs 0, x_unifier_seen_items_n, .inl x_unifier_seen_items_f)), (x_unifier_path, .inr (1, [.ref x_unifier_path_items, .int x_unifier_path_size])), (x_registers, .inl (cs 0, x_registers_n, .inl x_registers_f)), (out, .inl (cs 2, out_n, .inr (.inl out_f)))] sz)) mc ms (va_A [(x, .inr (9, [.ref x_tape, .ref x_names, .ref x_terms, .ref x_reader, .ref x_unifier, .ref x_printer, .ref x_registers, .ref x_marked, .int x_marks, .int x_place])), (x_terms, .inr (7, [.ref x_terms_shapes, .ref x_terms_values, .ref x_terms_firstParts, .int x_terms_nodes, .ref x_terms_parts, .ref x_terms_variableNames, .ref x_terms_became, .int x_terms_variables, .int x_terms_variablesLack, .int x_terms_symbols, .int x_terms_nodesBefore, .int x_terms_partsBefore, .int x_terms_variablesBefore])), (x_terms_shapes, .inl (cs 0, x_terms_shapes_n, .inl x_terms_shapes_f)), (x_terms_values, .inl (cs 2, x_terms_values_n, .inr (.inl x_terms_values_f))), (x_terms_firstParts, .inl (cs 0, x_terms_firstParts_n, .inl x_terms_firstParts_f)), (x_terms_parts, .inr (1, [.ref x_terms_parts_items, .int x_terms_parts_size])), (x_terms_parts_items, .inl (cs 0, x_terms_parts_items_n, .inl x_terms_parts_items_f)), (x_terms_became, .inl (cs 0, x_terms_became_n, .inl x_terms_became_f)), (x_unifier, .inr (8, [.ref x_terms, .ref x_unifier_links, .ref x_unifier_states, .ref x_unifier_pairs, .ref x_unifier_joined, .ref x_unifier_seen, .ref x_unifier_path])), (x_unifier_links, .inl (cs 0, x_unifier_links_n, .inl x_unifier_links_f)), (x_unifier_states, .inl (cs 0, x_unifier_states_n, .inl x_unifier_states_f)), (x_unifier_pairs, .inr (1, [.ref x_unifier_pairs_items, .int x_unifier_pairs_size])), (x_unifier_pairs_items, .inl (cs 0, x_unifier_pairs_items_n, .inl x_unifier_pairs_items_f)), (x_unifier_joined, .inr (1, [.ref x_unifier_joined_items, .int x_unifier_joined_size])), (x_unifier_joined_items, .inl (cs 0, x_unifier_joined_items_n, .inl x_unifier_joined_items_f)), (x_unifier_seen, .inr (1, [.ref x_unifier_seen_items, .int x_unifier_seen_size])), (x_unifier_seen_items, .inl (cs 0, x_unifier_seen_items_n, .inl x_unifier_seen_items_f)), (x_unifier_path, .inr (1, [.ref x_unifier_path_items, .int x_unifier_path_size])), (x_registers, .inl (cs 0, x_registers_n, .inl x_registers_f)), (out, .inl (cs 2, out_n, .inr (.inl out_f)))] sz) := by
  refine va_MetW (cc := b_Law_same) (maxL := 5) (ret := (some .int)) (by decide) rfl ?_
  intro p e s m args below meth c s₁ B hml hv
  obtain ⟨rfl, hsz, hP, hK, hD0, hgl, hkn, hkr⟩ := hv
  have hx := B.exec
  have hb := B.bytes
  have hr := B.returns
  have hg : ∀ w ∈ GW, w.before ([.ref x, .int p0, .int p1, .ref out] : List Value).toArray s = true := fun w hw => atoms_spec (ws := .codeWith y_Law_same b_Law_same 5 (some .int) [(0, 17, 20, 19)] :: GW) B.pre w (List.mem_cons_of_mem _ hw)
  have hown : s.vm.findClass R_Law = some m.cls := findClass_of_methodNamed B.named
  have hlocks := B.notSynchronized
  have hcd : (Cond.codeWith y_Law_same b_Law_same 5 (some .int) [(0, 17, 20, 19)]).before ([.ref x, .int p0, .int p1, .ref out] : List Value).toArray s = true := atoms_spec (ws := .codeWith y_Law_same b_Law_same 5 (some .int) [(0, 17, 20, 19)] :: GW) B.pre _ List.mem_cons_self
  have hE := cw_hand B hcd
  subst hsz
  have hD := hD0.self (sz := s.heap.size)
  generalize hAe : va_A [(x, .inr (9, [.ref x_tape, .ref x_names, .ref x_terms, .ref x_reader, .ref x_unifier, .ref x_printer, .ref x_registers, .ref x_marked, .int x_marks, .int x_place])), (x_terms, .inr (7, [.ref x_terms_shapes, .ref x_terms_values, .ref x_terms_firstParts, .int x_terms_nodes, .ref x_terms_parts, .ref x_terms_variableNames, .ref x_terms_became, .int x_terms_variables, .int x_terms_variablesLack, .int x_terms_symbols, .int x_terms_nodesBefore, .int x_terms_partsBefore, .int x_terms_variablesBefore])), (x_terms_shapes, .inl (cs 0, x_terms_shapes_n, .inl x_terms_shapes_f)), (x_terms_values, .inl (cs 2, x_terms_values_n, .inr (.inl x_terms_values_f))), (x_terms_firstParts, .inl (cs 0, x_terms_firstParts_n, .inl x_terms_firstParts_f)), (x_terms_parts, .inr (1, [.ref x_terms_parts_items, .int x_terms_parts_size])), (x_terms_parts_items, .inl (cs 0, x_terms_parts_items_n, .inl x_terms_parts_items_f)), (x_terms_became, .inl (cs 0, x_terms_became_n, .inl x_terms_became_f)), (x_unifier, .inr (8, [.ref x_terms, .ref x_unifier_links, .ref x_unifier_states, .ref x_unifier_pairs, .ref x_unifier_joined, .ref x_unifier_seen, .ref x_unifier_path])), (x_unifier_links, .inl (cs 0, x_unifier_links_n, .inl x_unifier_links_f)), (x_unifier_states, .inl (cs 0, x_unifier_states_n, .inl x_unifier_states_f)), (x_unifier_pairs, .inr (1, [.ref x_unifier_pairs_items, .int x_unifier_pairs_size])), (x_unifier_pairs_items, .inl (cs 0, x_unifier_pairs_items_n, .inl x_unifier_pairs_items_f)), (x_unifier_joined, .inr (1, [.ref x_unifier_joined_items, .int x_unifier_joined_size])), (x_unifier_joined_items, .inl (cs 0, x_unifier_joined_items_n, .inl x_unifier_joined_items_f)), (x_unifier_seen, .inr (1, [.ref x_unifier_seen_items, .int x_unifier_seen_size])), (x_unifier_seen_items, .inl (cs 0, x_unifier_seen_items_n, .inl x_unifier_seen_items_f)), (x_unifier_path, .inr (1, [.ref x_unifier_path_items, .int x_unifier_path_size])), (x_registers, .inl (cs 0, x_registers_n, .inl x_registers_f)), (out, .inl (cs 2, out_n, .inr (.inl out_f)))] s.heap.size = A at hD hkn ⊢
  have hA : ∀ q : Nat, s.heap.size ≤ q → A q := fun q h => by rw [← hAe]; exact Or.inr h
  have hS : va_S A s.heap s.heap [] := va_S.rf
  have hP : va_P g classes [(x, .inr (9, [.ref x_tape, .ref x_names, .ref x_terms, .ref x_reader, .ref x_unifier, .ref x_printer, .ref x_registers, .ref x_marked, .int x_marks, .int x_place])), (x_terms, .inr (7, [.ref x_terms_shapes, .ref x_terms_values, .ref x_terms_firstParts, .int x_terms_nodes, .ref x_terms_parts, .ref x_terms_variableNames, .ref x_terms_became, .int x_terms_variables, .int x_terms_variablesLack, .int x_terms_symbols, .int x_terms_nodesBefore, .int x_terms_partsBefore, .int x_terms_variablesBefore])), (x_terms_shapes, .inl (cs 0, x_terms_shapes_n, .inl x_terms_shapes_f)), (x_terms_values, .inl (cs 2, x_terms_values_n, .inr (.inl x_terms_values_f))), (x_terms_firstParts, .inl (cs 0, x_terms_firstParts_n, .inl x_terms_firstParts_f)), (x_terms_parts, .inr (1, [.ref x_terms_parts_items, .int x_terms_parts_size])), (x_terms_parts_items, .inl (cs 0, x_terms_parts_items_n, .inl x_terms_parts_items_f)), (x_terms_became, .inl (cs 0, x_terms_became_n, .inl x_terms_became_f)), (x_unifier, .inr (8, [.ref x_terms, .ref x_unifier_links, .ref x_unifier_states, .ref x_unifier_pairs, .ref x_unifier_joined, .ref x_unifier_seen, .ref x_unifier_path])), (x_unifier_links, .inl (cs 0, x_unifier_links_n, .inl x_unifier_links_f)), (x_unifier_states, .inl (cs 0, x_unifier_states_n, .inl x_unifier_states_f)), (x_unifier_pairs, .inr (1, [.ref x_unifier_pairs_items, .int x_unifier_pairs_size])), (x_unifier_pairs_items, .inl (cs 0, x_unifier_pairs_items_n, .inl x_unifier_pairs_items_f)), (x_unifier_joined, .inr (1, [.ref x_unifier_joined_items, .int x_unifier_joined_size])), (x_unifier_joined_items, .inl (cs 0, x_unifier_joined_items_n, .inl x_unifier_joined_items_f)), (x_unifier_seen, .inr (1, [.ref x_unifier_seen_items, .int x_unifier_seen_size])), (x_unifier_seen_items, .inl (cs 0, x_unifier_seen_items_n, .inl x_unifier_seen_items_f)), (x_unifier_path, .inr (1, [.ref x_unifier_path_items, .int x_unifier_path_size])), (x_registers, .inl (cs 0, x_registers_n, .inl x_registers_f)), (out, .inl (cs 2, out_n, .inr (.inl out_f)))] s.heap := hP
  have hl := lv_entry ([.ref x, .int p0, .int p1, .ref out]) (n := 5) (Nat.le_of_ble_eq_true rfl)
  rw [lg_entry_eq]
  generalize (lg_sl ([.ref x, .int p0, .int p1, .ref out]) ++ List.replicate (5 - (lg_sl ([.ref x, .int p0, .int p1, .ref out])).length) Slot.unset).toArray = ls at hl ⊢
  have hl : lv_has ls 5 [(0, .ref x), (1, .int p0), (2, .int p1), (3, .ref out)] := hl
  refine gq (fun Q hQ => ?_)
  obtain ⟨H, hH⟩ : ∃ H : Heap, H = s.heap := ⟨_, rfl⟩
  rw [← hH] at hP
  have hS : va_S A s.heap H [] := by rw [hH]; exact hS
  refine W.eqH hH ?_
  obtain ⟨locs, hlc⟩ : ∃ L : List Loc, L = [] := ⟨_, rfl⟩
  rw [← hlc] at hS ⊢
  unfold p_Law_same at hok
  refine lv_aload_n hx hb d_Law_same_0 rfl (lv_at hl 3 rfl) ?_
  refine lv_iconst (v := 0) hx hb d_Law_same_1 (by decide) ?_
  refine lv_aload_n hx hb d_Law_same_2 rfl (lv_at hl 0 rfl) ?_
  refine lv_iload_n hx hb d_Law_same_3 rfl (lv_at hl 1 rfl) ?_
  refine lv_iload_n hx hb d_Law_same_4 rfl (lv_at hl 2 rfl) ?_
  obtain ⟨⟨⟨xc1, r1, a_unifier_links_n_1, a_unifier_links_f_1, a_unifier_states_n_1, a_unifier_states_f_1, a_unifier_pairs_size_1, a_unifier_pairs_items_n_1, a_unifier_pairs_items_f_1, a_unifier_joined_size_1, a_unifier_joined_items_n_1, a_unifier_joined_items_f_1, a_unifier_seen_size_1, a_unifier_path_size_1⟩, mk1, sk1⟩, hc1, hok⟩ := bd_some hok
  dsimp only at hok
  obtain ⟨m1, s1, hok, hmc1, hms1⟩ := al_some hok
  obtain ⟨hPc, hDc, hFc⟩ := cut0 (wc := [(x, .inr (9, [.ref x_tape, .ref x_names, .ref x_terms, .ref x_reader, .ref x_unifier, .ref x_printer, .ref x_registers, .ref x_marked, .int x_marks, .int x_place])), (x_terms, .inr (7, [.ref x_terms_shapes, .ref x_terms_values, .ref x_terms_firstParts, .int x_terms_nodes, .ref x_terms_parts, .ref x_terms_variableNames, .ref x_terms_became, .int x_terms_variables, .int x_terms_variablesLack, .int x_terms_symbols, .int x_terms_nodesBefore, .int x_terms_partsBefore, .int x_terms_variablesBefore])), (x_terms_shapes, .inl (cs 0, x_terms_shapes_n, .inl x_terms_shapes_f)), (x_terms_values, .inl (cs 2, x_terms_values_n, .inr (.inl x_terms_values_f))), (x_terms_firstParts, .inl (cs 0, x_terms_firstParts_n, .inl x_terms_firstParts_f)), (x_terms_parts, .inr (1, [.ref x_terms_parts_items, .int x_terms_parts_size])), (x_terms_parts_items, .inl (cs 0, x_terms_parts_items_n, .inl x_terms_parts_items_f)), (x_terms_became, .inl (cs 0, x_terms_became_n, .inl x_terms_became_f)), (x_unifier, .inr (8, [.ref x_terms, .ref x_unifier_links, .ref x_unifier_states, .ref x_unifier_pairs, .ref x_unifier_joined, .ref x_unifier_seen, .ref x_unifier_path])), (x_unifier_links, .inl (cs 0, x_unifier_links_n, .inl x_unifier_links_f)), (x_unifier_states, .inl (cs 0, x_unifier_states_n, .inl x_unifier_states_f)), (x_unifier_pairs, .inr (1, [.ref x_unifier_pairs_items, .int x_unifier_pairs_size])), (x_unifier_pairs_items, .inl (cs 0, x_unifier_pairs_items_n, .inl x_unifier_pairs_items_f)), (x_unifier_joined, .inr (1, [.ref x_unifier_joined_items, .int x_unifier_joined_size])), (x_unifier_joined_items, .inl (cs 0, x_unifier_joined_items_n, .inl x_unifier_joined_items_f)), (x_unifier_seen, .inr (1, [.ref x_unifier_seen_items, .int x_unifier_seen_size])), (x_unifier_seen_items, .inl (cs 0, x_unifier_seen_items_n, .inl x_unifier_seen_items_f)), (x_unifier_path, .inr (1, [.ref x_unifier_path_items, .int x_unifier_path_size])), (x_registers, .inl (cs 0, x_registers_n, .inl x_registers_f))]) hP hD hS hA [0, 1, 2, 3, 4, 5, 6, 7, 8, 9, 10, 11, 12, 13, 14, 15, 16, 17, 18] (by decide) rfl
  refine cw_call (A1 := va_A [(x, .inr (9, [.ref x_tape, .ref x_names, .ref x_terms, .ref x_reader, .ref x_unifier, .ref x_printer, .ref x_registers, .ref x_marked, .int x_marks, .int x_place])), (x_terms, .inr (7, [.ref x_terms_shapes, .ref x_terms_values, .ref x_terms_firstParts, .int x_terms_nodes, .ref x_terms_parts, .ref x_terms_variableNames, .ref x_terms_became, .int x_terms_variables, .int x_terms_variablesLack, .int x_terms_symbols, .int x_terms_nodesBefore, .int x_terms_partsBefore, .int x_terms_variablesBefore])), (x_terms_shapes, .inl (cs 0, x_terms_shapes_n, .inl x_terms_shapes_f)), (x_terms_values, .inl (cs 2, x_terms_values_n, .inr (.inl x_terms_values_f))), (x_terms_firstParts, .inl (cs 0, x_terms_firstParts_n, .inl x_terms_firstParts_f)), (x_terms_parts, .inr (1, [.ref x_terms_parts_items, .int x_terms_parts_size])), (x_terms_parts_items, .inl (cs 0, x_terms_parts_items_n, .inl x_terms_parts_items_f)), (x_terms_became, .inl (cs 0, x_terms_became_n, .inl x_terms_became_f)), (x_unifier, .inr (8, [.ref x_terms, .ref x_unifier_links, .ref x_unifier_states, .ref x_unifier_pairs, .ref x_unifier_joined, .ref x_unifier_seen, .ref x_unifier_path])), (x_unifier_links, .inl (cs 0, x_unifier_links_n, .inl x_unifier_links_f)), (x_unifier_states, .inl (cs 0, x_unifier_states_n, .inl x_unifier_states_f)), (x_unifier_pairs, .inr (1, [.ref x_unifier_pairs_items, .int x_unifier_pairs_size])), (x_unifier_pairs_items, .inl (cs 0, x_unifier_pairs_items_n, .inl x_unifier_pairs_items_f)), (x_unifier_joined, .inr (1, [.ref x_unifier_joined_items, .int x_unifier_joined_size])), (x_unifier_joined_items, .inl (cs 0, x_unifier_joined_items_n, .inl x_unifier_joined_items_f)), (x_unifier_seen, .inr (1, [.ref x_unifier_seen_items, .int x_unifier_seen_size])), (x_unifier_seen_items, .inl (cs 0, x_unifier_seen_items_n, .inl x_unifier_seen_items_f)), (x_unifier_path, .inr (1, [.ref x_unifier_path_items, .int x_unifier_path_size])), (x_registers, .inl (cs 0, x_registers_n, .inl x_registers_f))] H.size) (tx_runV (As := [.int p0, .int p1]) (rest := [.int 0, .ref out]) ⟨hx, hb, hml, hown, hg⟩ (c_UB_same l g cs ka hfl x_tape x_names x_reader x_printer x_marked x_terms_variableNames x_unifier_path_items x x_terms x_terms_shapes x_terms_values x_terms_firstParts x_terms_parts x_terms_parts_items x_terms_became x_unifier x_unifier_links x_unifier_states x_unifier_pairs x_unifier_pairs_items x_unifier_joined x_unifier_joined_items x_unifier_seen x_unifier_seen_items x_unifier_path x_registers H.size n p0 p1 x_marks x_place x_terms_nodes x_terms_variables x_terms_variablesLack x_terms_symbols x_terms_nodesBefore x_terms_partsBefore x_terms_variablesBefore x_terms_shapes_n x_terms_shapes_f x_terms_values_n x_terms_values_f x_terms_firstParts_n x_terms_firstParts_f x_terms_parts_size x_terms_parts_items_n x_terms_parts_items_f x_terms_became_n x_terms_became_f x_unifier_links_n x_unifier_links_f x_unifier_states_n x_unifier_states_f x_unifier_pairs_size x_unifier_pairs_items_n x_unifier_pairs_items_f x_unifier_joined_size x_unifier_joined_items_n x_unifier_joined_items_f x_unifier_seen_size x_unifier_seen_items_n x_unifier_seen_items_f x_unifier_path_size x_registers_n x_registers_f xc1 r1 a_unifier_links_n_1 a_unifier_links_f_1 a_unifier_states_n_1 a_unifier_states_f_1 a_unifier_pairs_size_1 a_unifier_pairs_items_n_1 a_unifier_pairs_items_f_1 a_unifier_joined_size_1 a_unifier_joined_items_n_1 a_unifier_joined_items_f_1 a_unifier_seen_size_1 a_unifier_path_size_1 mk1 sk1 hc1) (cwV (C := R_UB) 2 hg (gw_V wd_1148 wd_1149 wd_1150 wd_632 wd_1147) rfl rfl rfl (by decide +kernel) ⟨Nat.le_of_ble_eq_true rfl, Nat.le_of_ble_eq_true rfl⟩) ⟨gP_blind, va_recv (q0 := 0) (ci := 9) (q := (R_UB, F_UB, 10)) hK hP rfl rfl, gP_pre hPc hDc hK hgl hkn hkr hS hFc⟩ rfl rfl hl.1 rfl (lv_room (Nat.le_of_ble_eq_true rfl)) d_Law_same_5 ⟨show 0 + mk1 ≤ mc from by omega, show 0 + sk1 ≤ ms from by omega⟩) hS (fun st o t h0 hq => hq.2) (fun q _ h => hFc q h) hFc (fun v1 st₀ t H locs h0 ht hW hB hz1 hk1 hS => ?_) (fun x1 st₀ t H locs h0 ht hW hB hz1 hk1 hS => ?_)
  · obtain ⟨⟨hO, hB⟩, -⟩ := hB
    obtain ⟨hx1, hv1⟩ := hO.ret
    subst hv1
    rw [if_pos hx1] at hok
    rw [ht] at hB
    obtain ⟨a_unifier_links_1, a_unifier_states_1, a_unifier_pairs_items_1, a_unifier_joined_items_1, hP1, hD1⟩ := hB
    obtain ⟨hP, hD⟩ := jn_A hP hD [0, 1, 2, 3, 4, 5, 6, 7, 8, 9, 10, 11, 12, 13, 14, 15, 16, 17, 18] [19] rfl rfl (by decide) (by decide) hk1 hFc hP1 hD1
    obtain ⟨hP, hD⟩ : PD g A H [(out, .inl (cs 2, out_n, .inr (.inl out_f))), (x, .inr (9, [.ref x_tape, .ref x_names, .ref x_terms, .ref x_reader, .ref x_unifier, .ref x_printer, .ref x_registers, .ref x_marked, .int x_marks, .int x_place])), (x_terms, .inr (7, [.ref x_terms_shapes, .ref x_terms_values, .ref x_terms_firstParts, .int x_terms_nodes, .ref x_terms_parts, .ref x_terms_variableNames, .ref x_terms_became, .int x_terms_variables, .int x_terms_variablesLack, .int x_terms_symbols, .int x_terms_nodesBefore, .int x_terms_partsBefore, .int x_terms_variablesBefore])), (x_terms_shapes, .inl (cs 0, x_terms_shapes_n, .inl x_terms_shapes_f)), (x_terms_values, .inl (cs 2, x_terms_values_n, .inr (.inl x_terms_values_f))), (x_terms_firstParts, .inl (cs 0, x_terms_firstParts_n, .inl x_terms_firstParts_f)), (x_terms_parts, .inr (1, [.ref x_terms_parts_items, .int x_terms_parts_size])), (x_terms_parts_items, .inl (cs 0, x_terms_parts_items_n, .inl x_terms_parts_items_f)), (x_terms_became, .inl (cs 0, x_terms_became_n, .inl x_terms_became_f)), (x_unifier, .inr (8, [.ref x_terms, .ref a_unifier_links_1, .ref a_unifier_states_1, .ref x_unifier_pairs, .ref x_unifier_joined, .ref x_unifier_seen, .ref x_unifier_path])), (a_unifier_links_1, .inl (cs 0, a_unifier_links_n_1, .inl a_unifier_links_f_1)), (a_unifier_states_1, .inl (cs 0, a_unifier_states_n_1, .inl a_unifier_states_f_1)), (x_unifier_pairs, .inr (1, [.ref a_unifier_pairs_items_1, .int a_unifier_pairs_size_1])), (a_unifier_pairs_items_1, .inl (cs 0, a_unifier_pairs_items_n_1, .inl a_unifier_pairs_items_f_1)), (x_unifier_joined, .inr (1, [.ref a_unifier_joined_items_1, .int a_unifier_joined_size_1])), (a_unifier_joined_items_1, .inl (cs 0, a_unifier_joined_items_n_1, .inl a_unifier_joined_items_f_1)), (x_unifier_seen, .inr (1, [.ref x_unifier_seen_items, .int a_unifier_seen_size_1])), (x_unifier_seen_items, .inl (cs 0, x_unifier_seen_items_n, .inl x_unifier_seen_items_f)), (x_unifier_path, .inr (1, [.ref x_unifier_path_items, .int a_unifier_path_size_1])), (x_registers, .inl (cs 0, x_registers_n, .inl x_registers_f))] := ⟨hP, hD⟩
    refine W.eq (g2 := F0 m 8 ls [.int r1, .int 0, .ref out]) rfl ?_
    refine lv_if_eq hx hb d_Law_same_8 rfl (fun h2 => ?_) (fun h2 => ?_)
    · rw [if_pos h2] at hok
      refine lv_lconst (v := 0) hx hb d_Law_same_15 (by decide) ?_
      obtain ⟨hi3, hok⟩ := ck_some hok
      refine va_last hx hb hK hP hD hS 0 2 rfl rfl (ixb_in hi3) d_Law_same_16 (fun H locs hP hD hS => ?_)
      obtain ⟨hP, hD⟩ : PD g A H [(out, .inl (cs 2, out_n, .inr (.inl (vp_updL out_f (0 : Int32).toNatClampNeg 0)))), (x, .inr (9, [.ref x_tape, .ref x_names, .ref x_terms, .ref x_reader, .ref x_unifier, .ref x_printer, .ref x_registers, .ref x_marked, .int x_marks, .int x_place])), (x_terms, .inr (7, [.ref x_terms_shapes, .ref x_terms_values, .ref x_terms_firstParts, .int x_terms_nodes, .ref x_terms_parts, .ref x_terms_variableNames, .ref x_terms_became, .int x_terms_variables, .int x_terms_variablesLack, .int x_terms_symbols, .int x_terms_nodesBefore, .int x_terms_partsBefore, .int x_terms_variablesBefore])), (x_terms_shapes, .inl (cs 0, x_terms_shapes_n, .inl x_terms_shapes_f)), (x_terms_values, .inl (cs 2, x_terms_values_n, .inr (.inl x_terms_values_f))), (x_terms_firstParts, .inl (cs 0, x_terms_firstParts_n, .inl x_terms_firstParts_f)), (x_terms_parts, .inr (1, [.ref x_terms_parts_items, .int x_terms_parts_size])), (x_terms_parts_items, .inl (cs 0, x_terms_parts_items_n, .inl x_terms_parts_items_f)), (x_terms_became, .inl (cs 0, x_terms_became_n, .inl x_terms_became_f)), (x_unifier, .inr (8, [.ref x_terms, .ref a_unifier_links_1, .ref a_unifier_states_1, .ref x_unifier_pairs, .ref x_unifier_joined, .ref x_unifier_seen, .ref x_unifier_path])), (a_unifier_links_1, .inl (cs 0, a_unifier_links_n_1, .inl a_unifier_links_f_1)), (a_unifier_states_1, .inl (cs 0, a_unifier_states_n_1, .inl a_unifier_states_f_1)), (x_unifier_pairs, .inr (1, [.ref a_unifier_pairs_items_1, .int a_unifier_pairs_size_1])), (a_unifier_pairs_items_1, .inl (cs 0, a_unifier_pairs_items_n_1, .inl a_unifier_pairs_items_f_1)), (x_unifier_joined, .inr (1, [.ref a_unifier_joined_items_1, .int a_unifier_joined_size_1])), (a_unifier_joined_items_1, .inl (cs 0, a_unifier_joined_items_n_1, .inl a_unifier_joined_items_f_1)), (x_unifier_seen, .inr (1, [.ref x_unifier_seen_items, .int a_unifier_seen_size_1])), (x_unifier_seen_items, .inl (cs 0, x_unifier_seen_items_n, .inl x_unifier_seen_items_f)), (x_unifier_path, .inr (1, [.ref x_unifier_path_items, .int a_unifier_path_size_1])), (x_registers, .inl (cs 0, x_registers_n, .inl x_registers_f))] := ⟨hP, hD⟩
      refine lv_goto hx hb d_Law_same_17 rfl ?_
      refine lv_iconst (v := 0) hx hb d_Law_same_24 (by decide) ?_
      obtain ⟨hq, hw⟩ := Prod.mk.inj (Option.some.inj hok)
      obtain ⟨hmc0, hms0⟩ := Prod.mk.inj hw
      obtain ⟨hq0, hq⟩ := Prod.mk.inj hq
      obtain ⟨hq1, hq⟩ := Prod.mk.inj hq
      obtain ⟨hq2, hq⟩ := Prod.mk.inj hq
      obtain ⟨hq3, hq⟩ := Prod.mk.inj hq
      obtain ⟨hq4, hq⟩ := Prod.mk.inj hq
      obtain ⟨hq5, hq⟩ := Prod.mk.inj hq
      obtain ⟨hq6, hq⟩ := Prod.mk.inj hq
      obtain ⟨hq7, hq⟩ := Prod.mk.inj hq
      obtain ⟨hq8, hq⟩ := Prod.mk.inj hq
      obtain ⟨hq9, hq⟩ := Prod.mk.inj hq
      obtain ⟨hq10, hq⟩ := Prod.mk.inj hq
      obtain ⟨hq11, hq⟩ := Prod.mk.inj hq
      obtain ⟨hq12, hq⟩ := Prod.mk.inj hq
      have hq13 := hq
      subst hq0
      subst hq1
      subst hq2
      subst hq3
      subst hq4
      subst hq5
      subst hq6
      subst hq7
      subst hq8
      subst hq9
      subst hq10
      subst hq11
      subst hq12
      subst hq13
      obtain ⟨hP9, hD9⟩ := sub2 (ws' := [(x, .inr (9, [.ref x_tape, .ref x_names, .ref x_terms, .ref x_reader, .ref x_unifier, .ref x_printer, .ref x_registers, .ref x_marked, .int x_marks, .int x_place])), (x_terms, .inr (7, [.ref x_terms_shapes, .ref x_terms_values, .ref x_terms_firstParts, .int x_terms_nodes, .ref x_terms_parts, .ref x_terms_variableNames, .ref x_terms_became, .int x_terms_variables, .int x_terms_variablesLack, .int x_terms_symbols, .int x_terms_nodesBefore, .int x_terms_partsBefore, .int x_terms_variablesBefore])), (x_terms_shapes, .inl (cs 0, x_terms_shapes_n, .inl x_terms_shapes_f)), (x_terms_values, .inl (cs 2, x_terms_values_n, .inr (.inl x_terms_values_f))), (x_terms_firstParts, .inl (cs 0, x_terms_firstParts_n, .inl x_terms_firstParts_f)), (x_terms_parts, .inr (1, [.ref x_terms_parts_items, .int x_terms_parts_size])), (x_terms_parts_items, .inl (cs 0, x_terms_parts_items_n, .inl x_terms_parts_items_f)), (x_terms_became, .inl (cs 0, x_terms_became_n, .inl x_terms_became_f)), (x_unifier, .inr (8, [.ref x_terms, .ref a_unifier_links_1, .ref a_unifier_states_1, .ref x_unifier_pairs, .ref x_unifier_joined, .ref x_unifier_seen, .ref x_unifier_path])), (a_unifier_links_1, .inl (cs 0, a_unifier_links_n_1, .inl a_unifier_links_f_1)), (a_unifier_states_1, .inl (cs 0, a_unifier_states_n_1, .inl a_unifier_states_f_1)), (x_unifier_pairs, .inr (1, [.ref a_unifier_pairs_items_1, .int a_unifier_pairs_size_1])), (a_unifier_pairs_items_1, .inl (cs 0, a_unifier_pairs_items_n_1, .inl a_unifier_pairs_items_f_1)), (x_unifier_joined, .inr (1, [.ref a_unifier_joined_items_1, .int a_unifier_joined_size_1])), (a_unifier_joined_items_1, .inl (cs 0, a_unifier_joined_items_n_1, .inl a_unifier_joined_items_f_1)), (x_unifier_seen, .inr (1, [.ref x_unifier_seen_items, .int a_unifier_seen_size_1])), (x_unifier_seen_items, .inl (cs 0, x_unifier_seen_items_n, .inl x_unifier_seen_items_f)), (x_unifier_path, .inr (1, [.ref x_unifier_path_items, .int a_unifier_path_size_1])), (x_registers, .inl (cs 0, x_registers_n, .inl x_registers_f)), (out, .inl (cs 2, out_n, .inr (.inl (vp_updL out_f (0 : Int32).toNatClampNeg 0))))]) hP hD [1, 2, 3, 4, 5, 6, 7, 8, 9, 10, 11, 12, 13, 14, 15, 16, 17, 18, 19, 0] rfl (by decide) rfl
      refine W.widen (k := mc) (n := ms) (by omega) (by omega) ?_
      rw [hQ]
      exact W.iret (v := 0) hx hb hr (fun t ht hW => ⟨⟨_, (), rfl, rfl, a_unifier_links_1, a_unifier_states_1, a_unifier_pairs_items_1, a_unifier_joined_items_1, by rw [ht]; exact hP9, hD9⟩, hS.F ht⟩) hS.2.2 d_Law_same_25
    · rw [if_neg h2] at hok
      refine lv_lconst (v := 1) hx hb d_Law_same_11 (by decide) ?_
      refine lv_goto hx hb d_Law_same_12 rfl ?_
      obtain ⟨hi4, hok⟩ := ck_some hok
      refine va_last hx hb hK hP hD hS 0 2 rfl rfl (ixb_in hi4) d_Law_same_16 (fun H locs hP hD hS => ?_)
      obtain ⟨hP, hD⟩ : PD g A H [(out, .inl (cs 2, out_n, .inr (.inl (vp_updL out_f (0 : Int32).toNatClampNeg 1)))), (x, .inr (9, [.ref x_tape, .ref x_names, .ref x_terms, .ref x_reader, .ref x_unifier, .ref x_printer, .ref x_registers, .ref x_marked, .int x_marks, .int x_place])), (x_terms, .inr (7, [.ref x_terms_shapes, .ref x_terms_values, .ref x_terms_firstParts, .int x_terms_nodes, .ref x_terms_parts, .ref x_terms_variableNames, .ref x_terms_became, .int x_terms_variables, .int x_terms_variablesLack, .int x_terms_symbols, .int x_terms_nodesBefore, .int x_terms_partsBefore, .int x_terms_variablesBefore])), (x_terms_shapes, .inl (cs 0, x_terms_shapes_n, .inl x_terms_shapes_f)), (x_terms_values, .inl (cs 2, x_terms_values_n, .inr (.inl x_terms_values_f))), (x_terms_firstParts, .inl (cs 0, x_terms_firstParts_n, .inl x_terms_firstParts_f)), (x_terms_parts, .inr (1, [.ref x_terms_parts_items, .int x_terms_parts_size])), (x_terms_parts_items, .inl (cs 0, x_terms_parts_items_n, .inl x_terms_parts_items_f)), (x_terms_became, .inl (cs 0, x_terms_became_n, .inl x_terms_became_f)), (x_unifier, .inr (8, [.ref x_terms, .ref a_unifier_links_1, .ref a_unifier_states_1, .ref x_unifier_pairs, .ref x_unifier_joined, .ref x_unifier_seen, .ref x_unifier_path])), (a_unifier_links_1, .inl (cs 0, a_unifier_links_n_1, .inl a_unifier_links_f_1)), (a_unifier_states_1, .inl (cs 0, a_unifier_states_n_1, .inl a_unifier_states_f_1)), (x_unifier_pairs, .inr (1, [.ref a_unifier_pairs_items_1, .int a_unifier_pairs_size_1])), (a_unifier_pairs_items_1, .inl (cs 0, a_unifier_pairs_items_n_1, .inl a_unifier_pairs_items_f_1)), (x_unifier_joined, .inr (1, [.ref a_unifier_joined_items_1, .int a_unifier_joined_size_1])), (a_unifier_joined_items_1, .inl (cs 0, a_unifier_joined_items_n_1, .inl a_unifier_joined_items_f_1)), (x_unifier_seen, .inr (1, [.ref x_unifier_seen_items, .int a_unifier_seen_size_1])), (x_unifier_seen_items, .inl (cs 0, x_unifier_seen_items_n, .inl x_unifier_seen_items_f)), (x_unifier_path, .inr (1, [.ref x_unifier_path_items, .int a_unifier_path_size_1])), (x_registers, .inl (cs 0, x_registers_n, .inl x_registers_f))] := ⟨hP, hD⟩
      refine lv_goto hx hb d_Law_same_17 rfl ?_
      refine lv_iconst (v := 0) hx hb d_Law_same_24 (by decide) ?_
      obtain ⟨hq, hw⟩ := Prod.mk.inj (Option.some.inj hok)
      obtain ⟨hmc0, hms0⟩ := Prod.mk.inj hw
      obtain ⟨hq0, hq⟩ := Prod.mk.inj hq
      obtain ⟨hq1, hq⟩ := Prod.mk.inj hq
      obtain ⟨hq2, hq⟩ := Prod.mk.inj hq
      obtain ⟨hq3, hq⟩ := Prod.mk.inj hq
      obtain ⟨hq4, hq⟩ := Prod.mk.inj hq
      obtain ⟨hq5, hq⟩ := Prod.mk.inj hq
      obtain ⟨hq6, hq⟩ := Prod.mk.inj hq
      obtain ⟨hq7, hq⟩ := Prod.mk.inj hq
      obtain ⟨hq8, hq⟩ := Prod.mk.inj hq
      obtain ⟨hq9, hq⟩ := Prod.mk.inj hq
      obtain ⟨hq10, hq⟩ := Prod.mk.inj hq
      obtain ⟨hq11, hq⟩ := Prod.mk.inj hq
      obtain ⟨hq12, hq⟩ := Prod.mk.inj hq
      have hq13 := hq
      subst hq0
      subst hq1
      subst hq2
      subst hq3
      subst hq4
      subst hq5
      subst hq6
      subst hq7
      subst hq8
      subst hq9
      subst hq10
      subst hq11
      subst hq12
      subst hq13
      obtain ⟨hP9, hD9⟩ := sub2 (ws' := [(x, .inr (9, [.ref x_tape, .ref x_names, .ref x_terms, .ref x_reader, .ref x_unifier, .ref x_printer, .ref x_registers, .ref x_marked, .int x_marks, .int x_place])), (x_terms, .inr (7, [.ref x_terms_shapes, .ref x_terms_values, .ref x_terms_firstParts, .int x_terms_nodes, .ref x_terms_parts, .ref x_terms_variableNames, .ref x_terms_became, .int x_terms_variables, .int x_terms_variablesLack, .int x_terms_symbols, .int x_terms_nodesBefore, .int x_terms_partsBefore, .int x_terms_variablesBefore])), (x_terms_shapes, .inl (cs 0, x_terms_shapes_n, .inl x_terms_shapes_f)), (x_terms_values, .inl (cs 2, x_terms_values_n, .inr (.inl x_terms_values_f))), (x_terms_firstParts, .inl (cs 0, x_terms_firstParts_n, .inl x_terms_firstParts_f)), (x_terms_parts, .inr (1, [.ref x_terms_parts_items, .int x_terms_parts_size])), (x_terms_parts_items, .inl (cs 0, x_terms_parts_items_n, .inl x_terms_parts_items_f)), (x_terms_became, .inl (cs 0, x_terms_became_n, .inl x_terms_became_f)), (x_unifier, .inr (8, [.ref x_terms, .ref a_unifier_links_1, .ref a_unifier_states_1, .ref x_unifier_pairs, .ref x_unifier_joined, .ref x_unifier_seen, .ref x_unifier_path])), (a_unifier_links_1, .inl (cs 0, a_unifier_links_n_1, .inl a_unifier_links_f_1)), (a_unifier_states_1, .inl (cs 0, a_unifier_states_n_1, .inl a_unifier_states_f_1)), (x_unifier_pairs, .inr (1, [.ref a_unifier_pairs_items_1, .int a_unifier_pairs_size_1])), (a_unifier_pairs_items_1, .inl (cs 0, a_unifier_pairs_items_n_1, .inl a_unifier_pairs_items_f_1)), (x_unifier_joined, .inr (1, [.ref a_unifier_joined_items_1, .int a_unifier_joined_size_1])), (a_unifier_joined_items_1, .inl (cs 0, a_unifier_joined_items_n_1, .inl a_unifier_joined_items_f_1)), (x_unifier_seen, .inr (1, [.ref x_unifier_seen_items, .int a_unifier_seen_size_1])), (x_unifier_seen_items, .inl (cs 0, x_unifier_seen_items_n, .inl x_unifier_seen_items_f)), (x_unifier_path, .inr (1, [.ref x_unifier_path_items, .int a_unifier_path_size_1])), (x_registers, .inl (cs 0, x_registers_n, .inl x_registers_f)), (out, .inl (cs 2, out_n, .inr (.inl (vp_updL out_f (0 : Int32).toNatClampNeg 1))))]) hP hD [1, 2, 3, 4, 5, 6, 7, 8, 9, 10, 11, 12, 13, 14, 15, 16, 17, 18, 19, 0] rfl (by decide) rfl
      refine W.widen (k := mc) (n := ms) (by omega) (by omega) ?_
      rw [hQ]
      exact W.iret (v := 0) hx hb hr (fun t ht hW => ⟨⟨_, (), rfl, rfl, a_unifier_links_1, a_unifier_states_1, a_unifier_pairs_items_1, a_unifier_joined_items_1, by rw [ht]; exact hP9, hD9⟩, hS.F ht⟩) hS.2.2 d_Law_same_25
  · obtain ⟨⟨hO, hB⟩, -⟩ := hB
    obtain ⟨hx1, hX⟩ := hO.thr
    rw [if_neg hx1] at hok
    rw [ht] at hB
    obtain ⟨a_unifier_links_1, a_unifier_states_1, a_unifier_pairs_items_1, a_unifier_joined_items_1, hP1, hD1⟩ := hB
    obtain ⟨hP, hD⟩ := jn_A hP hD [0, 1, 2, 3, 4, 5, 6, 7, 8, 9, 10, 11, 12, 13, 14, 15, 16, 17, 18] [19] rfl rfl (by decide) (by decide) hk1 hFc hP1 hD1
    obtain ⟨hP, hD⟩ : PD g A H [(out, .inl (cs 2, out_n, .inr (.inl out_f))), (x, .inr (9, [.ref x_tape, .ref x_names, .ref x_terms, .ref x_reader, .ref x_unifier, .ref x_printer, .ref x_registers, .ref x_marked, .int x_marks, .int x_place])), (x_terms, .inr (7, [.ref x_terms_shapes, .ref x_terms_values, .ref x_terms_firstParts, .int x_terms_nodes, .ref x_terms_parts, .ref x_terms_variableNames, .ref x_terms_became, .int x_terms_variables, .int x_terms_variablesLack, .int x_terms_symbols, .int x_terms_nodesBefore, .int x_terms_partsBefore, .int x_terms_variablesBefore])), (x_terms_shapes, .inl (cs 0, x_terms_shapes_n, .inl x_terms_shapes_f)), (x_terms_values, .inl (cs 2, x_terms_values_n, .inr (.inl x_terms_values_f))), (x_terms_firstParts, .inl (cs 0, x_terms_firstParts_n, .inl x_terms_firstParts_f)), (x_terms_parts, .inr (1, [.ref x_terms_parts_items, .int x_terms_parts_size])), (x_terms_parts_items, .inl (cs 0, x_terms_parts_items_n, .inl x_terms_parts_items_f)), (x_terms_became, .inl (cs 0, x_terms_became_n, .inl x_terms_became_f)), (x_unifier, .inr (8, [.ref x_terms, .ref a_unifier_links_1, .ref a_unifier_states_1, .ref x_unifier_pairs, .ref x_unifier_joined, .ref x_unifier_seen, .ref x_unifier_path])), (a_unifier_links_1, .inl (cs 0, a_unifier_links_n_1, .inl a_unifier_links_f_1)), (a_unifier_states_1, .inl (cs 0, a_unifier_states_n_1, .inl a_unifier_states_f_1)), (x_unifier_pairs, .inr (1, [.ref a_unifier_pairs_items_1, .int a_unifier_pairs_size_1])), (a_unifier_pairs_items_1, .inl (cs 0, a_unifier_pairs_items_n_1, .inl a_unifier_pairs_items_f_1)), (x_unifier_joined, .inr (1, [.ref a_unifier_joined_items_1, .int a_unifier_joined_size_1])), (a_unifier_joined_items_1, .inl (cs 0, a_unifier_joined_items_n_1, .inl a_unifier_joined_items_f_1)), (x_unifier_seen, .inr (1, [.ref x_unifier_seen_items, .int a_unifier_seen_size_1])), (x_unifier_seen_items, .inl (cs 0, x_unifier_seen_items_n, .inl x_unifier_seen_items_f)), (x_unifier_path, .inr (1, [.ref x_unifier_path_items, .int a_unifier_path_size_1])), (x_registers, .inl (cs 0, x_registers_n, .inl x_registers_f))] := ⟨hP, hD⟩
    by_cases hy1_1 : xc1 = 1
    · rw [if_pos hy1_1] at hok
      subst hy1_1
      obtain ⟨ce, cX, e1, e2, e3, e4, -⟩ := hX
      have e2 : s.vm.findClass "java/lang/IllegalArgumentException" = some cX := by rw [← hW.alike.findClass]; exact e2
      obtain ⟨k0, hk0⟩ := Vm.classAt_of_findClass e2
      refine cw_caught (h := 20) rfl hE (by rw [← ht]; exact e1) e4 (by rw [e3]; exact hk0) (fun hpl => Or.inr ⟨by show (0 : Nat) ≤ 5 ∧ (5 : Nat) < 17; decide, by show (19 : Nat) ≠ 0; decide, cw_hit hown (hg _ wd_1131) (va_Nw.use rfl (hgl _ wd_1132)) e2 e3 hpl rfl⟩) ?_
      refine W.eq (g2 := F0 m 20 ls [.ref x1]) rfl ?_
      refine lv_astore hx hb d_Law_same_20 hl (by decide) rfl (fun ls hl => ?_)
      have hl : lv_has ls 5 [(4, .ref x1), (0, .ref x), (1, .int p0), (2, .int p1), (3, .ref out)] := hl
      refine lv_iconst (v := 1) hx hb d_Law_same_22 (by decide) ?_
      obtain ⟨hq, hw⟩ := Prod.mk.inj (Option.some.inj hok)
      obtain ⟨hmc0, hms0⟩ := Prod.mk.inj hw
      obtain ⟨hq0, hq⟩ := Prod.mk.inj hq
      obtain ⟨hq1, hq⟩ := Prod.mk.inj hq
      obtain ⟨hq2, hq⟩ := Prod.mk.inj hq
      obtain ⟨hq3, hq⟩ := Prod.mk.inj hq
      obtain ⟨hq4, hq⟩ := Prod.mk.inj hq
      obtain ⟨hq5, hq⟩ := Prod.mk.inj hq
      obtain ⟨hq6, hq⟩ := Prod.mk.inj hq
      obtain ⟨hq7, hq⟩ := Prod.mk.inj hq
      obtain ⟨hq8, hq⟩ := Prod.mk.inj hq
      obtain ⟨hq9, hq⟩ := Prod.mk.inj hq
      obtain ⟨hq10, hq⟩ := Prod.mk.inj hq
      obtain ⟨hq11, hq⟩ := Prod.mk.inj hq
      obtain ⟨hq12, hq⟩ := Prod.mk.inj hq
      have hq13 := hq
      subst hq0
      subst hq1
      subst hq2
      subst hq3
      subst hq4
      subst hq5
      subst hq6
      subst hq7
      subst hq8
      subst hq9
      subst hq10
      subst hq11
      subst hq12
      subst hq13
      obtain ⟨hP9, hD9⟩ := sub2 (ws' := [(x, .inr (9, [.ref x_tape, .ref x_names, .ref x_terms, .ref x_reader, .ref x_unifier, .ref x_printer, .ref x_registers, .ref x_marked, .int x_marks, .int x_place])), (x_terms, .inr (7, [.ref x_terms_shapes, .ref x_terms_values, .ref x_terms_firstParts, .int x_terms_nodes, .ref x_terms_parts, .ref x_terms_variableNames, .ref x_terms_became, .int x_terms_variables, .int x_terms_variablesLack, .int x_terms_symbols, .int x_terms_nodesBefore, .int x_terms_partsBefore, .int x_terms_variablesBefore])), (x_terms_shapes, .inl (cs 0, x_terms_shapes_n, .inl x_terms_shapes_f)), (x_terms_values, .inl (cs 2, x_terms_values_n, .inr (.inl x_terms_values_f))), (x_terms_firstParts, .inl (cs 0, x_terms_firstParts_n, .inl x_terms_firstParts_f)), (x_terms_parts, .inr (1, [.ref x_terms_parts_items, .int x_terms_parts_size])), (x_terms_parts_items, .inl (cs 0, x_terms_parts_items_n, .inl x_terms_parts_items_f)), (x_terms_became, .inl (cs 0, x_terms_became_n, .inl x_terms_became_f)), (x_unifier, .inr (8, [.ref x_terms, .ref a_unifier_links_1, .ref a_unifier_states_1, .ref x_unifier_pairs, .ref x_unifier_joined, .ref x_unifier_seen, .ref x_unifier_path])), (a_unifier_links_1, .inl (cs 0, a_unifier_links_n_1, .inl a_unifier_links_f_1)), (a_unifier_states_1, .inl (cs 0, a_unifier_states_n_1, .inl a_unifier_states_f_1)), (x_unifier_pairs, .inr (1, [.ref a_unifier_pairs_items_1, .int a_unifier_pairs_size_1])), (a_unifier_pairs_items_1, .inl (cs 0, a_unifier_pairs_items_n_1, .inl a_unifier_pairs_items_f_1)), (x_unifier_joined, .inr (1, [.ref a_unifier_joined_items_1, .int a_unifier_joined_size_1])), (a_unifier_joined_items_1, .inl (cs 0, a_unifier_joined_items_n_1, .inl a_unifier_joined_items_f_1)), (x_unifier_seen, .inr (1, [.ref x_unifier_seen_items, .int a_unifier_seen_size_1])), (x_unifier_seen_items, .inl (cs 0, x_unifier_seen_items_n, .inl x_unifier_seen_items_f)), (x_unifier_path, .inr (1, [.ref x_unifier_path_items, .int a_unifier_path_size_1])), (x_registers, .inl (cs 0, x_registers_n, .inl x_registers_f)), (out, .inl (cs 2, out_n, .inr (.inl out_f)))]) hP hD [1, 2, 3, 4, 5, 6, 7, 8, 9, 10, 11, 12, 13, 14, 15, 16, 17, 18, 19, 0] rfl (by decide) rfl
      refine W.widen (k := mc) (n := ms) (by omega) (by omega) ?_
      rw [hQ]
      exact W.iret (v := 1) hx hb hr (fun t ht hW => ⟨⟨_, (), rfl, rfl, a_unifier_links_1, a_unifier_states_1, a_unifier_pairs_items_1, a_unifier_joined_items_1, by rw [ht]; exact hP9, hD9⟩, hS.F ht⟩) hS.2.2 d_Law_same_23
    · rw [if_neg hy1_1] at hok
      cases hok

theorem d_Law_part_0 : decode b_Law_part 0 = .ok (.aload_n 0, 1) := by decide +kernel
theorem d_Law_part_1 : decode b_Law_part 1 = .ok (.iload_n 1, 1) := by decide +kernel
theorem d_Law_part_2 : decode b_Law_part 2 = .ok (.iload_n 2, 1) := by decide +kernel
theorem d_Law_part_3 : decode b_Law_part 3 = .ok (.iload_n 3, 1) := by decide +kernel
theorem d_Law_part_4 : decode b_Law_part 4 = .ok (.invokevirtual 33, 3) := by decide +kernel
theorem d_Law_part_7 : decode b_Law_part 7 = .ok (.goto 11, 3) := by decide +kernel
theorem d_Law_part_10 : decode b_Law_part 10 = .ok (.astore 4, 2) := by decide +kernel
theorem d_Law_part_12 : decode b_Law_part 12 = .ok (.iconst 1, 1) := by decide +kernel
theorem d_Law_part_13 : decode b_Law_part 13 = .ok (.ireturn, 1) := by decide +kernel
theorem d_Law_part_14 : decode b_Law_part 14 = .ok (.astore 4, 2) := by decide +kernel
theorem d_Law_part_16 : decode b_Law_part 16 = .ok (.iconst 2, 1) := by decide +kernel
theorem d_Law_part_17 : decode b_Law_part 17 = .ok (.ireturn, 1) := by decide +kernel
theorem d_Law_part_18 : decode b_Law_part 18 = .ok (.iconst 0, 1) := by decide +kernel
theorem d_Law_part_19 : decode b_Law_part 19 = .ok (.ireturn, 1) := by decide +kernel
def p_Law_part (n : Nat) (p0 : Int32) (p1 : Int32) (p2 : Int32) (x_marks : Int32) (x_place : Int32) (x_terms_nodes : Int32) (x_terms_variables : Int32) (x_terms_variablesLack : Int32) (x_terms_symbols : Int32) (x_terms_nodesBefore : Int32) (x_terms_partsBefore : Int32) (x_terms_variablesBefore : Int32) (x_terms_shapes_n : Nat) (x_terms_shapes_f : Nat → Int32) (x_terms_firstParts_n : Nat) (x_terms_firstParts_f : Nat → Int32) (x_terms_parts_size : Int32) (x_terms_parts_items_n : Nat) (x_terms_parts_items_f : Nat → Int32) (x_terms_became_n : Nat) (x_terms_became_f : Nat → Int32) (x_registers_n : Nat) (x_registers_f : Nat → Int32) : Option ((Int32 × (Nat → Int32)) × Nat × Nat) := (p_UB_part n p0 p1 p2 x_marks x_place x_terms_nodes x_terms_variables x_terms_variablesLack x_terms_symbols x_terms_nodesBefore x_terms_partsBefore x_terms_variablesBefore x_terms_shapes_n x_terms_shapes_f x_terms_firstParts_n x_terms_firstParts_f x_terms_parts_size x_terms_parts_items_n x_terms_parts_items_f x_terms_became_n x_terms_became_f x_registers_n x_registers_f).bind (fun ((xc1, a_registers_f_1), mk1, sk1) => al mk1 sk1 (if xc1 = 0 then (some (((0 : Int32), a_registers_f_1), 0, 0)) else (if xc1 = 1 then (some (((1 : Int32), a_registers_f_1), 0, 0)) else (if xc1 = 4 then (some (((2 : Int32), a_registers_f_1), 0, 0)) else (none)))))
set_option maxHeartbeats 40000000 in
set_option maxRecDepth 100000 in
theorem c_Law_part (l : Launch) (g : va_G) (cs : Nat → ClassId) (ka : Nat → Nat) (hfl : l.flags = pinnedFlags ++ [noTraceFlag]) (x_tape : Nat) (x_names : Nat) (x_reader : Nat) (x_unifier : Nat) (x_printer : Nat) (x_marked : Nat) (x_terms_values : Nat) (x_terms_variableNames : Nat) (x x_terms x_terms_shapes x_terms_firstParts x_terms_parts x_terms_parts_items x_terms_became x_registers : Nat) (sz : Nat) (n : Nat) (p0 : Int32) (p1 : Int32) (p2 : Int32) (x_marks : Int32) (x_place : Int32) (x_terms_nodes : Int32) (x_terms_variables : Int32) (x_terms_variablesLack : Int32) (x_terms_symbols : Int32) (x_terms_nodesBefore : Int32) (x_terms_partsBefore : Int32) (x_terms_variablesBefore : Int32) (x_terms_shapes_n : Nat) (x_terms_shapes_f : Nat → Int32) (x_terms_firstParts_n : Nat) (x_terms_firstParts_f : Nat → Int32) (x_terms_parts_size : Int32) (x_terms_parts_items_n : Nat) (x_terms_parts_items_f : Nat → Int32) (x_terms_became_n : Nat) (x_terms_became_f : Nat → Int32) (x_registers_n : Nat) (x_registers_f : Nat → Int32) (r : Int32) (o_x_registers_f : Nat → Int32) (mc ms : Nat) (hok : p_Law_part n p0 p1 p2 x_marks x_place x_terms_nodes x_terms_variables x_terms_variablesLack x_terms_symbols x_terms_nodesBefore x_terms_partsBefore x_terms_variablesBefore x_terms_shapes_n x_terms_shapes_f x_terms_firstParts_n x_terms_firstParts_f x_terms_parts_size x_terms_parts_items_n x_terms_parts_items_f x_terms_became_n x_terms_became_f x_registers_n x_registers_f = some ((r, o_x_registers_f), mc, ms)) : Met l y_Law_part (.codeWith y_Law_part b_Law_part 5 (some .int) [(0, 7, 10, 19), (0, 7, 14, 37)] :: GW) { frames := 8, cells := mc, slots := ms, locals := 134 } (va_Pc [.ref x, .int p0, .int p1, .int p2] (gP g cs ka [(x, .inr (9, [.ref x_tape, .ref x_names, .ref x_terms, .ref x_reader, .ref x_unifier, .ref x_printer, .ref x_registers, .ref x_marked, .int x_marks, .int x_place])), (x_terms, .inr (7, [.ref x_terms_shapes, .ref x_terms_values, .ref x_terms_firstParts, .int x_terms_nodes, .ref x_terms_parts, .ref x_terms_variableNames, .ref x_terms_became, .int x_terms_variables, .int x_terms_variablesLack, .int x_terms_symbols, .int x_terms_nodesBefore, .int x_terms_partsBefore, .int x_terms_variablesBefore])), (x_terms_shapes, .inl (cs 0, x_terms_shapes_n, .inl x_terms_shapes_f)), (x_terms_firstParts, .inl (cs 0, x_terms_firstParts_n, .inl x_terms_firstParts_f)), (x_terms_parts, .inr (1, [.ref x_terms_parts_items, .int x_terms_parts_size])), (x_terms_parts_items, .inl (cs 0, x_terms_parts_items_n, .inl x_terms_parts_items_f)), (x_terms_became, .inl (cs 0, x_terms_became_n, .inl x_terms_became_f)), (x_registers, .inl (cs 0, x_registers_n, .inl x_registers_f))] sz)) (va_Qi (fun (r' : Int32) (_ : Unit) => r = r') (fun _ t => va_P g classes [(x, .inr (9, [.ref x_tape, .ref x_names, .ref x_terms, .ref x_reader, .ref x_unifier, .ref x_printer, .ref x_registers, .ref x_marked, .int x_marks, .int x_place])), (x_terms, .inr (7, [.ref x_terms_shapes, .ref x_terms_values, .ref x_terms_firstParts, .int x_terms_nodes, .ref x_terms_parts, .ref x_terms_variableNames, .ref x_terms_became, .int x_terms_variables, .int x_terms_variablesLack, .int x_terms_symbols, .int x_terms_nodesBefore, .int x_terms_partsBefore, .int x_terms_variablesBefore])), (x_terms_shapes, .inl (cs 0, x_terms_shapes_n, .inl x_terms_shapes_f)), (x_terms_firstParts, .inl (cs 0, x_terms_firstParts_n, .inl x_terms_firstParts_f)), (x_terms_parts, .inr (1, [.ref x_terms_parts_items, .int x_terms_parts_size])), (x_terms_parts_items, .inl (cs 0, x_terms_parts_items_n, .inl x_terms_parts_items_f)), (x_terms_became, .inl (cs 0, x_terms_became_n, .inl x_terms_became_f)), (x_registers, .inl (cs 0, x_registers_n, .inl o_x_registers_f))] t.heap ∧ va_D (va_A [(x, .inr (9, [.ref x_tape, .ref x_names, .ref x_terms, .ref x_reader, .ref x_unifier, .ref x_printer, .ref x_registers, .ref x_marked, .int x_marks, .int x_place])), (x_terms, .inr (7, [.ref x_terms_shapes, .ref x_terms_values, .ref x_terms_firstParts, .int x_terms_nodes, .ref x_terms_parts, .ref x_terms_variableNames, .ref x_terms_became, .int x_terms_variables, .int x_terms_variablesLack, .int x_terms_symbols, .int x_terms_nodesBefore, .int x_terms_partsBefore, .int x_terms_variablesBefore])), (x_terms_shapes, .inl (cs 0, x_terms_shapes_n, .inl x_terms_shapes_f)), (x_terms_firstParts, .inl (cs 0, x_terms_firstParts_n, .inl x_terms_firstParts_f)), (x_terms_parts, .inr (1, [.ref x_terms_parts_items, .int x_terms_parts_size])), (x_terms_parts_items, .inl (cs 0, x_terms_parts_items_n, .inl x_terms_parts_items_f)), (x_terms_became, .inl (cs 0, x_terms_became_n, .inl x_terms_became_f)), (x_registers, .inl (cs 0, x_registers_n, .inl x_registers_f))] sz) [(x, .inr (9, [.ref x_tape, .ref x_names, .ref x_terms, .ref x_reader, .ref x_unifier, .ref x_printer, .ref x_registers, .ref x_marked, .int x_marks, .int x_place])), (x_terms, .inr (7, [.ref x_terms_shapes, .ref x_terms_values, .ref x_terms_firstParts, .int x_terms_nodes, .ref x_terms_parts, .ref x_terms_variableNames, .ref x_terms_became, .int x_terms_variables, .int x_terms_variablesLack, .int x_terms_symbols, .int x_terms_nodesBefore, .int x_terms_partsBefore, .int x_terms_variablesBefore])), (x_terms_shapes, .inl (cs 0, x_terms_shapes_n, .inl x_terms_shapes_f)), (x_terms_firstParts, .inl (cs 0, x_terms_firstParts_n, .inl x_terms_firstParts_f)), (x_terms_parts, .inr (1, [.ref x_terms_parts_items, .int x_terms_parts_size])), (x_terms_parts_items, .inl (cs 0, x_terms_parts_items_n, .inl x_terms_parts_items_f)), (x_terms_became, .inl (cs 0, x_terms_became_n, .inl x_terms_became_f)), (x_registers, .inl (cs 0, x_registers_n, .inl o_x_registers_f))]) (va_A [(x, .inr (9, [.ref x_tape, .ref x_names, .ref x_terms, .ref x_reader, .ref x_unifier, .ref x_printer, .ref x_registers, .ref x_marked, .int x_marks, .int x_place])), (x_terms, .inr (7, [.ref x_terms_shapes, .ref x_terms_values, .ref x_terms_firstParts, .int x_terms_nodes, .ref x_terms_parts, .ref x_terms_variableNames, .ref x_terms_became, .int x_terms_variables, .int x_terms_variablesLack, .int x_terms_symbols, .int x_terms_nodesBefore, .int x_terms_partsBefore, .int x_terms_variablesBefore])), (x_terms_shapes, .inl (cs 0, x_terms_shapes_n, .inl x_terms_shapes_f)), (x_terms_firstParts, .inl (cs 0, x_terms_firstParts_n, .inl x_terms_firstParts_f)), (x_terms_parts, .inr (1, [.ref x_terms_parts_items, .int x_terms_parts_size])), (x_terms_parts_items, .inl (cs 0, x_terms_parts_items_n, .inl x_terms_parts_items_f)), (x_terms_became, .inl (cs 0, x_terms_became_n, .inl x_terms_became_f)), (x_registers, .inl (cs 0, x_registers_n, .inl x_registers_f))] sz)) mc ms (va_A [(x, .inr (9, [.ref x_tape, .ref x_names, .ref x_terms, .ref x_reader, .ref x_unifier, .ref x_printer, .ref x_registers, .ref x_marked, .int x_marks, .int x_place])), (x_terms, .inr (7, [.ref x_terms_shapes, .ref x_terms_values, .ref x_terms_firstParts, .int x_terms_nodes, .ref x_terms_parts, .ref x_terms_variableNames, .ref x_terms_became, .int x_terms_variables, .int x_terms_variablesLack, .int x_terms_symbols, .int x_terms_nodesBefore, .int x_terms_partsBefore, .int x_terms_variablesBefore])), (x_terms_shapes, .inl (cs 0, x_terms_shapes_n, .inl x_terms_shapes_f)), (x_terms_firstParts, .inl (cs 0, x_terms_firstParts_n, .inl x_terms_firstParts_f)), (x_terms_parts, .inr (1, [.ref x_terms_parts_items, .int x_terms_parts_size])), (x_terms_parts_items, .inl (cs 0, x_terms_parts_items_n, .inl x_terms_parts_items_f)), (x_terms_became, .inl (cs 0, x_terms_became_n, .inl x_terms_became_f)), (x_registers, .inl (cs 0, x_registers_n, .inl x_registers_f))] sz) := by
  refine va_MetW (cc := b_Law_part) (maxL := 5) (ret := (some .int)) (by decide) rfl ?_
  intro p e s m args below meth c s₁ B hml hv
  obtain ⟨rfl, hsz, hP, hK, hD0, hgl, hkn, hkr⟩ := hv
  have hx := B.exec
  have hb := B.bytes
  have hr := B.returns
  have hg : ∀ w ∈ GW, w.before ([.ref x, .int p0, .int p1, .int p2] : List Value).toArray s = true := fun w hw => atoms_spec (ws := .codeWith y_Law_part b_Law_part 5 (some .int) [(0, 7, 10, 19), (0, 7, 14, 37)] :: GW) B.pre w (List.mem_cons_of_mem _ hw)
  have hown : s.vm.findClass R_Law = some m.cls := findClass_of_methodNamed B.named
  have hlocks := B.notSynchronized
  have hcd : (Cond.codeWith y_Law_part b_Law_part 5 (some .int) [(0, 7, 10, 19), (0, 7, 14, 37)]).before ([.ref x, .int p0, .int p1, .int p2] : List Value).toArray s = true := atoms_spec (ws := .codeWith y_Law_part b_Law_part 5 (some .int) [(0, 7, 10, 19), (0, 7, 14, 37)] :: GW) B.pre _ List.mem_cons_self
  have hE := cw_hand B hcd
  subst hsz
  have hD := hD0.self (sz := s.heap.size)
  generalize hAe : va_A [(x, .inr (9, [.ref x_tape, .ref x_names, .ref x_terms, .ref x_reader, .ref x_unifier, .ref x_printer, .ref x_registers, .ref x_marked, .int x_marks, .int x_place])), (x_terms, .inr (7, [.ref x_terms_shapes, .ref x_terms_values, .ref x_terms_firstParts, .int x_terms_nodes, .ref x_terms_parts, .ref x_terms_variableNames, .ref x_terms_became, .int x_terms_variables, .int x_terms_variablesLack, .int x_terms_symbols, .int x_terms_nodesBefore, .int x_terms_partsBefore, .int x_terms_variablesBefore])), (x_terms_shapes, .inl (cs 0, x_terms_shapes_n, .inl x_terms_shapes_f)), (x_terms_firstParts, .inl (cs 0, x_terms_firstParts_n, .inl x_terms_firstParts_f)), (x_terms_parts, .inr (1, [.ref x_terms_parts_items, .int x_terms_parts_size])), (x_terms_parts_items, .inl (cs 0, x_terms_parts_items_n, .inl x_terms_parts_items_f)), (x_terms_became, .inl (cs 0, x_terms_became_n, .inl x_terms_became_f)), (x_registers, .inl (cs 0, x_registers_n, .inl x_registers_f))] s.heap.size = A at hD hkn ⊢
  have hA : ∀ q : Nat, s.heap.size ≤ q → A q := fun q h => by rw [← hAe]; exact Or.inr h
  have hS : va_S A s.heap s.heap [] := va_S.rf
  have hP : va_P g classes [(x, .inr (9, [.ref x_tape, .ref x_names, .ref x_terms, .ref x_reader, .ref x_unifier, .ref x_printer, .ref x_registers, .ref x_marked, .int x_marks, .int x_place])), (x_terms, .inr (7, [.ref x_terms_shapes, .ref x_terms_values, .ref x_terms_firstParts, .int x_terms_nodes, .ref x_terms_parts, .ref x_terms_variableNames, .ref x_terms_became, .int x_terms_variables, .int x_terms_variablesLack, .int x_terms_symbols, .int x_terms_nodesBefore, .int x_terms_partsBefore, .int x_terms_variablesBefore])), (x_terms_shapes, .inl (cs 0, x_terms_shapes_n, .inl x_terms_shapes_f)), (x_terms_firstParts, .inl (cs 0, x_terms_firstParts_n, .inl x_terms_firstParts_f)), (x_terms_parts, .inr (1, [.ref x_terms_parts_items, .int x_terms_parts_size])), (x_terms_parts_items, .inl (cs 0, x_terms_parts_items_n, .inl x_terms_parts_items_f)), (x_terms_became, .inl (cs 0, x_terms_became_n, .inl x_terms_became_f)), (x_registers, .inl (cs 0, x_registers_n, .inl x_registers_f))] s.heap := hP
  have hl := lv_entry ([.ref x, .int p0, .int p1, .int p2]) (n := 5) (Nat.le_of_ble_eq_true rfl)
  rw [lg_entry_eq]
  generalize (lg_sl ([.ref x, .int p0, .int p1, .int p2]) ++ List.replicate (5 - (lg_sl ([.ref x, .int p0, .int p1, .int p2])).length) Slot.unset).toArray = ls at hl ⊢
  have hl : lv_has ls 5 [(0, .ref x), (1, .int p0), (2, .int p1), (3, .int p2)] := hl
  refine gq (fun Q hQ => ?_)
  obtain ⟨H, hH⟩ : ∃ H : Heap, H = s.heap := ⟨_, rfl⟩
  rw [← hH] at hP
  have hS : va_S A s.heap H [] := by rw [hH]; exact hS
  refine W.eqH hH ?_
  obtain ⟨locs, hlc⟩ : ∃ L : List Loc, L = [] := ⟨_, rfl⟩
  rw [← hlc] at hS ⊢
  unfold p_Law_part at hok
  refine lv_aload_n hx hb d_Law_part_0 rfl (lv_at hl 0 rfl) ?_
  refine lv_iload_n hx hb d_Law_part_1 rfl (lv_at hl 1 rfl) ?_
  refine lv_iload_n hx hb d_Law_part_2 rfl (lv_at hl 2 rfl) ?_
  refine lv_iload_n hx hb d_Law_part_3 rfl (lv_at hl 3 rfl) ?_
  obtain ⟨⟨⟨xc1, a_registers_f_1⟩, mk1, sk1⟩, hc1, hok⟩ := bd_some hok
  dsimp only at hok
  obtain ⟨m1, s1, hok, hmc1, hms1⟩ := al_some hok
  obtain ⟨hPc, hDc, hFc⟩ := cut0 (wc := [(x, .inr (9, [.ref x_tape, .ref x_names, .ref x_terms, .ref x_reader, .ref x_unifier, .ref x_printer, .ref x_registers, .ref x_marked, .int x_marks, .int x_place])), (x_terms, .inr (7, [.ref x_terms_shapes, .ref x_terms_values, .ref x_terms_firstParts, .int x_terms_nodes, .ref x_terms_parts, .ref x_terms_variableNames, .ref x_terms_became, .int x_terms_variables, .int x_terms_variablesLack, .int x_terms_symbols, .int x_terms_nodesBefore, .int x_terms_partsBefore, .int x_terms_variablesBefore])), (x_terms_shapes, .inl (cs 0, x_terms_shapes_n, .inl x_terms_shapes_f)), (x_terms_firstParts, .inl (cs 0, x_terms_firstParts_n, .inl x_terms_firstParts_f)), (x_terms_parts, .inr (1, [.ref x_terms_parts_items, .int x_terms_parts_size])), (x_terms_parts_items, .inl (cs 0, x_terms_parts_items_n, .inl x_terms_parts_items_f)), (x_terms_became, .inl (cs 0, x_terms_became_n, .inl x_terms_became_f)), (x_registers, .inl (cs 0, x_registers_n, .inl x_registers_f))]) hP hD hS hA [0, 1, 2, 3, 4, 5, 6, 7] (by decide) rfl
  refine cw_call (A1 := va_A [(x, .inr (9, [.ref x_tape, .ref x_names, .ref x_terms, .ref x_reader, .ref x_unifier, .ref x_printer, .ref x_registers, .ref x_marked, .int x_marks, .int x_place])), (x_terms, .inr (7, [.ref x_terms_shapes, .ref x_terms_values, .ref x_terms_firstParts, .int x_terms_nodes, .ref x_terms_parts, .ref x_terms_variableNames, .ref x_terms_became, .int x_terms_variables, .int x_terms_variablesLack, .int x_terms_symbols, .int x_terms_nodesBefore, .int x_terms_partsBefore, .int x_terms_variablesBefore])), (x_terms_shapes, .inl (cs 0, x_terms_shapes_n, .inl x_terms_shapes_f)), (x_terms_firstParts, .inl (cs 0, x_terms_firstParts_n, .inl x_terms_firstParts_f)), (x_terms_parts, .inr (1, [.ref x_terms_parts_items, .int x_terms_parts_size])), (x_terms_parts_items, .inl (cs 0, x_terms_parts_items_n, .inl x_terms_parts_items_f)), (x_terms_became, .inl (cs 0, x_terms_became_n, .inl x_terms_became_f)), (x_registers, .inl (cs 0, x_registers_n, .inl x_registers_f))] H.size) (tx_runV (As := [.int p0, .int p1, .int p2]) (rest := []) ⟨hx, hb, hml, hown, hg⟩ (c_UB_part l g cs ka hfl x_tape x_names x_reader x_unifier x_printer x_marked x_terms_values x_terms_variableNames x x_terms x_terms_shapes x_terms_firstParts x_terms_parts x_terms_parts_items x_terms_became x_registers H.size n p0 p1 p2 x_marks x_place x_terms_nodes x_terms_variables x_terms_variablesLack x_terms_symbols x_terms_nodesBefore x_terms_partsBefore x_terms_variablesBefore x_terms_shapes_n x_terms_shapes_f x_terms_firstParts_n x_terms_firstParts_f x_terms_parts_size x_terms_parts_items_n x_terms_parts_items_f x_terms_became_n x_terms_became_f x_registers_n x_registers_f xc1 a_registers_f_1 mk1 sk1 hc1) (cwV (C := R_UB) 3 hg (gw_V wd_1152 wd_1153 wd_1154 wd_632 wd_1151) rfl rfl rfl (by decide +kernel) ⟨Nat.le_of_ble_eq_true rfl, Nat.le_of_ble_eq_true rfl⟩) ⟨gP_blind, va_recv (q0 := 0) (ci := 9) (q := (R_UB, F_UB, 10)) hK hP rfl rfl, gP_pre hPc hDc hK hgl hkn hkr hS hFc⟩ rfl rfl hl.1 rfl (lv_room (Nat.le_of_ble_eq_true rfl)) d_Law_part_4 ⟨show 0 + mk1 ≤ mc from by omega, show 0 + sk1 ≤ ms from by omega⟩) hS (fun st o t h0 hq => hq.2) (fun q _ h => hFc q h) hFc (fun v1 st₀ t H locs h0 ht hW hB hz1 hk1 hS => ?_) (fun x1 st₀ t H locs h0 ht hW hB hz1 hk1 hS => ?_)
  · obtain ⟨⟨hO, hB⟩, -⟩ := hB
    obtain ⟨hx1, hv1⟩ := hO.ret
    subst hv1
    rw [if_pos hx1] at hok
    rw [ht] at hB
    obtain ⟨hP1, hD1⟩ := hB
    obtain ⟨hP, hD⟩ := jn_A hP hD [0, 1, 2, 3, 4, 5, 6, 7] [] rfl rfl (by decide) (by decide) hk1 hFc hP1 hD1
    obtain ⟨hP, hD⟩ : PD g A H [(x, .inr (9, [.ref x_tape, .ref x_names, .ref x_terms, .ref x_reader, .ref x_unifier, .ref x_printer, .ref x_registers, .ref x_marked, .int x_marks, .int x_place])), (x_terms, .inr (7, [.ref x_terms_shapes, .ref x_terms_values, .ref x_terms_firstParts, .int x_terms_nodes, .ref x_terms_parts, .ref x_terms_variableNames, .ref x_terms_became, .int x_terms_variables, .int x_terms_variablesLack, .int x_terms_symbols, .int x_terms_nodesBefore, .int x_terms_partsBefore, .int x_terms_variablesBefore])), (x_terms_shapes, .inl (cs 0, x_terms_shapes_n, .inl x_terms_shapes_f)), (x_terms_firstParts, .inl (cs 0, x_terms_firstParts_n, .inl x_terms_firstParts_f)), (x_terms_parts, .inr (1, [.ref x_terms_parts_items, .int x_terms_parts_size])), (x_terms_parts_items, .inl (cs 0, x_terms_parts_items_n, .inl x_terms_parts_items_f)), (x_terms_became, .inl (cs 0, x_terms_became_n, .inl x_terms_became_f)), (x_registers, .inl (cs 0, x_registers_n, .inl a_registers_f_1))] := ⟨hP, hD⟩
    refine W.eq (g2 := F0 m 7 ls []) rfl ?_
    refine lv_goto hx hb d_Law_part_7 rfl ?_
    refine lv_iconst (v := 0) hx hb d_Law_part_18 (by decide) ?_
    obtain ⟨hq, hw⟩ := Prod.mk.inj (Option.some.inj hok)
    obtain ⟨hmc0, hms0⟩ := Prod.mk.inj hw
    obtain ⟨hq0, hq⟩ := Prod.mk.inj hq
    have hq1 := hq
    subst hq0
    subst hq1
    obtain ⟨hP9, hD9⟩ := sub2 (ws' := [(x, .inr (9, [.ref x_tape, .ref x_names, .ref x_terms, .ref x_reader, .ref x_unifier, .ref x_printer, .ref x_registers, .ref x_marked, .int x_marks, .int x_place])), (x_terms, .inr (7, [.ref x_terms_shapes, .ref x_terms_values, .ref x_terms_firstParts, .int x_terms_nodes, .ref x_terms_parts, .ref x_terms_variableNames, .ref x_terms_became, .int x_terms_variables, .int x_terms_variablesLack, .int x_terms_symbols, .int x_terms_nodesBefore, .int x_terms_partsBefore, .int x_terms_variablesBefore])), (x_terms_shapes, .inl (cs 0, x_terms_shapes_n, .inl x_terms_shapes_f)), (x_terms_firstParts, .inl (cs 0, x_terms_firstParts_n, .inl x_terms_firstParts_f)), (x_terms_parts, .inr (1, [.ref x_terms_parts_items, .int x_terms_parts_size])), (x_terms_parts_items, .inl (cs 0, x_terms_parts_items_n, .inl x_terms_parts_items_f)), (x_terms_became, .inl (cs 0, x_terms_became_n, .inl x_terms_became_f)), (x_registers, .inl (cs 0, x_registers_n, .inl a_registers_f_1))]) hP hD [0, 1, 2, 3, 4, 5, 6, 7] rfl (by decide) rfl
    refine W.widen (k := mc) (n := ms) (by omega) (by omega) ?_
    rw [hQ]
    exact W.iret (v := 0) hx hb hr (fun t ht hW => ⟨⟨_, (), rfl, rfl, by rw [ht]; exact hP9, hD9⟩, hS.F ht⟩) hS.2.2 d_Law_part_19
  · obtain ⟨⟨hO, hB⟩, -⟩ := hB
    obtain ⟨hx1, hX⟩ := hO.thr
    rw [if_neg hx1] at hok
    rw [ht] at hB
    obtain ⟨hP1, hD1⟩ := hB
    obtain ⟨hP, hD⟩ := jn_A hP hD [0, 1, 2, 3, 4, 5, 6, 7] [] rfl rfl (by decide) (by decide) hk1 hFc hP1 hD1
    obtain ⟨hP, hD⟩ : PD g A H [(x, .inr (9, [.ref x_tape, .ref x_names, .ref x_terms, .ref x_reader, .ref x_unifier, .ref x_printer, .ref x_registers, .ref x_marked, .int x_marks, .int x_place])), (x_terms, .inr (7, [.ref x_terms_shapes, .ref x_terms_values, .ref x_terms_firstParts, .int x_terms_nodes, .ref x_terms_parts, .ref x_terms_variableNames, .ref x_terms_became, .int x_terms_variables, .int x_terms_variablesLack, .int x_terms_symbols, .int x_terms_nodesBefore, .int x_terms_partsBefore, .int x_terms_variablesBefore])), (x_terms_shapes, .inl (cs 0, x_terms_shapes_n, .inl x_terms_shapes_f)), (x_terms_firstParts, .inl (cs 0, x_terms_firstParts_n, .inl x_terms_firstParts_f)), (x_terms_parts, .inr (1, [.ref x_terms_parts_items, .int x_terms_parts_size])), (x_terms_parts_items, .inl (cs 0, x_terms_parts_items_n, .inl x_terms_parts_items_f)), (x_terms_became, .inl (cs 0, x_terms_became_n, .inl x_terms_became_f)), (x_registers, .inl (cs 0, x_registers_n, .inl a_registers_f_1))] := ⟨hP, hD⟩
    by_cases hy1_1 : xc1 = 1
    · rw [if_pos hy1_1] at hok
      subst hy1_1
      obtain ⟨ce, cX, e1, e2, e3, e4, -⟩ := hX
      have e2 : s.vm.findClass "java/lang/IllegalArgumentException" = some cX := by rw [← hW.alike.findClass]; exact e2
      obtain ⟨k0, hk0⟩ := Vm.classAt_of_findClass e2
      refine cw_caught (h := 10) rfl hE (by rw [← ht]; exact e1) e4 (by rw [e3]; exact hk0) (fun hpl => Or.inr ⟨by show (0 : Nat) ≤ 4 ∧ (4 : Nat) < 7; decide, by show (19 : Nat) ≠ 0; decide, cw_hit hown (hg _ wd_1131) (va_Nw.use rfl (hgl _ wd_1132)) e2 e3 hpl rfl⟩) ?_
      refine W.eq (g2 := F0 m 10 ls [.ref x1]) rfl ?_
      refine lv_astore hx hb d_Law_part_10 hl (by decide) rfl (fun ls hl => ?_)
      have hl : lv_has ls 5 [(4, .ref x1), (0, .ref x), (1, .int p0), (2, .int p1), (3, .int p2)] := hl
      refine lv_iconst (v := 1) hx hb d_Law_part_12 (by decide) ?_
      obtain ⟨hq, hw⟩ := Prod.mk.inj (Option.some.inj hok)
      obtain ⟨hmc0, hms0⟩ := Prod.mk.inj hw
      obtain ⟨hq0, hq⟩ := Prod.mk.inj hq
      have hq1 := hq
      subst hq0
      subst hq1
      obtain ⟨hP9, hD9⟩ := sub2 (ws' := [(x, .inr (9, [.ref x_tape, .ref x_names, .ref x_terms, .ref x_reader, .ref x_unifier, .ref x_printer, .ref x_registers, .ref x_marked, .int x_marks, .int x_place])), (x_terms, .inr (7, [.ref x_terms_shapes, .ref x_terms_values, .ref x_terms_firstParts, .int x_terms_nodes, .ref x_terms_parts, .ref x_terms_variableNames, .ref x_terms_became, .int x_terms_variables, .int x_terms_variablesLack, .int x_terms_symbols, .int x_terms_nodesBefore, .int x_terms_partsBefore, .int x_terms_variablesBefore])), (x_terms_shapes, .inl (cs 0, x_terms_shapes_n, .inl x_terms_shapes_f)), (x_terms_firstParts, .inl (cs 0, x_terms_firstParts_n, .inl x_terms_firstParts_f)), (x_terms_parts, .inr (1, [.ref x_terms_parts_items, .int x_terms_parts_size])), (x_terms_parts_items, .inl (cs 0, x_terms_parts_items_n, .inl x_terms_parts_items_f)), (x_terms_became, .inl (cs 0, x_terms_became_n, .inl x_terms_became_f)), (x_registers, .inl (cs 0, x_registers_n, .inl a_registers_f_1))]) hP hD [0, 1, 2, 3, 4, 5, 6, 7] rfl (by decide) rfl
      refine W.widen (k := mc) (n := ms) (by omega) (by omega) ?_
      rw [hQ]
      exact W.iret (v := 1) hx hb hr (fun t ht hW => ⟨⟨_, (), rfl, rfl, by rw [ht]; exact hP9, hD9⟩, hS.F ht⟩) hS.2.2 d_Law_part_13
    · rw [if_neg hy1_1] at hok
      by_cases hy1_4 : xc1 = 4
      · rw [if_pos hy1_4] at hok
        subst hy1_4
        obtain ⟨ce, cX, e1, e2, e3, e4, -⟩ := hX
        have e2 : s.vm.findClass "java/util/NoSuchElementException" = some cX := by rw [← hW.alike.findClass]; exact e2
        obtain ⟨k0, hk0⟩ := Vm.classAt_of_findClass e2
        refine cw_caught (h := 14) rfl hE (by rw [← ht]; exact e1) e4 (by rw [e3]; exact hk0) (fun hpl => Or.inr ⟨by show (0 : Nat) ≤ 4 ∧ (4 : Nat) < 7; decide, by show (19 : Nat) ≠ 0; decide, cw_miss hown (hg _ wd_1131) (nc_no (hkr.2 ("java/util/NoSuchElementException", "java/lang/IllegalArgumentException") (by decide))) e2 e3 hpl (Or.inr ⟨by show (0 : Nat) ≤ 4 ∧ (4 : Nat) < 7; decide, by show (37 : Nat) ≠ 0; decide, cw_hit hown (hg _ wd_1141) (va_Nw.use rfl (hgl _ wd_1142)) e2 e3 hpl rfl⟩)⟩) ?_
        refine W.eq (g2 := F0 m 14 ls [.ref x1]) rfl ?_
        refine lv_astore hx hb d_Law_part_14 hl (by decide) rfl (fun ls hl => ?_)
        have hl : lv_has ls 5 [(4, .ref x1), (0, .ref x), (1, .int p0), (2, .int p1), (3, .int p2)] := hl
        refine lv_iconst (v := 2) hx hb d_Law_part_16 (by decide) ?_
        obtain ⟨hq, hw⟩ := Prod.mk.inj (Option.some.inj hok)
        obtain ⟨hmc0, hms0⟩ := Prod.mk.inj hw
        obtain ⟨hq0, hq⟩ := Prod.mk.inj hq
        have hq1 := hq
        subst hq0
        subst hq1
        obtain ⟨hP9, hD9⟩ := sub2 (ws' := [(x, .inr (9, [.ref x_tape, .ref x_names, .ref x_terms, .ref x_reader, .ref x_unifier, .ref x_printer, .ref x_registers, .ref x_marked, .int x_marks, .int x_place])), (x_terms, .inr (7, [.ref x_terms_shapes, .ref x_terms_values, .ref x_terms_firstParts, .int x_terms_nodes, .ref x_terms_parts, .ref x_terms_variableNames, .ref x_terms_became, .int x_terms_variables, .int x_terms_variablesLack, .int x_terms_symbols, .int x_terms_nodesBefore, .int x_terms_partsBefore, .int x_terms_variablesBefore])), (x_terms_shapes, .inl (cs 0, x_terms_shapes_n, .inl x_terms_shapes_f)), (x_terms_firstParts, .inl (cs 0, x_terms_firstParts_n, .inl x_terms_firstParts_f)), (x_terms_parts, .inr (1, [.ref x_terms_parts_items, .int x_terms_parts_size])), (x_terms_parts_items, .inl (cs 0, x_terms_parts_items_n, .inl x_terms_parts_items_f)), (x_terms_became, .inl (cs 0, x_terms_became_n, .inl x_terms_became_f)), (x_registers, .inl (cs 0, x_registers_n, .inl a_registers_f_1))]) hP hD [0, 1, 2, 3, 4, 5, 6, 7] rfl (by decide) rfl
        refine W.widen (k := mc) (n := ms) (by omega) (by omega) ?_
        rw [hQ]
        exact W.iret (v := 2) hx hb hr (fun t ht hW => ⟨⟨_, (), rfl, rfl, by rw [ht]; exact hP9, hD9⟩, hS.F ht⟩) hS.2.2 d_Law_part_17
      · rw [if_neg hy1_4] at hok
        cases hok

theorem d_Law_print_0 : decode b_Law_print 0 = .ok (.aload_n 2, 1) := by decide +kernel
theorem d_Law_print_1 : decode b_Law_print 1 = .ok (.iconst 0, 1) := by decide +kernel
theorem d_Law_print_2 : decode b_Law_print 2 = .ok (.aload_n 0, 1) := by decide +kernel
theorem d_Law_print_3 : decode b_Law_print 3 = .ok (.iload_n 1, 1) := by decide +kernel
theorem d_Law_print_4 : decode b_Law_print 4 = .ok (.invokevirtual 46, 3) := by decide +kernel
theorem d_Law_print_7 : decode b_Law_print 7 = .ok (.i2l, 1) := by decide +kernel
theorem d_Law_print_8 : decode b_Law_print 8 = .ok (.lastore, 1) := by decide +kernel
theorem d_Law_print_9 : decode b_Law_print 9 = .ok (.goto 9, 3) := by decide +kernel
theorem d_Law_print_12 : decode b_Law_print 12 = .ok (.astore_n 3, 1) := by decide +kernel
theorem d_Law_print_13 : decode b_Law_print 13 = .ok (.iconst 1, 1) := by decide +kernel
theorem d_Law_print_14 : decode b_Law_print 14 = .ok (.ireturn, 1) := by decide +kernel
theorem d_Law_print_15 : decode b_Law_print 15 = .ok (.astore_n 3, 1) := by decide +kernel
theorem d_Law_print_16 : decode b_Law_print 16 = .ok (.iconst 2, 1) := by decide +kernel
theorem d_Law_print_17 : decode b_Law_print 17 = .ok (.ireturn, 1) := by decide +kernel
theorem d_Law_print_18 : decode b_Law_print 18 = .ok (.iconst 0, 1) := by decide +kernel
theorem d_Law_print_19 : decode b_Law_print 19 = .ok (.ireturn, 1) := by decide +kernel
def p_Law_print (n : Nat) (p0 : Int32) (x_marks : Int32) (x_place : Int32) (x_names_textsSize : Int32) (x_names_sizeBefore : Int32) (x_names_texts_n : Nat) (x_names_texts_f : Nat → Int32) (x_names_ends_size : Int32) (x_names_ends_items_n : Nat) (x_names_ends_items_f : Nat → Int32) (x_terms_nodes : Int32) (x_terms_variables : Int32) (x_terms_variablesLack : Int32) (x_terms_symbols : Int32) (x_terms_nodesBefore : Int32) (x_terms_partsBefore : Int32) (x_terms_variablesBefore : Int32) (x_terms_shapes_n : Nat) (x_terms_shapes_f : Nat → Int32) (x_terms_values_n : Nat) (x_terms_values_f : Nat → Int64) (x_terms_firstParts_n : Nat) (x_terms_firstParts_f : Nat → Int32) (x_terms_parts_size : Int32) (x_terms_parts_items_n : Nat) (x_terms_parts_items_f : Nat → Int32) (x_terms_became_n : Nat) (x_terms_became_f : Nat → Int32) (x_printer_numbered : Int32) (x_printer_result_size : Int32) (x_printer_result_items_n : Nat) (x_printer_result_items_f : Nat → Int32) (x_printer_draft_size : Int32) (x_printer_draft_items_n : Nat) (x_printer_draft_items_f : Nat → Int32) (x_printer_path_size : Int32) (x_printer_path_items_n : Nat) (x_printer_path_items_f : Nat → Int32) (x_printer_numbers_n : Nat) (x_printer_numbers_f : Nat → Int32) (x_registers_n : Nat) (x_registers_f : Nat → Int32) (out_n : Nat) (out_f : Nat → Int64) : Option ((Int32 × Int32 × Int32 × Nat × (Nat → Int32) × Int32 × Nat × (Nat → Int32) × Int32 × Nat × (Nat → Int32) × (Nat → Int32) × (Nat → Int64)) × Nat × Nat) := (p_UB_print n p0 x_marks x_place x_names_textsSize x_names_sizeBefore x_names_texts_n x_names_texts_f x_names_ends_size x_names_ends_items_n x_names_ends_items_f x_terms_nodes x_terms_variables x_terms_variablesLack x_terms_symbols x_terms_nodesBefore x_terms_partsBefore x_terms_variablesBefore x_terms_shapes_n x_terms_shapes_f x_terms_values_n x_terms_values_f x_terms_firstParts_n x_terms_firstParts_f x_terms_parts_size x_terms_parts_items_n x_terms_parts_items_f x_terms_became_n x_terms_became_f x_printer_numbered x_printer_result_size x_printer_result_items_n x_printer_result_items_f x_printer_draft_size x_printer_draft_items_n x_printer_draft_items_f x_printer_path_size x_printer_path_items_n x_printer_path_items_f x_printer_numbers_n x_printer_numbers_f x_registers_n x_registers_f).bind (fun ((xc1, r1, a_printer_numbered_1, a_printer_result_size_1, a_printer_result_items_n_1, a_printer_result_items_f_1, a_printer_draft_size_1, a_printer_draft_items_n_1, a_printer_draft_items_f_1, a_printer_path_size_1, a_printer_path_items_n_1, a_printer_path_items_f_1, a_printer_numbers_f_1), mk1, sk1) => al mk1 sk1 (if xc1 = 0 then (ck (ixb 0 out_n) (some (((0 : Int32), a_printer_numbered_1, a_printer_result_size_1, a_printer_result_items_n_1, a_printer_result_items_f_1, a_printer_draft_size_1, a_printer_draft_items_n_1, a_printer_draft_items_f_1, a_printer_path_size_1, a_printer_path_items_n_1, a_printer_path_items_f_1, a_printer_numbers_f_1, vp_updL out_f (0 : Int32).toNatClampNeg r1.toInt64), 0, 0))) else (if xc1 = 1 then (some (((1 : Int32), a_printer_numbered_1, a_printer_result_size_1, a_printer_result_items_n_1, a_printer_result_items_f_1, a_printer_draft_size_1, a_printer_draft_items_n_1, a_printer_draft_items_f_1, a_printer_path_size_1, a_printer_path_items_n_1, a_printer_path_items_f_1, a_printer_numbers_f_1, out_f), 0, 0)) else (if xc1 = 3 then (some (((2 : Int32), a_printer_numbered_1, a_printer_result_size_1, a_printer_result_items_n_1, a_printer_result_items_f_1, a_printer_draft_size_1, a_printer_draft_items_n_1, a_printer_draft_items_f_1, a_printer_path_size_1, a_printer_path_items_n_1, a_printer_path_items_f_1, a_printer_numbers_f_1, out_f), 0, 0)) else (none)))))
set_option maxHeartbeats 40000000 in
set_option maxRecDepth 100000 in
theorem c_Law_print (l : Launch) (g : va_G) (cs : Nat → ClassId) (ka : Nat → Nat) (hfl : l.flags = pinnedFlags ++ [noTraceFlag]) (x_tape : Nat) (x_reader : Nat) (x_unifier : Nat) (x_marked : Nat) (x_names_older : Nat) (x_names_newest : Nat) (x_terms_variableNames : Nat) (x x_names x_names_texts x_names_ends x_names_ends_items x_terms x_terms_shapes x_terms_values x_terms_firstParts x_terms_parts x_terms_parts_items x_terms_became x_printer x_printer_result x_printer_result_items x_printer_draft x_printer_draft_items x_printer_path x_printer_path_items x_printer_numbers x_registers out : Nat) (sz : Nat) (n : Nat) (p0 : Int32) (x_marks : Int32) (x_place : Int32) (x_names_textsSize : Int32) (x_names_sizeBefore : Int32) (x_names_texts_n : Nat) (x_names_texts_f : Nat → Int32) (x_names_ends_size : Int32) (x_names_ends_items_n : Nat) (x_names_ends_items_f : Nat → Int32) (x_terms_nodes : Int32) (x_terms_variables : Int32) (x_terms_variablesLack : Int32) (x_terms_symbols : Int32) (x_terms_nodesBefore : Int32) (x_terms_partsBefore : Int32) (x_terms_variablesBefore : Int32) (x_terms_shapes_n : Nat) (x_terms_shapes_f : Nat → Int32) (x_terms_values_n : Nat) (x_terms_values_f : Nat → Int64) (x_terms_firstParts_n : Nat) (x_terms_firstParts_f : Nat → Int32) (x_terms_parts_size : Int32) (x_terms_parts_items_n : Nat) (x_terms_parts_items_f : Nat → Int32) (x_terms_became_n : Nat) (x_terms_became_f : Nat → Int32) (x_printer_numbered : Int32) (x_printer_result_size : Int32) (x_printer_result_items_n : Nat) (x_printer_result_items_f : Nat → Int32) (x_printer_draft_size : Int32) (x_printer_draft_items_n : Nat) (x_printer_draft_items_f : Nat → Int32) (x_printer_path_size : Int32) (x_printer_path_items_n : Nat) (x_printer_path_items_f : Nat → Int32) (x_printer_numbers_n : Nat) (x_printer_numbers_f : Nat → Int32) (x_registers_n : Nat) (x_registers_f : Nat → Int32) (out_n : Nat) (out_f : Nat → Int64) (r : Int32) (o_x_printer_numbered : Int32) (o_x_printer_result_size : Int32) (o_x_printer_result_items_n : Nat) (o_x_printer_result_items_f : Nat → Int32) (o_x_printer_draft_size : Int32) (o_x_printer_draft_items_n : Nat) (o_x_printer_draft_items_f : Nat → Int32) (o_x_printer_path_size : Int32) (o_x_printer_path_items_n : Nat) (o_x_printer_path_items_f : Nat → Int32) (o_x_printer_numbers_f : Nat → Int32) (o_out_f : Nat → Int64) (mc ms : Nat) (hok : p_Law_print n p0 x_marks x_place x_names_textsSize x_names_sizeBefore x_names_texts_n x_names_texts_f x_names_ends_size x_names_ends_items_n x_names_ends_items_f x_terms_nodes x_terms_variables x_terms_variablesLack x_terms_symbols x_terms_nodesBefore x_terms_partsBefore x_terms_variablesBefore x_terms_shapes_n x_terms_shapes_f x_terms_values_n x_terms_values_f x_terms_firstParts_n x_terms_firstParts_f x_terms_parts_size x_terms_parts_items_n x_terms_parts_items_f x_terms_became_n x_terms_became_f x_printer_numbered x_printer_result_size x_printer_result_items_n x_printer_result_items_f x_printer_draft_size x_printer_draft_items_n x_printer_draft_items_f x_printer_path_size x_printer_path_items_n x_printer_path_items_f x_printer_numbers_n x_printer_numbers_f x_registers_n x_registers_f out_n out_f = some ((r, o_x_printer_numbered, o_x_printer_result_size, o_x_printer_result_items_n, o_x_printer_result_items_f, o_x_printer_draft_size, o_x_printer_draft_items_n, o_x_printer_draft_items_f, o_x_printer_path_size, o_x_printer_path_items_n, o_x_printer_path_items_f, o_x_printer_numbers_f, o_out_f), mc, ms)) : Met l y_Law_print (.codeWith y_Law_print b_Law_print 4 (some .int) [(0, 9, 12, 19), (0, 9, 15, 13)] :: GW) { frames := 11, cells := mc, slots := ms, locals := 280 } (va_Pc [.ref x, .int p0, .ref out] (gP g cs ka [(x, .inr (9, [.ref x_tape, .ref x_names, .ref x_terms, .ref x_reader, .ref x_unifier, .ref x_printer, .ref x_registers, .ref x_marked, .int x_marks, .int x_place])), (x_names, .inr (2, [.ref x_names_texts, .int x_names_textsSize, .ref x_names_ends, .ref x_names_older, .ref x_names_newest, .int x_names_sizeBefore])), (x_names_texts, .inl (cs 1, x_names_texts_n, .inl x_names_texts_f)), (x_names_ends, .inr (1, [.ref x_names_ends_items, .int x_names_ends_size])), (x_names_ends_items, .inl (cs 0, x_names_ends_items_n, .inl x_names_ends_items_f)), (x_terms, .inr (7, [.ref x_terms_shapes, .ref x_terms_values, .ref x_terms_firstParts, .int x_terms_nodes, .ref x_terms_parts, .ref x_terms_variableNames, .ref x_terms_became, .int x_terms_variables, .int x_terms_variablesLack, .int x_terms_symbols, .int x_terms_nodesBefore, .int x_terms_partsBefore, .int x_terms_variablesBefore])), (x_terms_shapes, .inl (cs 0, x_terms_shapes_n, .inl x_terms_shapes_f)), (x_terms_values, .inl (cs 2, x_terms_values_n, .inr (.inl x_terms_values_f))), (x_terms_firstParts, .inl (cs 0, x_terms_firstParts_n, .inl x_terms_firstParts_f)), (x_terms_parts, .inr (1, [.ref x_terms_parts_items, .int x_terms_parts_size])), (x_terms_parts_items, .inl (cs 0, x_terms_parts_items_n, .inl x_terms_parts_items_f)), (x_terms_became, .inl (cs 0, x_terms_became_n, .inl x_terms_became_f)), (x_printer, .inr (4, [.ref x_names, .ref x_terms, .ref x_printer_result, .ref x_printer_draft, .ref x_printer_path, .ref x_printer_numbers, .int x_printer_numbered])), (x_printer_result, .inr (0, [.ref x_printer_result_items, .int x_printer_result_size])), (x_printer_result_items, .inl (cs 1, x_printer_result_items_n, .inl x_printer_result_items_f)), (x_printer_draft, .inr (0, [.ref x_printer_draft_items, .int x_printer_draft_size])), (x_printer_draft_items, .inl (cs 1, x_printer_draft_items_n, .inl x_printer_draft_items_f)), (x_printer_path, .inr (1, [.ref x_printer_path_items, .int x_printer_path_size])), (x_printer_path_items, .inl (cs 0, x_printer_path_items_n, .inl x_printer_path_items_f)), (x_printer_numbers, .inl (cs 0, x_printer_numbers_n, .inl x_printer_numbers_f)), (x_registers, .inl (cs 0, x_registers_n, .inl x_registers_f)), (out, .inl (cs 2, out_n, .inr (.inl out_f)))] sz)) (va_Qi (fun (r' : Int32) (_ : Unit) => r = r') (fun _ t => ∃ b_x_printer_result b_x_printer_result_items b_x_printer_draft b_x_printer_draft_items b_x_printer_path_items : Nat, va_P g classes [(x, .inr (9, [.ref x_tape, .ref x_names, .ref x_terms, .ref x_reader, .ref x_unifier, .ref x_printer, .ref x_registers, .ref x_marked, .int x_marks, .int x_place])), (x_names, .inr (2, [.ref x_names_texts, .int x_names_textsSize, .ref x_names_ends, .ref x_names_older, .ref x_names_newest, .int x_names_sizeBefore])), (x_names_texts, .inl (cs 1, x_names_texts_n, .inl x_names_texts_f)), (x_names_ends, .inr (1, [.ref x_names_ends_items, .int x_names_ends_size])), (x_names_ends_items, .inl (cs 0, x_names_ends_items_n, .inl x_names_ends_items_f)), (x_terms, .inr (7, [.ref x_terms_shapes, .ref x_terms_values, .ref x_terms_firstParts, .int x_terms_nodes, .ref x_terms_parts, .ref x_terms_variableNames, .ref x_terms_became, .int x_terms_variables, .int x_terms_variablesLack, .int x_terms_symbols, .int x_terms_nodesBefore, .int x_terms_partsBefore, .int x_terms_variablesBefore])), (x_terms_shapes, .inl (cs 0, x_terms_shapes_n, .inl x_terms_shapes_f)), (x_terms_values, .inl (cs 2, x_terms_values_n, .inr (.inl x_terms_values_f))), (x_terms_firstParts, .inl (cs 0, x_terms_firstParts_n, .inl x_terms_firstParts_f)), (x_terms_parts, .inr (1, [.ref x_terms_parts_items, .int x_terms_parts_size])), (x_terms_parts_items, .inl (cs 0, x_terms_parts_items_n, .inl x_terms_parts_items_f)), (x_terms_became, .inl (cs 0, x_terms_became_n, .inl x_terms_became_f)), (x_printer, .inr (4, [.ref x_names, .ref x_terms, .ref b_x_printer_result, .ref b_x_printer_draft, .ref x_printer_path, .ref x_printer_numbers, .int o_x_printer_numbered])), (b_x_printer_result, .inr (0, [.ref b_x_printer_result_items, .int o_x_printer_result_size])), (b_x_printer_result_items, .inl (cs 1, o_x_printer_result_items_n, .inl o_x_printer_result_items_f)), (b_x_printer_draft, .inr (0, [.ref b_x_printer_draft_items, .int o_x_printer_draft_size])), (b_x_printer_draft_items, .inl (cs 1, o_x_printer_draft_items_n, .inl o_x_printer_draft_items_f)), (x_printer_path, .inr (1, [.ref b_x_printer_path_items, .int o_x_printer_path_size])), (b_x_printer_path_items, .inl (cs 0, o_x_printer_path_items_n, .inl o_x_printer_path_items_f)), (x_printer_numbers, .inl (cs 0, x_printer_numbers_n, .inl o_x_printer_numbers_f)), (x_registers, .inl (cs 0, x_registers_n, .inl x_registers_f)), (out, .inl (cs 2, out_n, .inr (.inl o_out_f)))] t.heap ∧ va_D (va_A [(x, .inr (9, [.ref x_tape, .ref x_names, .ref x_terms, .ref x_reader, .ref x_unifier, .ref x_printer, .ref x_registers, .ref x_marked, .int x_marks, .int x_place])), (x_names, .inr (2, [.ref x_names_texts, .int x_names_textsSize, .ref x_names_ends, .ref x_names_older, .ref x_names_newest, .int x_names_sizeBefore])), (x_names_texts, .inl (cs 1, x_names_texts_n, .inl x_names_texts_f)), (x_names_ends, .inr (1, [.ref x_names_ends_items, .int x_names_ends_size])), (x_names_ends_items, .inl (cs 0, x_names_ends_items_n, .inl x_names_ends_items_f)), (x_terms, .inr (7, [.ref x_terms_shapes, .ref x_terms_values, .ref x_terms_firstParts, .int x_terms_nodes, .ref x_terms_parts, .ref x_terms_variableNames, .ref x_terms_became, .int x_terms_variables, .int x_terms_variablesLack, .int x_terms_symbols, .int x_terms_nodesBefore, .int x_terms_partsBefore, .int x_terms_variablesBefore])), (x_terms_shapes, .inl (cs 0, x_terms_shapes_n, .inl x_terms_shapes_f)), (x_terms_values, .inl (cs 2, x_terms_values_n, .inr (.inl x_terms_values_f))), (x_terms_firstParts, .inl (cs 0, x_terms_firstParts_n, .inl x_terms_firstParts_f)), (x_terms_parts, .inr (1, [.ref x_terms_parts_items, .int x_terms_parts_size])), (x_terms_parts_items, .inl (cs 0, x_terms_parts_items_n, .inl x_terms_parts_items_f)), (x_terms_became, .inl (cs 0, x_terms_became_n, .inl x_terms_became_f)), (x_printer, .inr (4, [.ref x_names, .ref x_terms, .ref x_printer_result, .ref x_printer_draft, .ref x_printer_path, .ref x_printer_numbers, .int x_printer_numbered])), (x_printer_result, .inr (0, [.ref x_printer_result_items, .int x_printer_result_size])), (x_printer_result_items, .inl (cs 1, x_printer_result_items_n, .inl x_printer_result_items_f)), (x_printer_draft, .inr (0, [.ref x_printer_draft_items, .int x_printer_draft_size])), (x_printer_draft_items, .inl (cs 1, x_printer_draft_items_n, .inl x_printer_draft_items_f)), (x_printer_path, .inr (1, [.ref x_printer_path_items, .int x_printer_path_size])), (x_printer_path_items, .inl (cs 0, x_printer_path_items_n, .inl x_printer_path_items_f)), (x_printer_numbers, .inl (cs 0, x_printer_numbers_n, .inl x_printer_numbers_f)), (x_registers, .inl (cs 0, x_registers_n, .inl x_registers_f)), (out, .inl (cs 2, out_n, .inr (.inl out_f)))] sz) [(x, .inr (9, [.ref x_tape, .ref x_names, .ref x_terms, .ref x_reader, .ref x_unifier, .ref x_printer, .ref x_registers, .ref x_marked, .int x_marks, .int x_place])), (x_names, .inr (2, [.ref x_names_texts, .int x_names_textsSize, .ref x_names_ends, .ref x_names_older, .ref x_names_newest, .int x_names_sizeBefore])), (x_names_texts, .inl (cs 1, x_names_texts_n, .inl x_names_texts_f)), (x_names_ends, .inr (1, [.ref x_names_ends_items, .int x_names_ends_size])), (x_names_ends_items, .inl (cs 0, x_names_ends_items_n, .inl x_names_ends_items_f)), (x_terms, .inr (7, [.ref x_terms_shapes, .ref x_terms_values, .ref x_terms_firstParts, .int x_terms_nodes, .ref x_terms_parts, .ref x_terms_variableNames, .ref x_terms_became, .int x_terms_variables, .int x_terms_variablesLack, .int x_terms_symbols, .int x_terms_nodesBefore, .int x_terms_partsBefore, .int x_terms_variablesBefore])), (x_terms_shapes, .inl (cs 0, x_terms_shapes_n, .inl x_terms_shapes_f)), (x_terms_values, .inl (cs 2, x_terms_values_n, .inr (.inl x_terms_values_f))), (x_terms_firstParts, .inl (cs 0, x_terms_firstParts_n, .inl x_terms_firstParts_f)), (x_terms_parts, .inr (1, [.ref x_terms_parts_items, .int x_terms_parts_size])), (x_terms_parts_items, .inl (cs 0, x_terms_parts_items_n, .inl x_terms_parts_items_f)), (x_terms_became, .inl (cs 0, x_terms_became_n, .inl x_terms_became_f)), (x_printer, .inr (4, [.ref x_names, .ref x_terms, .ref b_x_printer_result, .ref b_x_printer_draft, .ref x_printer_path, .ref x_printer_numbers, .int o_x_printer_numbered])), (b_x_printer_result, .inr (0, [.ref b_x_printer_result_items, .int o_x_printer_result_size])), (b_x_printer_result_items, .inl (cs 1, o_x_printer_result_items_n, .inl o_x_printer_result_items_f)), (b_x_printer_draft, .inr (0, [.ref b_x_printer_draft_items, .int o_x_printer_draft_size])), (b_x_printer_draft_items, .inl (cs 1, o_x_printer_draft_items_n, .inl o_x_printer_draft_items_f)), (x_printer_path, .inr (1, [.ref b_x_printer_path_items, .int o_x_printer_path_size])), (b_x_printer_path_items, .inl (cs 0, o_x_printer_path_items_n, .inl o_x_printer_path_items_f)), (x_printer_numbers, .inl (cs 0, x_printer_numbers_n, .inl o_x_printer_numbers_f)), (x_registers, .inl (cs 0, x_registers_n, .inl x_registers_f)), (out, .inl (cs 2, out_n, .inr (.inl o_out_f)))]) (va_A [(x, .inr (9, [.ref x_tape, .ref x_names, .ref x_terms, .ref x_reader, .ref x_unifier, .ref x_printer, .ref x_registers, .ref x_marked, .int x_marks, .int x_place])), (x_names, .inr (2, [.ref x_names_texts, .int x_names_textsSize, .ref x_names_ends, .ref x_names_older, .ref x_names_newest, .int x_names_sizeBefore])), (x_names_texts, .inl (cs 1, x_names_texts_n, .inl x_names_texts_f)), (x_names_ends, .inr (1, [.ref x_names_ends_items, .int x_names_ends_size])), (x_names_ends_items, .inl (cs 0, x_names_ends_items_n, .inl x_names_ends_items_f)), (x_terms, .inr (7, [.ref x_terms_shapes, .ref x_terms_values, .ref x_terms_firstParts, .int x_terms_nodes, .ref x_terms_parts, .ref x_terms_variableNames, .ref x_terms_became, .int x_terms_variables, .int x_terms_variablesLack, .int x_terms_symbols, .int x_terms_nodesBefore, .int x_terms_partsBefore, .int x_terms_variablesBefore])), (x_terms_shapes, .inl (cs 0, x_terms_shapes_n, .inl x_terms_shapes_f)), (x_terms_values, .inl (cs 2, x_terms_values_n, .inr (.inl x_terms_values_f))), (x_terms_firstParts, .inl (cs 0, x_terms_firstParts_n, .inl x_terms_firstParts_f)), (x_terms_parts, .inr (1, [.ref x_terms_parts_items, .int x_terms_parts_size])), (x_terms_parts_items, .inl (cs 0, x_terms_parts_items_n, .inl x_terms_parts_items_f)), (x_terms_became, .inl (cs 0, x_terms_became_n, .inl x_terms_became_f)), (x_printer, .inr (4, [.ref x_names, .ref x_terms, .ref x_printer_result, .ref x_printer_draft, .ref x_printer_path, .ref x_printer_numbers, .int x_printer_numbered])), (x_printer_result, .inr (0, [.ref x_printer_result_items, .int x_printer_result_size])), (x_printer_result_items, .inl (cs 1, x_printer_result_items_n, .inl x_printer_result_items_f)), (x_printer_draft, .inr (0, [.ref x_printer_draft_items, .int x_printer_draft_size])), (x_printer_draft_items, .inl (cs 1, x_printer_draft_items_n, .inl x_printer_draft_items_f)), (x_printer_path, .inr (1, [.ref x_printer_path_items, .int x_printer_path_size])), (x_printer_path_items, .inl (cs 0, x_printer_path_items_n, .inl x_printer_path_items_f)), (x_printer_numbers, .inl (cs 0, x_printer_numbers_n, .inl x_printer_numbers_f)), (x_registers, .inl (cs 0, x_registers_n, .inl x_registers_f)), (out, .inl (cs 2, out_n, .inr (.inl out_f)))] sz)) mc ms (va_A [(x, .inr (9, [.ref x_tape, .ref x_names, .ref x_terms, .ref x_reader, .ref x_unifier, .ref x_printer, .ref x_registers, .ref x_marked, .int x_marks, .int x_place])), (x_names, .inr (2, [.ref x_names_texts, .int x_names_textsSize, .ref x_names_ends, .ref x_names_older, .ref x_names_newest, .int x_names_sizeBefore])), (x_names_texts, .inl (cs 1, x_names_texts_n, .inl x_names_texts_f)), (x_names_ends, .inr (1, [.ref x_names_ends_items, .int x_names_ends_size])), (x_names_ends_items, .inl (cs 0, x_names_ends_items_n, .inl x_names_ends_items_f)), (x_terms, .inr (7, [.ref x_terms_shapes, .ref x_terms_values, .ref x_terms_firstParts, .int x_terms_nodes, .ref x_terms_parts, .ref x_terms_variableNames, .ref x_terms_became, .int x_terms_variables, .int x_terms_variablesLack, .int x_terms_symbols, .int x_terms_nodesBefore, .int x_terms_partsBefore, .int x_terms_variablesBefore])), (x_terms_shapes, .inl (cs 0, x_terms_shapes_n, .inl x_terms_shapes_f)), (x_terms_values, .inl (cs 2, x_terms_values_n, .inr (.inl x_terms_values_f))), (x_terms_firstParts, .inl (cs 0, x_terms_firstParts_n, .inl x_terms_firstParts_f)), (x_terms_parts, .inr (1, [.ref x_terms_parts_items, .int x_terms_parts_size])), (x_terms_parts_items, .inl (cs 0, x_terms_parts_items_n, .inl x_terms_parts_items_f)), (x_terms_became, .inl (cs 0, x_terms_became_n, .inl x_terms_became_f)), (x_printer, .inr (4, [.ref x_names, .ref x_terms, .ref x_printer_result, .ref x_printer_draft, .ref x_printer_path, .ref x_printer_numbers, .int x_printer_numbered])), (x_printer_result, .inr (0, [.ref x_printer_result_items, .int x_printer_result_size])), (x_printer_result_items, .inl (cs 1, x_printer_result_items_n, .inl x_printer_result_items_f)), (x_printer_draft, .inr (0, [.ref x_printer_draft_items, .int x_printer_draft_size])), (x_printer_draft_items, .inl (cs 1, x_printer_draft_items_n, .inl x_printer_draft_items_f)), (x_printer_path, .inr (1, [.ref x_printer_path_items, .int x_printer_path_size])), (x_printer_path_items, .inl (cs 0, x_printer_path_items_n, .inl x_printer_path_items_f)), (x_printer_numbers, .inl (cs 0, x_printer_numbers_n, .inl x_printer_numbers_f)), (x_registers, .inl (cs 0, x_registers_n, .inl x_registers_f)), (out, .inl (cs 2, out_n, .inr (.inl out_f)))] sz) := by
  refine va_MetW (cc := b_Law_print) (maxL := 4) (ret := (some .int)) (by decide) rfl ?_
  intro p e s m args below meth c s₁ B hml hv
  obtain ⟨rfl, hsz, hP, hK, hD0, hgl, hkn, hkr⟩ := hv
  have hx := B.exec
  have hb := B.bytes
  have hr := B.returns
  have hg : ∀ w ∈ GW, w.before ([.ref x, .int p0, .ref out] : List Value).toArray s = true := fun w hw => atoms_spec (ws := .codeWith y_Law_print b_Law_print 4 (some .int) [(0, 9, 12, 19), (0, 9, 15, 13)] :: GW) B.pre w (List.mem_cons_of_mem _ hw)
  have hown : s.vm.findClass R_Law = some m.cls := findClass_of_methodNamed B.named
  have hlocks := B.notSynchronized
  have hcd : (Cond.codeWith y_Law_print b_Law_print 4 (some .int) [(0, 9, 12, 19), (0, 9, 15, 13)]).before ([.ref x, .int p0, .ref out] : List Value).toArray s = true := atoms_spec (ws := .codeWith y_Law_print b_Law_print 4 (some .int) [(0, 9, 12, 19), (0, 9, 15, 13)] :: GW) B.pre _ List.mem_cons_self
  have hE := cw_hand B hcd
  subst hsz
  have hD := hD0.self (sz := s.heap.size)
  generalize hAe : va_A [(x, .inr (9, [.ref x_tape, .ref x_names, .ref x_terms, .ref x_reader, .ref x_unifier, .ref x_printer, .ref x_registers, .ref x_marked, .int x_marks, .int x_place])), (x_names, .inr (2, [.ref x_names_texts, .int x_names_textsSize, .ref x_names_ends, .ref x_names_older, .ref x_names_newest, .int x_names_sizeBefore])), (x_names_texts, .inl (cs 1, x_names_texts_n, .inl x_names_texts_f)), (x_names_ends, .inr (1, [.ref x_names_ends_items, .int x_names_ends_size])), (x_names_ends_items, .inl (cs 0, x_names_ends_items_n, .inl x_names_ends_items_f)), (x_terms, .inr (7, [.ref x_terms_shapes, .ref x_terms_values, .ref x_terms_firstParts, .int x_terms_nodes, .ref x_terms_parts, .ref x_terms_variableNames, .ref x_terms_became, .int x_terms_variables, .int x_terms_variablesLack, .int x_terms_symbols, .int x_terms_nodesBefore, .int x_terms_partsBefore, .int x_terms_variablesBefore])), (x_terms_shapes, .inl (cs 0, x_terms_shapes_n, .inl x_terms_shapes_f)), (x_terms_values, .inl (cs 2, x_terms_values_n, .inr (.inl x_terms_values_f))), (x_terms_firstParts, .inl (cs 0, x_terms_firstParts_n, .inl x_terms_firstParts_f)), (x_terms_parts, .inr (1, [.ref x_terms_parts_items, .int x_terms_parts_size])), (x_terms_parts_items, .inl (cs 0, x_terms_parts_items_n, .inl x_terms_parts_items_f)), (x_terms_became, .inl (cs 0, x_terms_became_n, .inl x_terms_became_f)), (x_printer, .inr (4, [.ref x_names, .ref x_terms, .ref x_printer_result, .ref x_printer_draft, .ref x_printer_path, .ref x_printer_numbers, .int x_printer_numbered])), (x_printer_result, .inr (0, [.ref x_printer_result_items, .int x_printer_result_size])), (x_printer_result_items, .inl (cs 1, x_printer_result_items_n, .inl x_printer_result_items_f)), (x_printer_draft, .inr (0, [.ref x_printer_draft_items, .int x_printer_draft_size])), (x_printer_draft_items, .inl (cs 1, x_printer_draft_items_n, .inl x_printer_draft_items_f)), (x_printer_path, .inr (1, [.ref x_printer_path_items, .int x_printer_path_size])), (x_printer_path_items, .inl (cs 0, x_printer_path_items_n, .inl x_printer_path_items_f)), (x_printer_numbers, .inl (cs 0, x_printer_numbers_n, .inl x_printer_numbers_f)), (x_registers, .inl (cs 0, x_registers_n, .inl x_registers_f)), (out, .inl (cs 2, out_n, .inr (.inl out_f)))] s.heap.size = A at hD hkn ⊢
  have hA : ∀ q : Nat, s.heap.size ≤ q → A q := fun q h => by rw [← hAe]; exact Or.inr h
  have hS : va_S A s.heap s.heap [] := va_S.rf
  have hP : va_P g classes [(x, .inr (9, [.ref x_tape, .ref x_names, .ref x_terms, .ref x_reader, .ref x_unifier, .ref x_printer, .ref x_registers, .ref x_marked, .int x_marks, .int x_place])), (x_names, .inr (2, [.ref x_names_texts, .int x_names_textsSize, .ref x_names_ends, .ref x_names_older, .ref x_names_newest, .int x_names_sizeBefore])), (x_names_texts, .inl (cs 1, x_names_texts_n, .inl x_names_texts_f)), (x_names_ends, .inr (1, [.ref x_names_ends_items, .int x_names_ends_size])), (x_names_ends_items, .inl (cs 0, x_names_ends_items_n, .inl x_names_ends_items_f)), (x_terms, .inr (7, [.ref x_terms_shapes, .ref x_terms_values, .ref x_terms_firstParts, .int x_terms_nodes, .ref x_terms_parts, .ref x_terms_variableNames, .ref x_terms_became, .int x_terms_variables, .int x_terms_variablesLack, .int x_terms_symbols, .int x_terms_nodesBefore, .int x_terms_partsBefore, .int x_terms_variablesBefore])), (x_terms_shapes, .inl (cs 0, x_terms_shapes_n, .inl x_terms_shapes_f)), (x_terms_values, .inl (cs 2, x_terms_values_n, .inr (.inl x_terms_values_f))), (x_terms_firstParts, .inl (cs 0, x_terms_firstParts_n, .inl x_terms_firstParts_f)), (x_terms_parts, .inr (1, [.ref x_terms_parts_items, .int x_terms_parts_size])), (x_terms_parts_items, .inl (cs 0, x_terms_parts_items_n, .inl x_terms_parts_items_f)), (x_terms_became, .inl (cs 0, x_terms_became_n, .inl x_terms_became_f)), (x_printer, .inr (4, [.ref x_names, .ref x_terms, .ref x_printer_result, .ref x_printer_draft, .ref x_printer_path, .ref x_printer_numbers, .int x_printer_numbered])), (x_printer_result, .inr (0, [.ref x_printer_result_items, .int x_printer_result_size])), (x_printer_result_items, .inl (cs 1, x_printer_result_items_n, .inl x_printer_result_items_f)), (x_printer_draft, .inr (0, [.ref x_printer_draft_items, .int x_printer_draft_size])), (x_printer_draft_items, .inl (cs 1, x_printer_draft_items_n, .inl x_printer_draft_items_f)), (x_printer_path, .inr (1, [.ref x_printer_path_items, .int x_printer_path_size])), (x_printer_path_items, .inl (cs 0, x_printer_path_items_n, .inl x_printer_path_items_f)), (x_printer_numbers, .inl (cs 0, x_printer_numbers_n, .inl x_printer_numbers_f)), (x_registers, .inl (cs 0, x_registers_n, .inl x_registers_f)), (out, .inl (cs 2, out_n, .inr (.inl out_f)))] s.heap := hP
  have hl := lv_entry ([.ref x, .int p0, .ref out]) (n := 4) (Nat.le_of_ble_eq_true rfl)
  rw [lg_entry_eq]
  generalize (lg_sl ([.ref x, .int p0, .ref out]) ++ List.replicate (4 - (lg_sl ([.ref x, .int p0, .ref out])).length) Slot.unset).toArray = ls at hl ⊢
  have hl : lv_has ls 4 [(0, .ref x), (1, .int p0), (2, .ref out)] := hl
  refine gq (fun Q hQ => ?_)
  obtain ⟨H, hH⟩ : ∃ H : Heap, H = s.heap := ⟨_, rfl⟩
  rw [← hH] at hP
  have hS : va_S A s.heap H [] := by rw [hH]; exact hS
  refine W.eqH hH ?_
  obtain ⟨locs, hlc⟩ : ∃ L : List Loc, L = [] := ⟨_, rfl⟩
  rw [← hlc] at hS ⊢
  unfold p_Law_print at hok
  refine lv_aload_n hx hb d_Law_print_0 rfl (lv_at hl 2 rfl) ?_
  refine lv_iconst (v := 0) hx hb d_Law_print_1 (by decide) ?_
  refine lv_aload_n hx hb d_Law_print_2 rfl (lv_at hl 0 rfl) ?_
  refine lv_iload_n hx hb d_Law_print_3 rfl (lv_at hl 1 rfl) ?_
  obtain ⟨⟨⟨xc1, r1, a_printer_numbered_1, a_printer_result_size_1, a_printer_result_items_n_1, a_printer_result_items_f_1, a_printer_draft_size_1, a_printer_draft_items_n_1, a_printer_draft_items_f_1, a_printer_path_size_1, a_printer_path_items_n_1, a_printer_path_items_f_1, a_printer_numbers_f_1⟩, mk1, sk1⟩, hc1, hok⟩ := bd_some hok
  dsimp only at hok
  obtain ⟨m1, s1, hok, hmc1, hms1⟩ := al_some hok
  obtain ⟨hPc, hDc, hFc⟩ := cut0 (wc := [(x, .inr (9, [.ref x_tape, .ref x_names, .ref x_terms, .ref x_reader, .ref x_unifier, .ref x_printer, .ref x_registers, .ref x_marked, .int x_marks, .int x_place])), (x_names, .inr (2, [.ref x_names_texts, .int x_names_textsSize, .ref x_names_ends, .ref x_names_older, .ref x_names_newest, .int x_names_sizeBefore])), (x_names_texts, .inl (cs 1, x_names_texts_n, .inl x_names_texts_f)), (x_names_ends, .inr (1, [.ref x_names_ends_items, .int x_names_ends_size])), (x_names_ends_items, .inl (cs 0, x_names_ends_items_n, .inl x_names_ends_items_f)), (x_terms, .inr (7, [.ref x_terms_shapes, .ref x_terms_values, .ref x_terms_firstParts, .int x_terms_nodes, .ref x_terms_parts, .ref x_terms_variableNames, .ref x_terms_became, .int x_terms_variables, .int x_terms_variablesLack, .int x_terms_symbols, .int x_terms_nodesBefore, .int x_terms_partsBefore, .int x_terms_variablesBefore])), (x_terms_shapes, .inl (cs 0, x_terms_shapes_n, .inl x_terms_shapes_f)), (x_terms_values, .inl (cs 2, x_terms_values_n, .inr (.inl x_terms_values_f))), (x_terms_firstParts, .inl (cs 0, x_terms_firstParts_n, .inl x_terms_firstParts_f)), (x_terms_parts, .inr (1, [.ref x_terms_parts_items, .int x_terms_parts_size])), (x_terms_parts_items, .inl (cs 0, x_terms_parts_items_n, .inl x_terms_parts_items_f)), (x_terms_became, .inl (cs 0, x_terms_became_n, .inl x_terms_became_f)), (x_printer, .inr (4, [.ref x_names, .ref x_terms, .ref x_printer_result, .ref x_printer_draft, .ref x_printer_path, .ref x_printer_numbers, .int x_printer_numbered])), (x_printer_result, .inr (0, [.ref x_printer_result_items, .int x_printer_result_size])), (x_printer_result_items, .inl (cs 1, x_printer_result_items_n, .inl x_printer_result_items_f)), (x_printer_draft, .inr (0, [.ref x_printer_draft_items, .int x_printer_draft_size])), (x_printer_draft_items, .inl (cs 1, x_printer_draft_items_n, .inl x_printer_draft_items_f)), (x_printer_path, .inr (1, [.ref x_printer_path_items, .int x_printer_path_size])), (x_printer_path_items, .inl (cs 0, x_printer_path_items_n, .inl x_printer_path_items_f)), (x_printer_numbers, .inl (cs 0, x_printer_numbers_n, .inl x_printer_numbers_f)), (x_registers, .inl (cs 0, x_registers_n, .inl x_registers_f))]) hP hD hS hA [0, 1, 2, 3, 4, 5, 6, 7, 8, 9, 10, 11, 12, 13, 14, 15, 16, 17, 18, 19, 20] (by decide) rfl
  refine cw_call (A1 := va_A [(x, .inr (9, [.ref x_tape, .ref x_names, .ref x_terms, .ref x_reader, .ref x_unifier, .ref x_printer, .ref x_registers, .ref x_marked, .int x_marks, .int x_place])), (x_names, .inr (2, [.ref x_names_texts, .int x_names_textsSize, .ref x_names_ends, .ref x_names_older, .ref x_names_newest, .int x_names_sizeBefore])), (x_names_texts, .inl (cs 1, x_names_texts_n, .inl x_names_texts_f)), (x_names_ends, .inr (1, [.ref x_names_ends_items, .int x_names_ends_size])), (x_names_ends_items, .inl (cs 0, x_names_ends_items_n, .inl x_names_ends_items_f)), (x_terms, .inr (7, [.ref x_terms_shapes, .ref x_terms_values, .ref x_terms_firstParts, .int x_terms_nodes, .ref x_terms_parts, .ref x_terms_variableNames, .ref x_terms_became, .int x_terms_variables, .int x_terms_variablesLack, .int x_terms_symbols, .int x_terms_nodesBefore, .int x_terms_partsBefore, .int x_terms_variablesBefore])), (x_terms_shapes, .inl (cs 0, x_terms_shapes_n, .inl x_terms_shapes_f)), (x_terms_values, .inl (cs 2, x_terms_values_n, .inr (.inl x_terms_values_f))), (x_terms_firstParts, .inl (cs 0, x_terms_firstParts_n, .inl x_terms_firstParts_f)), (x_terms_parts, .inr (1, [.ref x_terms_parts_items, .int x_terms_parts_size])), (x_terms_parts_items, .inl (cs 0, x_terms_parts_items_n, .inl x_terms_parts_items_f)), (x_terms_became, .inl (cs 0, x_terms_became_n, .inl x_terms_became_f)), (x_printer, .inr (4, [.ref x_names, .ref x_terms, .ref x_printer_result, .ref x_printer_draft, .ref x_printer_path, .ref x_printer_numbers, .int x_printer_numbered])), (x_printer_result, .inr (0, [.ref x_printer_result_items, .int x_printer_result_size])), (x_printer_result_items, .inl (cs 1, x_printer_result_items_n, .inl x_printer_result_items_f)), (x_printer_draft, .inr (0, [.ref x_printer_draft_items, .int x_printer_draft_size])), (x_printer_draft_items, .inl (cs 1, x_printer_draft_items_n, .inl x_printer_draft_items_f)), (x_printer_path, .inr (1, [.ref x_printer_path_items, .int x_printer_path_size])), (x_printer_path_items, .inl (cs 0, x_printer_path_items_n, .inl x_printer_path_items_f)), (x_printer_numbers, .inl (cs 0, x_printer_numbers_n, .inl x_printer_numbers_f)), (x_registers, .inl (cs 0, x_registers_n, .inl x_registers_f))] H.size) (tx_runV (As := [.int p0]) (rest := [.int 0, .ref out]) ⟨hx, hb, hml, hown, hg⟩ (c_UB_print l g cs ka hfl x_tape x_reader x_unifier x_marked x_names_older x_names_newest x_terms_variableNames x x_names x_names_texts x_names_ends x_names_ends_items x_terms x_terms_shapes x_terms_values x_terms_firstParts x_terms_parts x_terms_parts_items x_terms_became x_printer x_printer_result x_printer_result_items x_printer_draft x_printer_draft_items x_printer_path x_printer_path_items x_printer_numbers x_registers H.size n p0 x_marks x_place x_names_textsSize x_names_sizeBefore x_names_texts_n x_names_texts_f x_names_ends_size x_names_ends_items_n x_names_ends_items_f x_terms_nodes x_terms_variables x_terms_variablesLack x_terms_symbols x_terms_nodesBefore x_terms_partsBefore x_terms_variablesBefore x_terms_shapes_n x_terms_shapes_f x_terms_values_n x_terms_values_f x_terms_firstParts_n x_terms_firstParts_f x_terms_parts_size x_terms_parts_items_n x_terms_parts_items_f x_terms_became_n x_terms_became_f x_printer_numbered x_printer_result_size x_printer_result_items_n x_printer_result_items_f x_printer_draft_size x_printer_draft_items_n x_printer_draft_items_f x_printer_path_size x_printer_path_items_n x_printer_path_items_f x_printer_numbers_n x_printer_numbers_f x_registers_n x_registers_f xc1 r1 a_printer_numbered_1 a_printer_result_size_1 a_printer_result_items_n_1 a_printer_result_items_f_1 a_printer_draft_size_1 a_printer_draft_items_n_1 a_printer_draft_items_f_1 a_printer_path_size_1 a_printer_path_items_n_1 a_printer_path_items_f_1 a_printer_numbers_f_1 mk1 sk1 hc1) (cwV (C := R_UB) 1 hg (gw_V wd_1156 wd_1157 wd_1158 wd_632 wd_1155) rfl rfl rfl (by decide +kernel) ⟨Nat.le_of_ble_eq_true rfl, Nat.le_of_ble_eq_true rfl⟩) ⟨gP_blind, va_recv (q0 := 0) (ci := 9) (q := (R_UB, F_UB, 10)) hK hP rfl rfl, gP_pre hPc hDc hK hgl hkn hkr hS hFc⟩ rfl rfl hl.1 rfl (lv_room (Nat.le_of_ble_eq_true rfl)) d_Law_print_4 ⟨show 0 + mk1 ≤ mc from by omega, show 0 + sk1 ≤ ms from by omega⟩) hS (fun st o t h0 hq => hq.2) (fun q _ h => hFc q h) hFc (fun v1 st₀ t H locs h0 ht hW hB hz1 hk1 hS => ?_) (fun x1 st₀ t H locs h0 ht hW hB hz1 hk1 hS => ?_)
  · obtain ⟨⟨hO, hB⟩, -⟩ := hB
    obtain ⟨hx1, hv1⟩ := hO.ret
    subst hv1
    rw [if_pos hx1] at hok
    rw [ht] at hB
    obtain ⟨a_printer_result_1, a_printer_result_items_1, a_printer_draft_1, a_printer_draft_items_1, a_printer_path_items_1, hP1, hD1⟩ := hB
    obtain ⟨hP, hD⟩ := jn_A hP hD [0, 1, 2, 3, 4, 5, 6, 7, 8, 9, 10, 11, 12, 13, 14, 15, 16, 17, 18, 19, 20] [21] rfl rfl (by decide) (by decide) hk1 hFc hP1 hD1
    obtain ⟨hP, hD⟩ : PD g A H [(out, .inl (cs 2, out_n, .inr (.inl out_f))), (x, .inr (9, [.ref x_tape, .ref x_names, .ref x_terms, .ref x_reader, .ref x_unifier, .ref x_printer, .ref x_registers, .ref x_marked, .int x_marks, .int x_place])), (x_names, .inr (2, [.ref x_names_texts, .int x_names_textsSize, .ref x_names_ends, .ref x_names_older, .ref x_names_newest, .int x_names_sizeBefore])), (x_names_texts, .inl (cs 1, x_names_texts_n, .inl x_names_texts_f)), (x_names_ends, .inr (1, [.ref x_names_ends_items, .int x_names_ends_size])), (x_names_ends_items, .inl (cs 0, x_names_ends_items_n, .inl x_names_ends_items_f)), (x_terms, .inr (7, [.ref x_terms_shapes, .ref x_terms_values, .ref x_terms_firstParts, .int x_terms_nodes, .ref x_terms_parts, .ref x_terms_variableNames, .ref x_terms_became, .int x_terms_variables, .int x_terms_variablesLack, .int x_terms_symbols, .int x_terms_nodesBefore, .int x_terms_partsBefore, .int x_terms_variablesBefore])), (x_terms_shapes, .inl (cs 0, x_terms_shapes_n, .inl x_terms_shapes_f)), (x_terms_values, .inl (cs 2, x_terms_values_n, .inr (.inl x_terms_values_f))), (x_terms_firstParts, .inl (cs 0, x_terms_firstParts_n, .inl x_terms_firstParts_f)), (x_terms_parts, .inr (1, [.ref x_terms_parts_items, .int x_terms_parts_size])), (x_terms_parts_items, .inl (cs 0, x_terms_parts_items_n, .inl x_terms_parts_items_f)), (x_terms_became, .inl (cs 0, x_terms_became_n, .inl x_terms_became_f)), (x_printer, .inr (4, [.ref x_names, .ref x_terms, .ref a_printer_result_1, .ref a_printer_draft_1, .ref x_printer_path, .ref x_printer_numbers, .int a_printer_numbered_1])), (a_printer_result_1, .inr (0, [.ref a_printer_result_items_1, .int a_printer_result_size_1])), (a_printer_result_items_1, .inl (cs 1, a_printer_result_items_n_1, .inl a_printer_result_items_f_1)), (a_printer_draft_1, .inr (0, [.ref a_printer_draft_items_1, .int a_printer_draft_size_1])), (a_printer_draft_items_1, .inl (cs 1, a_printer_draft_items_n_1, .inl a_printer_draft_items_f_1)), (x_printer_path, .inr (1, [.ref a_printer_path_items_1, .int a_printer_path_size_1])), (a_printer_path_items_1, .inl (cs 0, a_printer_path_items_n_1, .inl a_printer_path_items_f_1)), (x_printer_numbers, .inl (cs 0, x_printer_numbers_n, .inl a_printer_numbers_f_1)), (x_registers, .inl (cs 0, x_registers_n, .inl x_registers_f))] := ⟨hP, hD⟩
    refine W.eq (g2 := F0 m 7 ls [.int r1, .int 0, .ref out]) rfl ?_
    refine lv_i2l hx hb d_Law_print_7 rfl ?_
    obtain ⟨hi2, hok⟩ := ck_some hok
    refine va_last hx hb hK hP hD hS 0 2 rfl rfl (ixb_in hi2) d_Law_print_8 (fun H locs hP hD hS => ?_)
    obtain ⟨hP, hD⟩ : PD g A H [(out, .inl (cs 2, out_n, .inr (.inl (vp_updL out_f (0 : Int32).toNatClampNeg r1.toInt64)))), (x, .inr (9, [.ref x_tape, .ref x_names, .ref x_terms, .ref x_reader, .ref x_unifier, .ref x_printer, .ref x_registers, .ref x_marked, .int x_marks, .int x_place])), (x_names, .inr (2, [.ref x_names_texts, .int x_names_textsSize, .ref x_names_ends, .ref x_names_older, .ref x_names_newest, .int x_names_sizeBefore])), (x_names_texts, .inl (cs 1, x_names_texts_n, .inl x_names_texts_f)), (x_names_ends, .inr (1, [.ref x_names_ends_items, .int x_names_ends_size])), (x_names_ends_items, .inl (cs 0, x_names_ends_items_n, .inl x_names_ends_items_f)), (x_terms, .inr (7, [.ref x_terms_shapes, .ref x_terms_values, .ref x_terms_firstParts, .int x_terms_nodes, .ref x_terms_parts, .ref x_terms_variableNames, .ref x_terms_became, .int x_terms_variables, .int x_terms_variablesLack, .int x_terms_symbols, .int x_terms_nodesBefore, .int x_terms_partsBefore, .int x_terms_variablesBefore])), (x_terms_shapes, .inl (cs 0, x_terms_shapes_n, .inl x_terms_shapes_f)), (x_terms_values, .inl (cs 2, x_terms_values_n, .inr (.inl x_terms_values_f))), (x_terms_firstParts, .inl (cs 0, x_terms_firstParts_n, .inl x_terms_firstParts_f)), (x_terms_parts, .inr (1, [.ref x_terms_parts_items, .int x_terms_parts_size])), (x_terms_parts_items, .inl (cs 0, x_terms_parts_items_n, .inl x_terms_parts_items_f)), (x_terms_became, .inl (cs 0, x_terms_became_n, .inl x_terms_became_f)), (x_printer, .inr (4, [.ref x_names, .ref x_terms, .ref a_printer_result_1, .ref a_printer_draft_1, .ref x_printer_path, .ref x_printer_numbers, .int a_printer_numbered_1])), (a_printer_result_1, .inr (0, [.ref a_printer_result_items_1, .int a_printer_result_size_1])), (a_printer_result_items_1, .inl (cs 1, a_printer_result_items_n_1, .inl a_printer_result_items_f_1)), (a_printer_draft_1, .inr (0, [.ref a_printer_draft_items_1, .int a_printer_draft_size_1])), (a_printer_draft_items_1, .inl (cs 1, a_printer_draft_items_n_1, .inl a_printer_draft_items_f_1)), (x_printer_path, .inr (1, [.ref a_printer_path_items_1, .int a_printer_path_size_1])), (a_printer_path_items_1, .inl (cs 0, a_printer_path_items_n_1, .inl a_printer_path_items_f_1)), (x_printer_numbers, .inl (cs 0, x_printer_numbers_n, .inl a_printer_numbers_f_1)), (x_registers, .inl (cs 0, x_registers_n, .inl x_registers_f))] := ⟨hP, hD⟩
    refine lv_goto hx hb d_Law_print_9 rfl ?_
    refine lv_iconst (v := 0) hx hb d_Law_print_18 (by decide) ?_
    obtain ⟨hq, hw⟩ := Prod.mk.inj (Option.some.inj hok)
    obtain ⟨hmc0, hms0⟩ := Prod.mk.inj hw
    obtain ⟨hq0, hq⟩ := Prod.mk.inj hq
    obtain ⟨hq1, hq⟩ := Prod.mk.inj hq
    obtain ⟨hq2, hq⟩ := Prod.mk.inj hq
    obtain ⟨hq3, hq⟩ := Prod.mk.inj hq
    obtain ⟨hq4, hq⟩ := Prod.mk.inj hq
    obtain ⟨hq5, hq⟩ := Prod.mk.inj hq
    obtain ⟨hq6, hq⟩ := Prod.mk.inj hq
    obtain ⟨hq7, hq⟩ := Prod.mk.inj hq
    obtain ⟨hq8, hq⟩ := Prod.mk.inj hq
    obtain ⟨hq9, hq⟩ := Prod.mk.inj hq
    obtain ⟨hq10, hq⟩ := Prod.mk.inj hq
    obtain ⟨hq11, hq⟩ := Prod.mk.inj hq
    have hq12 := hq
    subst hq0
    subst hq1
    subst hq2
    subst hq3
    subst hq4
    subst hq5
    subst hq6
    subst hq7
    subst hq8
    subst hq9
    subst hq10
    subst hq11
    subst hq12
    obtain ⟨hP9, hD9⟩ := sub2 (ws' := [(x, .inr (9, [.ref x_tape, .ref x_names, .ref x_terms, .ref x_reader, .ref x_unifier, .ref x_printer, .ref x_registers, .ref x_marked, .int x_marks, .int x_place])), (x_names, .inr (2, [.ref x_names_texts, .int x_names_textsSize, .ref x_names_ends, .ref x_names_older, .ref x_names_newest, .int x_names_sizeBefore])), (x_names_texts, .inl (cs 1, x_names_texts_n, .inl x_names_texts_f)), (x_names_ends, .inr (1, [.ref x_names_ends_items, .int x_names_ends_size])), (x_names_ends_items, .inl (cs 0, x_names_ends_items_n, .inl x_names_ends_items_f)), (x_terms, .inr (7, [.ref x_terms_shapes, .ref x_terms_values, .ref x_terms_firstParts, .int x_terms_nodes, .ref x_terms_parts, .ref x_terms_variableNames, .ref x_terms_became, .int x_terms_variables, .int x_terms_variablesLack, .int x_terms_symbols, .int x_terms_nodesBefore, .int x_terms_partsBefore, .int x_terms_variablesBefore])), (x_terms_shapes, .inl (cs 0, x_terms_shapes_n, .inl x_terms_shapes_f)), (x_terms_values, .inl (cs 2, x_terms_values_n, .inr (.inl x_terms_values_f))), (x_terms_firstParts, .inl (cs 0, x_terms_firstParts_n, .inl x_terms_firstParts_f)), (x_terms_parts, .inr (1, [.ref x_terms_parts_items, .int x_terms_parts_size])), (x_terms_parts_items, .inl (cs 0, x_terms_parts_items_n, .inl x_terms_parts_items_f)), (x_terms_became, .inl (cs 0, x_terms_became_n, .inl x_terms_became_f)), (x_printer, .inr (4, [.ref x_names, .ref x_terms, .ref a_printer_result_1, .ref a_printer_draft_1, .ref x_printer_path, .ref x_printer_numbers, .int a_printer_numbered_1])), (a_printer_result_1, .inr (0, [.ref a_printer_result_items_1, .int a_printer_result_size_1])), (a_printer_result_items_1, .inl (cs 1, a_printer_result_items_n_1, .inl a_printer_result_items_f_1)), (a_printer_draft_1, .inr (0, [.ref a_printer_draft_items_1, .int a_printer_draft_size_1])), (a_printer_draft_items_1, .inl (cs 1, a_printer_draft_items_n_1, .inl a_printer_draft_items_f_1)), (x_printer_path, .inr (1, [.ref a_printer_path_items_1, .int a_printer_path_size_1])), (a_printer_path_items_1, .inl (cs 0, a_printer_path_items_n_1, .inl a_printer_path_items_f_1)), (x_printer_numbers, .inl (cs 0, x_printer_numbers_n, .inl a_printer_numbers_f_1)), (x_registers, .inl (cs 0, x_registers_n, .inl x_registers_f)), (out, .inl (cs 2, out_n, .inr (.inl (vp_updL out_f (0 : Int32).toNatClampNeg r1.toInt64))))]) hP hD [1, 2, 3, 4, 5, 6, 7, 8, 9, 10, 11, 12, 13, 14, 15, 16, 17, 18, 19, 20, 21, 0] rfl (by decide) rfl
    refine W.widen (k := mc) (n := ms) (by omega) (by omega) ?_
    rw [hQ]
    exact W.iret (v := 0) hx hb hr (fun t ht hW => ⟨⟨_, (), rfl, rfl, a_printer_result_1, a_printer_result_items_1, a_printer_draft_1, a_printer_draft_items_1, a_printer_path_items_1, by rw [ht]; exact hP9, hD9⟩, hS.F ht⟩) hS.2.2 d_Law_print_19
  · obtain ⟨⟨hO, hB⟩, -⟩ := hB
    obtain ⟨hx1, hX⟩ := hO.thr
    rw [if_neg hx1] at hok
    rw [ht] at hB
    obtain ⟨a_printer_result_1, a_printer_result_items_1, a_printer_draft_1, a_printer_draft_items_1, a_printer_path_items_1, hP1, hD1⟩ := hB
    obtain ⟨hP, hD⟩ := jn_A hP hD [0, 1, 2, 3, 4, 5, 6, 7, 8, 9, 10, 11, 12, 13, 14, 15, 16, 17, 18, 19, 20] [21] rfl rfl (by decide) (by decide) hk1 hFc hP1 hD1
    obtain ⟨hP, hD⟩ : PD g A H [(out, .inl (cs 2, out_n, .inr (.inl out_f))), (x, .inr (9, [.ref x_tape, .ref x_names, .ref x_terms, .ref x_reader, .ref x_unifier, .ref x_printer, .ref x_registers, .ref x_marked, .int x_marks, .int x_place])), (x_names, .inr (2, [.ref x_names_texts, .int x_names_textsSize, .ref x_names_ends, .ref x_names_older, .ref x_names_newest, .int x_names_sizeBefore])), (x_names_texts, .inl (cs 1, x_names_texts_n, .inl x_names_texts_f)), (x_names_ends, .inr (1, [.ref x_names_ends_items, .int x_names_ends_size])), (x_names_ends_items, .inl (cs 0, x_names_ends_items_n, .inl x_names_ends_items_f)), (x_terms, .inr (7, [.ref x_terms_shapes, .ref x_terms_values, .ref x_terms_firstParts, .int x_terms_nodes, .ref x_terms_parts, .ref x_terms_variableNames, .ref x_terms_became, .int x_terms_variables, .int x_terms_variablesLack, .int x_terms_symbols, .int x_terms_nodesBefore, .int x_terms_partsBefore, .int x_terms_variablesBefore])), (x_terms_shapes, .inl (cs 0, x_terms_shapes_n, .inl x_terms_shapes_f)), (x_terms_values, .inl (cs 2, x_terms_values_n, .inr (.inl x_terms_values_f))), (x_terms_firstParts, .inl (cs 0, x_terms_firstParts_n, .inl x_terms_firstParts_f)), (x_terms_parts, .inr (1, [.ref x_terms_parts_items, .int x_terms_parts_size])), (x_terms_parts_items, .inl (cs 0, x_terms_parts_items_n, .inl x_terms_parts_items_f)), (x_terms_became, .inl (cs 0, x_terms_became_n, .inl x_terms_became_f)), (x_printer, .inr (4, [.ref x_names, .ref x_terms, .ref a_printer_result_1, .ref a_printer_draft_1, .ref x_printer_path, .ref x_printer_numbers, .int a_printer_numbered_1])), (a_printer_result_1, .inr (0, [.ref a_printer_result_items_1, .int a_printer_result_size_1])), (a_printer_result_items_1, .inl (cs 1, a_printer_result_items_n_1, .inl a_printer_result_items_f_1)), (a_printer_draft_1, .inr (0, [.ref a_printer_draft_items_1, .int a_printer_draft_size_1])), (a_printer_draft_items_1, .inl (cs 1, a_printer_draft_items_n_1, .inl a_printer_draft_items_f_1)), (x_printer_path, .inr (1, [.ref a_printer_path_items_1, .int a_printer_path_size_1])), (a_printer_path_items_1, .inl (cs 0, a_printer_path_items_n_1, .inl a_printer_path_items_f_1)), (x_printer_numbers, .inl (cs 0, x_printer_numbers_n, .inl a_printer_numbers_f_1)), (x_registers, .inl (cs 0, x_registers_n, .inl x_registers_f))] := ⟨hP, hD⟩
    by_cases hy1_1 : xc1 = 1
    · rw [if_pos hy1_1] at hok
      subst hy1_1
      obtain ⟨ce, cX, e1, e2, e3, e4, -⟩ := hX
      have e2 : s.vm.findClass "java/lang/IllegalArgumentException" = some cX := by rw [← hW.alike.findClass]; exact e2
      obtain ⟨k0, hk0⟩ := Vm.classAt_of_findClass e2
      refine cw_caught (h := 12) rfl hE (by rw [← ht]; exact e1) e4 (by rw [e3]; exact hk0) (fun hpl => Or.inr ⟨by show (0 : Nat) ≤ 4 ∧ (4 : Nat) < 9; decide, by show (19 : Nat) ≠ 0; decide, cw_hit hown (hg _ wd_1131) (va_Nw.use rfl (hgl _ wd_1132)) e2 e3 hpl rfl⟩) ?_
      refine W.eq (g2 := F0 m 12 ls [.ref x1]) rfl ?_
      refine lv_astore_n hx hb d_Law_print_12 rfl hl (by decide) rfl (fun ls hl => ?_)
      have hl : lv_has ls 4 [(3, .ref x1), (0, .ref x), (1, .int p0), (2, .ref out)] := hl
      refine lv_iconst (v := 1) hx hb d_Law_print_13 (by decide) ?_
      obtain ⟨hq, hw⟩ := Prod.mk.inj (Option.some.inj hok)
      obtain ⟨hmc0, hms0⟩ := Prod.mk.inj hw
      obtain ⟨hq0, hq⟩ := Prod.mk.inj hq
      obtain ⟨hq1, hq⟩ := Prod.mk.inj hq
      obtain ⟨hq2, hq⟩ := Prod.mk.inj hq
      obtain ⟨hq3, hq⟩ := Prod.mk.inj hq
      obtain ⟨hq4, hq⟩ := Prod.mk.inj hq
      obtain ⟨hq5, hq⟩ := Prod.mk.inj hq
      obtain ⟨hq6, hq⟩ := Prod.mk.inj hq
      obtain ⟨hq7, hq⟩ := Prod.mk.inj hq
      obtain ⟨hq8, hq⟩ := Prod.mk.inj hq
      obtain ⟨hq9, hq⟩ := Prod.mk.inj hq
      obtain ⟨hq10, hq⟩ := Prod.mk.inj hq
      obtain ⟨hq11, hq⟩ := Prod.mk.inj hq
      have hq12 := hq
      subst hq0
      subst hq1
      subst hq2
      subst hq3
      subst hq4
      subst hq5
      subst hq6
      subst hq7
      subst hq8
      subst hq9
      subst hq10
      subst hq11
      subst hq12
      obtain ⟨hP9, hD9⟩ := sub2 (ws' := [(x, .inr (9, [.ref x_tape, .ref x_names, .ref x_terms, .ref x_reader, .ref x_unifier, .ref x_printer, .ref x_registers, .ref x_marked, .int x_marks, .int x_place])), (x_names, .inr (2, [.ref x_names_texts, .int x_names_textsSize, .ref x_names_ends, .ref x_names_older, .ref x_names_newest, .int x_names_sizeBefore])), (x_names_texts, .inl (cs 1, x_names_texts_n, .inl x_names_texts_f)), (x_names_ends, .inr (1, [.ref x_names_ends_items, .int x_names_ends_size])), (x_names_ends_items, .inl (cs 0, x_names_ends_items_n, .inl x_names_ends_items_f)), (x_terms, .inr (7, [.ref x_terms_shapes, .ref x_terms_values, .ref x_terms_firstParts, .int x_terms_nodes, .ref x_terms_parts, .ref x_terms_variableNames, .ref x_terms_became, .int x_terms_variables, .int x_terms_variablesLack, .int x_terms_symbols, .int x_terms_nodesBefore, .int x_terms_partsBefore, .int x_terms_variablesBefore])), (x_terms_shapes, .inl (cs 0, x_terms_shapes_n, .inl x_terms_shapes_f)), (x_terms_values, .inl (cs 2, x_terms_values_n, .inr (.inl x_terms_values_f))), (x_terms_firstParts, .inl (cs 0, x_terms_firstParts_n, .inl x_terms_firstParts_f)), (x_terms_parts, .inr (1, [.ref x_terms_parts_items, .int x_terms_parts_size])), (x_terms_parts_items, .inl (cs 0, x_terms_parts_items_n, .inl x_terms_parts_items_f)), (x_terms_became, .inl (cs 0, x_terms_became_n, .inl x_terms_became_f)), (x_printer, .inr (4, [.ref x_names, .ref x_terms, .ref a_printer_result_1, .ref a_printer_draft_1, .ref x_printer_path, .ref x_printer_numbers, .int a_printer_numbered_1])), (a_printer_result_1, .inr (0, [.ref a_printer_result_items_1, .int a_printer_result_size_1])), (a_printer_result_items_1, .inl (cs 1, a_printer_result_items_n_1, .inl a_printer_result_items_f_1)), (a_printer_draft_1, .inr (0, [.ref a_printer_draft_items_1, .int a_printer_draft_size_1])), (a_printer_draft_items_1, .inl (cs 1, a_printer_draft_items_n_1, .inl a_printer_draft_items_f_1)), (x_printer_path, .inr (1, [.ref a_printer_path_items_1, .int a_printer_path_size_1])), (a_printer_path_items_1, .inl (cs 0, a_printer_path_items_n_1, .inl a_printer_path_items_f_1)), (x_printer_numbers, .inl (cs 0, x_printer_numbers_n, .inl a_printer_numbers_f_1)), (x_registers, .inl (cs 0, x_registers_n, .inl x_registers_f)), (out, .inl (cs 2, out_n, .inr (.inl out_f)))]) hP hD [1, 2, 3, 4, 5, 6, 7, 8, 9, 10, 11, 12, 13, 14, 15, 16, 17, 18, 19, 20, 21, 0] rfl (by decide) rfl
      refine W.widen (k := mc) (n := ms) (by omega) (by omega) ?_
      rw [hQ]
      exact W.iret (v := 1) hx hb hr (fun t ht hW => ⟨⟨_, (), rfl, rfl, a_printer_result_1, a_printer_result_items_1, a_printer_draft_1, a_printer_draft_items_1, a_printer_path_items_1, by rw [ht]; exact hP9, hD9⟩, hS.F ht⟩) hS.2.2 d_Law_print_14
    · rw [if_neg hy1_1] at hok
      by_cases hy1_3 : xc1 = 3
      · rw [if_pos hy1_3] at hok
        subst hy1_3
        obtain ⟨ce, cX, e1, e2, e3, e4, -⟩ := hX
        have e2 : s.vm.findClass "java/lang/IndexOutOfBoundsException" = some cX := by rw [← hW.alike.findClass]; exact e2
        obtain ⟨k0, hk0⟩ := Vm.classAt_of_findClass e2
        refine cw_caught (h := 15) rfl hE (by rw [← ht]; exact e1) e4 (by rw [e3]; exact hk0) (fun hpl => Or.inr ⟨by show (0 : Nat) ≤ 4 ∧ (4 : Nat) < 9; decide, by show (19 : Nat) ≠ 0; decide, cw_miss hown (hg _ wd_1131) (nc_no (hkr.2 ("java/lang/IndexOutOfBoundsException", "java/lang/IllegalArgumentException") (by decide))) e2 e3 hpl (Or.inr ⟨by show (0 : Nat) ≤ 4 ∧ (4 : Nat) < 9; decide, by show (13 : Nat) ≠ 0; decide, cw_hit hown (hg _ wd_1125) (va_Nw.use rfl (hgl _ wd_1126)) e2 e3 hpl rfl⟩)⟩) ?_
        refine W.eq (g2 := F0 m 15 ls [.ref x1]) rfl ?_
        refine lv_astore_n hx hb d_Law_print_15 rfl hl (by decide) rfl (fun ls hl => ?_)
        have hl : lv_has ls 4 [(3, .ref x1), (0, .ref x), (1, .int p0), (2, .ref out)] := hl
        refine lv_iconst (v := 2) hx hb d_Law_print_16 (by decide) ?_
        obtain ⟨hq, hw⟩ := Prod.mk.inj (Option.some.inj hok)
        obtain ⟨hmc0, hms0⟩ := Prod.mk.inj hw
        obtain ⟨hq0, hq⟩ := Prod.mk.inj hq
        obtain ⟨hq1, hq⟩ := Prod.mk.inj hq
        obtain ⟨hq2, hq⟩ := Prod.mk.inj hq
        obtain ⟨hq3, hq⟩ := Prod.mk.inj hq
        obtain ⟨hq4, hq⟩ := Prod.mk.inj hq
        obtain ⟨hq5, hq⟩ := Prod.mk.inj hq
        obtain ⟨hq6, hq⟩ := Prod.mk.inj hq
        obtain ⟨hq7, hq⟩ := Prod.mk.inj hq
        obtain ⟨hq8, hq⟩ := Prod.mk.inj hq
        obtain ⟨hq9, hq⟩ := Prod.mk.inj hq
        obtain ⟨hq10, hq⟩ := Prod.mk.inj hq
        obtain ⟨hq11, hq⟩ := Prod.mk.inj hq
        have hq12 := hq
        subst hq0
        subst hq1
        subst hq2
        subst hq3
        subst hq4
        subst hq5
        subst hq6
        subst hq7
        subst hq8
        subst hq9
        subst hq10
        subst hq11
        subst hq12
        obtain ⟨hP9, hD9⟩ := sub2 (ws' := [(x, .inr (9, [.ref x_tape, .ref x_names, .ref x_terms, .ref x_reader, .ref x_unifier, .ref x_printer, .ref x_registers, .ref x_marked, .int x_marks, .int x_place])), (x_names, .inr (2, [.ref x_names_texts, .int x_names_textsSize, .ref x_names_ends, .ref x_names_older, .ref x_names_newest, .int x_names_sizeBefore])), (x_names_texts, .inl (cs 1, x_names_texts_n, .inl x_names_texts_f)), (x_names_ends, .inr (1, [.ref x_names_ends_items, .int x_names_ends_size])), (x_names_ends_items, .inl (cs 0, x_names_ends_items_n, .inl x_names_ends_items_f)), (x_terms, .inr (7, [.ref x_terms_shapes, .ref x_terms_values, .ref x_terms_firstParts, .int x_terms_nodes, .ref x_terms_parts, .ref x_terms_variableNames, .ref x_terms_became, .int x_terms_variables, .int x_terms_variablesLack, .int x_terms_symbols, .int x_terms_nodesBefore, .int x_terms_partsBefore, .int x_terms_variablesBefore])), (x_terms_shapes, .inl (cs 0, x_terms_shapes_n, .inl x_terms_shapes_f)), (x_terms_values, .inl (cs 2, x_terms_values_n, .inr (.inl x_terms_values_f))), (x_terms_firstParts, .inl (cs 0, x_terms_firstParts_n, .inl x_terms_firstParts_f)), (x_terms_parts, .inr (1, [.ref x_terms_parts_items, .int x_terms_parts_size])), (x_terms_parts_items, .inl (cs 0, x_terms_parts_items_n, .inl x_terms_parts_items_f)), (x_terms_became, .inl (cs 0, x_terms_became_n, .inl x_terms_became_f)), (x_printer, .inr (4, [.ref x_names, .ref x_terms, .ref a_printer_result_1, .ref a_printer_draft_1, .ref x_printer_path, .ref x_printer_numbers, .int a_printer_numbered_1])), (a_printer_result_1, .inr (0, [.ref a_printer_result_items_1, .int a_printer_result_size_1])), (a_printer_result_items_1, .inl (cs 1, a_printer_result_items_n_1, .inl a_printer_result_items_f_1)), (a_printer_draft_1, .inr (0, [.ref a_printer_draft_items_1, .int a_printer_draft_size_1])), (a_printer_draft_items_1, .inl (cs 1, a_printer_draft_items_n_1, .inl a_printer_draft_items_f_1)), (x_printer_path, .inr (1, [.ref a_printer_path_items_1, .int a_printer_path_size_1])), (a_printer_path_items_1, .inl (cs 0, a_printer_path_items_n_1, .inl a_printer_path_items_f_1)), (x_printer_numbers, .inl (cs 0, x_printer_numbers_n, .inl a_printer_numbers_f_1)), (x_registers, .inl (cs 0, x_registers_n, .inl x_registers_f)), (out, .inl (cs 2, out_n, .inr (.inl out_f)))]) hP hD [1, 2, 3, 4, 5, 6, 7, 8, 9, 10, 11, 12, 13, 14, 15, 16, 17, 18, 19, 20, 21, 0] rfl (by decide) rfl
        refine W.widen (k := mc) (n := ms) (by omega) (by omega) ?_
        rw [hQ]
        exact W.iret (v := 2) hx hb hr (fun t ht hW => ⟨⟨_, (), rfl, rfl, a_printer_result_1, a_printer_result_items_1, a_printer_draft_1, a_printer_draft_items_1, a_printer_path_items_1, by rw [ht]; exact hP9, hD9⟩, hS.F ht⟩) hS.2.2 d_Law_print_17
      · rw [if_neg hy1_3] at hok
        cases hok

theorem d_Law_word_0 : decode b_Law_word 0 = .ok (.aload_n 2, 1) := by decide +kernel
theorem d_Law_word_1 : decode b_Law_word 1 = .ok (.iconst 0, 1) := by decide +kernel
theorem d_Law_word_2 : decode b_Law_word 2 = .ok (.aload_n 0, 1) := by decide +kernel
theorem d_Law_word_3 : decode b_Law_word 3 = .ok (.iload_n 1, 1) := by decide +kernel
theorem d_Law_word_4 : decode b_Law_word 4 = .ok (.invokevirtual 49, 3) := by decide +kernel
theorem d_Law_word_7 : decode b_Law_word 7 = .ok (.lastore, 1) := by decide +kernel
theorem d_Law_word_8 : decode b_Law_word 8 = .ok (.goto 6, 3) := by decide +kernel
theorem d_Law_word_11 : decode b_Law_word 11 = .ok (.astore_n 3, 1) := by decide +kernel
theorem d_Law_word_12 : decode b_Law_word 12 = .ok (.iconst 1, 1) := by decide +kernel
theorem d_Law_word_13 : decode b_Law_word 13 = .ok (.ireturn, 1) := by decide +kernel
theorem d_Law_word_14 : decode b_Law_word 14 = .ok (.iconst 0, 1) := by decide +kernel
theorem d_Law_word_15 : decode b_Law_word 15 = .ok (.ireturn, 1) := by decide +kernel
def p_Law_word (n : Nat) (p0 : Int32) (x_marks : Int32) (x_place : Int32) (x_printer_numbered : Int32) (x_printer_result_size : Int32) (x_printer_result_items_n : Nat) (x_printer_result_items_f : Nat → Int32) (out_n : Nat) (out_f : Nat → Int64) : Option ((Int32 × (Nat → Int64)) × Nat × Nat) := (p_UB_word n p0 x_marks x_place x_printer_numbered x_printer_result_size x_printer_result_items_n x_printer_result_items_f).bind (fun ((xc1, r1), mk1, sk1) => al mk1 sk1 (if xc1 = 0 then (ck (ixb 0 out_n) (some (((0 : Int32), vp_updL out_f (0 : Int32).toNatClampNeg r1), 0, 0))) else (if xc1 = 3 then (some (((1 : Int32), out_f), 0, 0)) else (none))))
set_option maxHeartbeats 40000000 in
set_option maxRecDepth 100000 in
theorem c_Law_word (l : Launch) (g : va_G) (cs : Nat → ClassId) (ka : Nat → Nat) (hfl : l.flags = pinnedFlags ++ [noTraceFlag]) (x_tape : Nat) (x_names : Nat) (x_terms : Nat) (x_reader : Nat) (x_unifier : Nat) (x_registers : Nat) (x_marked : Nat) (x_printer_names : Nat) (x_printer_terms : Nat) (x_printer_draft : Nat) (x_printer_path : Nat) (x_printer_numbers : Nat) (x x_printer x_printer_result x_printer_result_items out : Nat) (sz : Nat) (n : Nat) (p0 : Int32) (x_marks : Int32) (x_place : Int32) (x_printer_numbered : Int32) (x_printer_result_size : Int32) (x_printer_result_items_n : Nat) (x_printer_result_items_f : Nat → Int32) (out_n : Nat) (out_f : Nat → Int64) (r : Int32) (o_out_f : Nat → Int64) (mc ms : Nat) (hok : p_Law_word n p0 x_marks x_place x_printer_numbered x_printer_result_size x_printer_result_items_n x_printer_result_items_f out_n out_f = some ((r, o_out_f), mc, ms)) : Met l y_Law_word (.codeWith y_Law_word b_Law_word 4 (some .int) [(0, 8, 11, 13)] :: GW) { frames := 7, cells := mc, slots := ms, locals := 115 } (va_Pc [.ref x, .int p0, .ref out] (gP g cs ka [(x, .inr (9, [.ref x_tape, .ref x_names, .ref x_terms, .ref x_reader, .ref x_unifier, .ref x_printer, .ref x_registers, .ref x_marked, .int x_marks, .int x_place])), (x_printer, .inr (4, [.ref x_printer_names, .ref x_printer_terms, .ref x_printer_result, .ref x_printer_draft, .ref x_printer_path, .ref x_printer_numbers, .int x_printer_numbered])), (x_printer_result, .inr (0, [.ref x_printer_result_items, .int x_printer_result_size])), (x_printer_result_items, .inl (cs 1, x_printer_result_items_n, .inl x_printer_result_items_f)), (out, .inl (cs 2, out_n, .inr (.inl out_f)))] sz)) (va_Qi (fun (r' : Int32) (_ : Unit) => r = r') (fun _ t => va_P g classes [(x, .inr (9, [.ref x_tape, .ref x_names, .ref x_terms, .ref x_reader, .ref x_unifier, .ref x_printer, .ref x_registers, .ref x_marked, .int x_marks, .int x_place])), (x_printer, .inr (4, [.ref x_printer_names, .ref x_printer_terms, .ref x_printer_result, .ref x_printer_draft, .ref x_printer_path, .ref x_printer_numbers, .int x_printer_numbered])), (x_printer_result, .inr (0, [.ref x_printer_result_items, .int x_printer_result_size])), (x_printer_result_items, .inl (cs 1, x_printer_result_items_n, .inl x_printer_result_items_f)), (out, .inl (cs 2, out_n, .inr (.inl o_out_f)))] t.heap ∧ va_D (va_A [(x, .inr (9, [.ref x_tape, .ref x_names, .ref x_terms, .ref x_reader, .ref x_unifier, .ref x_printer, .ref x_registers, .ref x_marked, .int x_marks, .int x_place])), (x_printer, .inr (4, [.ref x_printer_names, .ref x_printer_terms, .ref x_printer_result, .ref x_printer_draft, .ref x_printer_path, .ref x_printer_numbers, .int x_printer_numbered])), (x_printer_result, .inr (0, [.ref x_printer_result_items, .int x_printer_result_size])), (x_printer_result_items, .inl (cs 1, x_printer_result_items_n, .inl x_printer_result_items_f)), (out, .inl (cs 2, out_n, .inr (.inl out_f)))] sz) [(x, .inr (9, [.ref x_tape, .ref x_names, .ref x_terms, .ref x_reader, .ref x_unifier, .ref x_printer, .ref x_registers, .ref x_marked, .int x_marks, .int x_place])), (x_printer, .inr (4, [.ref x_printer_names, .ref x_printer_terms, .ref x_printer_result, .ref x_printer_draft, .ref x_printer_path, .ref x_printer_numbers, .int x_printer_numbered])), (x_printer_result, .inr (0, [.ref x_printer_result_items, .int x_printer_result_size])), (x_printer_result_items, .inl (cs 1, x_printer_result_items_n, .inl x_printer_result_items_f)), (out, .inl (cs 2, out_n, .inr (.inl o_out_f)))]) (va_A [(x, .inr (9, [.ref x_tape, .ref x_names, .ref x_terms, .ref x_reader, .ref x_unifier, .ref x_printer, .ref x_registers, .ref x_marked, .int x_marks, .int x_place])), (x_printer, .inr (4, [.ref x_printer_names, .ref x_printer_terms, .ref x_printer_result, .ref x_printer_draft, .ref x_printer_path, .ref x_printer_numbers, .int x_printer_numbered])), (x_printer_result, .inr (0, [.ref x_printer_result_items, .int x_printer_result_size])), (x_printer_result_items, .inl (cs 1, x_printer_result_items_n, .inl x_printer_result_items_f)), (out, .inl (cs 2, out_n, .inr (.inl out_f)))] sz)) mc ms (va_A [(x, .inr (9, [.ref x_tape, .ref x_names, .ref x_terms, .ref x_reader, .ref x_unifier, .ref x_printer, .ref x_registers, .ref x_marked, .int x_marks, .int x_place])), (x_printer, .inr (4, [.ref x_printer_names, .ref x_printer_terms, .ref x_printer_result, .ref x_printer_draft, .ref x_printer_path, .ref x_printer_numbers, .int x_printer_numbered])), (x_printer_result, .inr (0, [.ref x_printer_result_items, .int x_printer_result_size])), (x_printer_result_items, .inl (cs 1, x_printer_result_items_n, .inl x_printer_result_items_f)), (out, .inl (cs 2, out_n, .inr (.inl out_f)))] sz) := by
  refine va_MetW (cc := b_Law_word) (maxL := 4) (ret := (some .int)) (by decide) rfl ?_
  intro p e s m args below meth c s₁ B hml hv
  obtain ⟨rfl, hsz, hP, hK, hD0, hgl, hkn, hkr⟩ := hv
  have hx := B.exec
  have hb := B.bytes
  have hr := B.returns
  have hg : ∀ w ∈ GW, w.before ([.ref x, .int p0, .ref out] : List Value).toArray s = true := fun w hw => atoms_spec (ws := .codeWith y_Law_word b_Law_word 4 (some .int) [(0, 8, 11, 13)] :: GW) B.pre w (List.mem_cons_of_mem _ hw)
  have hown : s.vm.findClass R_Law = some m.cls := findClass_of_methodNamed B.named
  have hlocks := B.notSynchronized
  have hcd : (Cond.codeWith y_Law_word b_Law_word 4 (some .int) [(0, 8, 11, 13)]).before ([.ref x, .int p0, .ref out] : List Value).toArray s = true := atoms_spec (ws := .codeWith y_Law_word b_Law_word 4 (some .int) [(0, 8, 11, 13)] :: GW) B.pre _ List.mem_cons_self
  have hE := cw_hand B hcd
  subst hsz
  have hD := hD0.self (sz := s.heap.size)
  generalize hAe : va_A [(x, .inr (9, [.ref x_tape, .ref x_names, .ref x_terms, .ref x_reader, .ref x_unifier, .ref x_printer, .ref x_registers, .ref x_marked, .int x_marks, .int x_place])), (x_printer, .inr (4, [.ref x_printer_names, .ref x_printer_terms, .ref x_printer_result, .ref x_printer_draft, .ref x_printer_path, .ref x_printer_numbers, .int x_printer_numbered])), (x_printer_result, .inr (0, [.ref x_printer_result_items, .int x_printer_result_size])), (x_printer_result_items, .inl (cs 1, x_printer_result_items_n, .inl x_printer_result_items_f)), (out, .inl (cs 2, out_n, .inr (.inl out_f)))] s.heap.size = A at hD hkn ⊢
  have hA : ∀ q : Nat, s.heap.size ≤ q → A q := fun q h => by rw [← hAe]; exact Or.inr h
  have hS : va_S A s.heap s.heap [] := va_S.rf
  have hP : va_P g classes [(x, .inr (9, [.ref x_tape, .ref x_names, .ref x_terms, .ref x_reader, .ref x_unifier, .ref x_printer, .ref x_registers, .ref x_marked, .int x_marks, .int x_place])), (x_printer, .inr (4, [.ref x_printer_names, .ref x_printer_terms, .ref x_printer_result, .ref x_printer_draft, .ref x_printer_path, .ref x_printer_numbers, .int x_printer_numbered])), (x_printer_result, .inr (0, [.ref x_printer_result_items, .int x_printer_result_size])), (x_printer_result_items, .inl (cs 1, x_printer_result_items_n, .inl x_printer_result_items_f)), (out, .inl (cs 2, out_n, .inr (.inl out_f)))] s.heap := hP
  have hl := lv_entry ([.ref x, .int p0, .ref out]) (n := 4) (Nat.le_of_ble_eq_true rfl)
  rw [lg_entry_eq]
  generalize (lg_sl ([.ref x, .int p0, .ref out]) ++ List.replicate (4 - (lg_sl ([.ref x, .int p0, .ref out])).length) Slot.unset).toArray = ls at hl ⊢
  have hl : lv_has ls 4 [(0, .ref x), (1, .int p0), (2, .ref out)] := hl
  refine gq (fun Q hQ => ?_)
  obtain ⟨H, hH⟩ : ∃ H : Heap, H = s.heap := ⟨_, rfl⟩
  rw [← hH] at hP
  have hS : va_S A s.heap H [] := by rw [hH]; exact hS
  refine W.eqH hH ?_
  obtain ⟨locs, hlc⟩ : ∃ L : List Loc, L = [] := ⟨_, rfl⟩
  rw [← hlc] at hS ⊢
  unfold p_Law_word at hok
  refine lv_aload_n hx hb d_Law_word_0 rfl (lv_at hl 2 rfl) ?_
  refine lv_iconst (v := 0) hx hb d_Law_word_1 (by decide) ?_
  refine lv_aload_n hx hb d_Law_word_2 rfl (lv_at hl 0 rfl) ?_
  refine lv_iload_n hx hb d_Law_word_3 rfl (lv_at hl 1 rfl) ?_
  obtain ⟨⟨⟨xc1, r1⟩, mk1, sk1⟩, hc1, hok⟩ := bd_some hok
  dsimp only at hok
  obtain ⟨m1, s1, hok, hmc1, hms1⟩ := al_some hok
  obtain ⟨hPc, hDc, hFc⟩ := cut0 (wc := [(x, .inr (9, [.ref x_tape, .ref x_names, .ref x_terms, .ref x_reader, .ref x_unifier, .ref x_printer, .ref x_registers, .ref x_marked, .int x_marks, .int x_place])), (x_printer, .inr (4, [.ref x_printer_names, .ref x_printer_terms, .ref x_printer_result, .ref x_printer_draft, .ref x_printer_path, .ref x_printer_numbers, .int x_printer_numbered])), (x_printer_result, .inr (0, [.ref x_printer_result_items, .int x_printer_result_size])), (x_printer_result_items, .inl (cs 1, x_printer_result_items_n, .inl x_printer_result_items_f))]) hP hD hS hA [0, 1, 2, 3] (by decide) rfl
  refine cw_call (A1 := va_A [(x, .inr (9, [.ref x_tape, .ref x_names, .ref x_terms, .ref x_reader, .ref x_unifier, .ref x_printer, .ref x_registers, .ref x_marked, .int x_marks, .int x_place])), (x_printer, .inr (4, [.ref x_printer_names, .ref x_printer_terms, .ref x_printer_result, .ref x_printer_draft, .ref x_printer_path, .ref x_printer_numbers, .int x_printer_numbered])), (x_printer_result, .inr (0, [.ref x_printer_result_items, .int x_printer_result_size])), (x_printer_result_items, .inl (cs 1, x_printer_result_items_n, .inl x_printer_result_items_f))] H.size) (tx_runV (As := [.int p0]) (rest := [.int 0, .ref out]) ⟨hx, hb, hml, hown, hg⟩ (c_UB_word l g cs ka hfl x_tape x_names x_terms x_reader x_unifier x_registers x_marked x_printer_names x_printer_terms x_printer_draft x_printer_path x_printer_numbers x x_printer x_printer_result x_printer_result_items H.size n p0 x_marks x_place x_printer_numbered x_printer_result_size x_printer_result_items_n x_printer_result_items_f xc1 r1 mk1 sk1 hc1) (cwV (C := R_UB) 1 hg (gw_V wd_1160 wd_1161 wd_1162 wd_632 wd_1159) rfl rfl rfl (by decide +kernel) ⟨Nat.le_of_ble_eq_true rfl, Nat.le_of_ble_eq_true rfl⟩) ⟨gP_blind, va_recv (q0 := 0) (ci := 9) (q := (R_UB, F_UB, 10)) hK hP rfl rfl, gP_pre hPc hDc hK hgl hkn hkr hS hFc⟩ rfl rfl hl.1 rfl (lv_room (Nat.le_of_ble_eq_true rfl)) d_Law_word_4 ⟨show 0 + mk1 ≤ mc from by omega, show 0 + sk1 ≤ ms from by omega⟩) hS (fun st o t h0 hq => hq.2) (fun q _ h => hFc q h) hFc (fun v1 st₀ t H locs h0 ht hW hB hz1 hk1 hS => ?_) (fun x1 st₀ t H locs h0 ht hW hB hz1 hk1 hS => ?_)
  · obtain ⟨⟨hO, hB⟩, -⟩ := hB
    obtain ⟨hx1, hv1⟩ := hO.ret
    subst hv1
    rw [if_pos hx1] at hok
    rw [ht] at hB
    obtain ⟨hP1, hD1⟩ := hB
    obtain ⟨hP, hD⟩ := jn_A hP hD [0, 1, 2, 3] [4] rfl rfl (by decide) (by decide) hk1 hFc hP1 hD1
    obtain ⟨hP, hD⟩ : PD g A H [(out, .inl (cs 2, out_n, .inr (.inl out_f))), (x, .inr (9, [.ref x_tape, .ref x_names, .ref x_terms, .ref x_reader, .ref x_unifier, .ref x_printer, .ref x_registers, .ref x_marked, .int x_marks, .int x_place])), (x_printer, .inr (4, [.ref x_printer_names, .ref x_printer_terms, .ref x_printer_result, .ref x_printer_draft, .ref x_printer_path, .ref x_printer_numbers, .int x_printer_numbered])), (x_printer_result, .inr (0, [.ref x_printer_result_items, .int x_printer_result_size])), (x_printer_result_items, .inl (cs 1, x_printer_result_items_n, .inl x_printer_result_items_f))] := ⟨hP, hD⟩
    refine W.eq (g2 := F0 m 7 ls [.long r1, .int 0, .ref out]) rfl ?_
    obtain ⟨hi2, hok⟩ := ck_some hok
    refine va_last hx hb hK hP hD hS 0 2 rfl rfl (ixb_in hi2) d_Law_word_7 (fun H locs hP hD hS => ?_)
    obtain ⟨hP, hD⟩ : PD g A H [(out, .inl (cs 2, out_n, .inr (.inl (vp_updL out_f (0 : Int32).toNatClampNeg r1)))), (x, .inr (9, [.ref x_tape, .ref x_names, .ref x_terms, .ref x_reader, .ref x_unifier, .ref x_printer, .ref x_registers, .ref x_marked, .int x_marks, .int x_place])), (x_printer, .inr (4, [.ref x_printer_names, .ref x_printer_terms, .ref x_printer_result, .ref x_printer_draft, .ref x_printer_path, .ref x_printer_numbers, .int x_printer_numbered])), (x_printer_result, .inr (0, [.ref x_printer_result_items, .int x_printer_result_size])), (x_printer_result_items, .inl (cs 1, x_printer_result_items_n, .inl x_printer_result_items_f))] := ⟨hP, hD⟩
    refine lv_goto hx hb d_Law_word_8 rfl ?_
    refine lv_iconst (v := 0) hx hb d_Law_word_14 (by decide) ?_
    obtain ⟨hq, hw⟩ := Prod.mk.inj (Option.some.inj hok)
    obtain ⟨hmc0, hms0⟩ := Prod.mk.inj hw
    obtain ⟨hq0, hq⟩ := Prod.mk.inj hq
    have hq1 := hq
    subst hq0
    subst hq1
    obtain ⟨hP9, hD9⟩ := sub2 (ws' := [(x, .inr (9, [.ref x_tape, .ref x_names, .ref x_terms, .ref x_reader, .ref x_unifier, .ref x_printer, .ref x_registers, .ref x_marked, .int x_marks, .int x_place])), (x_printer, .inr (4, [.ref x_printer_names, .ref x_printer_terms, .ref x_printer_result, .ref x_printer_draft, .ref x_printer_path, .ref x_printer_numbers, .int x_printer_numbered])), (x_printer_result, .inr (0, [.ref x_printer_result_items, .int x_printer_result_size])), (x_printer_result_items, .inl (cs 1, x_printer_result_items_n, .inl x_printer_result_items_f)), (out, .inl (cs 2, out_n, .inr (.inl (vp_updL out_f (0 : Int32).toNatClampNeg r1))))]) hP hD [1, 2, 3, 4, 0] rfl (by decide) rfl
    refine W.widen (k := mc) (n := ms) (by omega) (by omega) ?_
    rw [hQ]
    exact W.iret (v := 0) hx hb hr (fun t ht hW => ⟨⟨_, (), rfl, rfl, by rw [ht]; exact hP9, hD9⟩, hS.F ht⟩) hS.2.2 d_Law_word_15
  · obtain ⟨⟨hO, hB⟩, -⟩ := hB
    obtain ⟨hx1, hX⟩ := hO.thr
    rw [if_neg hx1] at hok
    rw [ht] at hB
    obtain ⟨hP1, hD1⟩ := hB
    obtain ⟨hP, hD⟩ := jn_A hP hD [0, 1, 2, 3] [4] rfl rfl (by decide) (by decide) hk1 hFc hP1 hD1
    obtain ⟨hP, hD⟩ : PD g A H [(out, .inl (cs 2, out_n, .inr (.inl out_f))), (x, .inr (9, [.ref x_tape, .ref x_names, .ref x_terms, .ref x_reader, .ref x_unifier, .ref x_printer, .ref x_registers, .ref x_marked, .int x_marks, .int x_place])), (x_printer, .inr (4, [.ref x_printer_names, .ref x_printer_terms, .ref x_printer_result, .ref x_printer_draft, .ref x_printer_path, .ref x_printer_numbers, .int x_printer_numbered])), (x_printer_result, .inr (0, [.ref x_printer_result_items, .int x_printer_result_size])), (x_printer_result_items, .inl (cs 1, x_printer_result_items_n, .inl x_printer_result_items_f))] := ⟨hP, hD⟩
    by_cases hy1_3 : xc1 = 3
    · rw [if_pos hy1_3] at hok
      subst hy1_3
      obtain ⟨ce, cX, e1, e2, e3, e4, -⟩ := hX
      have e2 : s.vm.findClass "java/lang/IndexOutOfBoundsException" = some cX := by rw [← hW.alike.findClass]; exact e2
      obtain ⟨k0, hk0⟩ := Vm.classAt_of_findClass e2
      refine cw_caught (h := 11) rfl hE (by rw [← ht]; exact e1) e4 (by rw [e3]; exact hk0) (fun hpl => Or.inr ⟨by show (0 : Nat) ≤ 4 ∧ (4 : Nat) < 8; decide, by show (13 : Nat) ≠ 0; decide, cw_hit hown (hg _ wd_1125) (va_Nw.use rfl (hgl _ wd_1126)) e2 e3 hpl rfl⟩) ?_
      refine W.eq (g2 := F0 m 11 ls [.ref x1]) rfl ?_
      refine lv_astore_n hx hb d_Law_word_11 rfl hl (by decide) rfl (fun ls hl => ?_)
      have hl : lv_has ls 4 [(3, .ref x1), (0, .ref x), (1, .int p0), (2, .ref out)] := hl
      refine lv_iconst (v := 1) hx hb d_Law_word_12 (by decide) ?_
      obtain ⟨hq, hw⟩ := Prod.mk.inj (Option.some.inj hok)
      obtain ⟨hmc0, hms0⟩ := Prod.mk.inj hw
      obtain ⟨hq0, hq⟩ := Prod.mk.inj hq
      have hq1 := hq
      subst hq0
      subst hq1
      obtain ⟨hP9, hD9⟩ := sub2 (ws' := [(x, .inr (9, [.ref x_tape, .ref x_names, .ref x_terms, .ref x_reader, .ref x_unifier, .ref x_printer, .ref x_registers, .ref x_marked, .int x_marks, .int x_place])), (x_printer, .inr (4, [.ref x_printer_names, .ref x_printer_terms, .ref x_printer_result, .ref x_printer_draft, .ref x_printer_path, .ref x_printer_numbers, .int x_printer_numbered])), (x_printer_result, .inr (0, [.ref x_printer_result_items, .int x_printer_result_size])), (x_printer_result_items, .inl (cs 1, x_printer_result_items_n, .inl x_printer_result_items_f)), (out, .inl (cs 2, out_n, .inr (.inl out_f)))]) hP hD [1, 2, 3, 4, 0] rfl (by decide) rfl
      refine W.widen (k := mc) (n := ms) (by omega) (by omega) ?_
      rw [hQ]
      exact W.iret (v := 1) hx hb hr (fun t ht hW => ⟨⟨_, (), rfl, rfl, by rw [ht]; exact hP9, hD9⟩, hS.F ht⟩) hS.2.2 d_Law_word_13
    · rw [if_neg hy1_3] at hok
      cases hok

theorem d_Law_count_0 : decode b_Law_count 0 = .ok (.aload_n 2, 1) := by decide +kernel
theorem d_Law_count_1 : decode b_Law_count 1 = .ok (.iconst 0, 1) := by decide +kernel
theorem d_Law_count_2 : decode b_Law_count 2 = .ok (.aload_n 0, 1) := by decide +kernel
theorem d_Law_count_3 : decode b_Law_count 3 = .ok (.iload_n 1, 1) := by decide +kernel
theorem d_Law_count_4 : decode b_Law_count 4 = .ok (.invokevirtual 53, 3) := by decide +kernel
theorem d_Law_count_7 : decode b_Law_count 7 = .ok (.i2l, 1) := by decide +kernel
theorem d_Law_count_8 : decode b_Law_count 8 = .ok (.lastore, 1) := by decide +kernel
theorem d_Law_count_9 : decode b_Law_count 9 = .ok (.goto 6, 3) := by decide +kernel
theorem d_Law_count_12 : decode b_Law_count 12 = .ok (.astore_n 3, 1) := by decide +kernel
theorem d_Law_count_13 : decode b_Law_count 13 = .ok (.iconst 1, 1) := by decide +kernel
theorem d_Law_count_14 : decode b_Law_count 14 = .ok (.ireturn, 1) := by decide +kernel
theorem d_Law_count_15 : decode b_Law_count 15 = .ok (.iconst 0, 1) := by decide +kernel
theorem d_Law_count_16 : decode b_Law_count 16 = .ok (.ireturn, 1) := by decide +kernel
def p_Law_count (n : Nat) (p0 : Int32) (x_marks : Int32) (x_place : Int32) (x_tape_size : Int32) (x_terms_nodes : Int32) (x_terms_variables : Int32) (x_terms_variablesLack : Int32) (x_terms_symbols : Int32) (x_terms_nodesBefore : Int32) (x_terms_partsBefore : Int32) (x_terms_variablesBefore : Int32) (x_terms_became_n : Nat) (x_terms_became_f : Nat → Int32) (x_printer_numbered : Int32) (x_printer_result_size : Int32) (out_n : Nat) (out_f : Nat → Int64) : Option ((Int32 × (Nat → Int64)) × Nat × Nat) := (p_UB_count n p0 x_marks x_place x_tape_size x_terms_nodes x_terms_variables x_terms_variablesLack x_terms_symbols x_terms_nodesBefore x_terms_partsBefore x_terms_variablesBefore x_terms_became_n x_terms_became_f x_printer_numbered x_printer_result_size).bind (fun ((xc1, r1), mk1, sk1) => al mk1 sk1 (if xc1 = 0 then (ck (ixb 0 out_n) (some (((0 : Int32), vp_updL out_f (0 : Int32).toNatClampNeg r1.toInt64), 0, 0))) else (if xc1 = 1 then (some (((1 : Int32), out_f), 0, 0)) else (none))))
set_option maxHeartbeats 40000000 in
set_option maxRecDepth 100000 in
theorem c_Law_count (l : Launch) (g : va_G) (cs : Nat → ClassId) (ka : Nat → Nat) (hfl : l.flags = pinnedFlags ++ [noTraceFlag]) (x_names : Nat) (x_reader : Nat) (x_unifier : Nat) (x_registers : Nat) (x_marked : Nat) (x_tape_items : Nat) (x_terms_shapes : Nat) (x_terms_values : Nat) (x_terms_firstParts : Nat) (x_terms_parts : Nat) (x_terms_variableNames : Nat) (x_printer_names : Nat) (x_printer_draft : Nat) (x_printer_path : Nat) (x_printer_numbers : Nat) (x_printer_result_items : Nat) (x x_tape x_terms x_terms_became x_printer x_printer_result out : Nat) (sz : Nat) (n : Nat) (p0 : Int32) (x_marks : Int32) (x_place : Int32) (x_tape_size : Int32) (x_terms_nodes : Int32) (x_terms_variables : Int32) (x_terms_variablesLack : Int32) (x_terms_symbols : Int32) (x_terms_nodesBefore : Int32) (x_terms_partsBefore : Int32) (x_terms_variablesBefore : Int32) (x_terms_became_n : Nat) (x_terms_became_f : Nat → Int32) (x_printer_numbered : Int32) (x_printer_result_size : Int32) (out_n : Nat) (out_f : Nat → Int64) (r : Int32) (o_out_f : Nat → Int64) (mc ms : Nat) (hok : p_Law_count n p0 x_marks x_place x_tape_size x_terms_nodes x_terms_variables x_terms_variablesLack x_terms_symbols x_terms_nodesBefore x_terms_partsBefore x_terms_variablesBefore x_terms_became_n x_terms_became_f x_printer_numbered x_printer_result_size out_n out_f = some ((r, o_out_f), mc, ms)) : Met l y_Law_count (.codeWith y_Law_count b_Law_count 4 (some .int) [(0, 9, 12, 19)] :: GW) { frames := 7, cells := mc, slots := ms, locals := 111 } (va_Pc [.ref x, .int p0, .ref out] (gP g cs ka [(x, .inr (9, [.ref x_tape, .ref x_names, .ref x_terms, .ref x_reader, .ref x_unifier, .ref x_printer, .ref x_registers, .ref x_marked, .int x_marks, .int x_place])), (x_tape, .inr (0, [.ref x_tape_items, .int x_tape_size])), (x_terms, .inr (7, [.ref x_terms_shapes, .ref x_terms_values, .ref x_terms_firstParts, .int x_terms_nodes, .ref x_terms_parts, .ref x_terms_variableNames, .ref x_terms_became, .int x_terms_variables, .int x_terms_variablesLack, .int x_terms_symbols, .int x_terms_nodesBefore, .int x_terms_partsBefore, .int x_terms_variablesBefore])), (x_terms_became, .inl (cs 0, x_terms_became_n, .inl x_terms_became_f)), (x_printer, .inr (4, [.ref x_printer_names, .ref x_terms, .ref x_printer_result, .ref x_printer_draft, .ref x_printer_path, .ref x_printer_numbers, .int x_printer_numbered])), (x_printer_result, .inr (0, [.ref x_printer_result_items, .int x_printer_result_size])), (out, .inl (cs 2, out_n, .inr (.inl out_f)))] sz)) (va_Qi (fun (r' : Int32) (_ : Unit) => r = r') (fun _ t => va_P g classes [(x, .inr (9, [.ref x_tape, .ref x_names, .ref x_terms, .ref x_reader, .ref x_unifier, .ref x_printer, .ref x_registers, .ref x_marked, .int x_marks, .int x_place])), (x_tape, .inr (0, [.ref x_tape_items, .int x_tape_size])), (x_terms, .inr (7, [.ref x_terms_shapes, .ref x_terms_values, .ref x_terms_firstParts, .int x_terms_nodes, .ref x_terms_parts, .ref x_terms_variableNames, .ref x_terms_became, .int x_terms_variables, .int x_terms_variablesLack, .int x_terms_symbols, .int x_terms_nodesBefore, .int x_terms_partsBefore, .int x_terms_variablesBefore])), (x_terms_became, .inl (cs 0, x_terms_became_n, .inl x_terms_became_f)), (x_printer, .inr (4, [.ref x_printer_names, .ref x_terms, .ref x_printer_result, .ref x_printer_draft, .ref x_printer_path, .ref x_printer_numbers, .int x_printer_numbered])), (x_printer_result, .inr (0, [.ref x_printer_result_items, .int x_printer_result_size])), (out, .inl (cs 2, out_n, .inr (.inl o_out_f)))] t.heap ∧ va_D (va_A [(x, .inr (9, [.ref x_tape, .ref x_names, .ref x_terms, .ref x_reader, .ref x_unifier, .ref x_printer, .ref x_registers, .ref x_marked, .int x_marks, .int x_place])), (x_tape, .inr (0, [.ref x_tape_items, .int x_tape_size])), (x_terms, .inr (7, [.ref x_terms_shapes, .ref x_terms_values, .ref x_terms_firstParts, .int x_terms_nodes, .ref x_terms_parts, .ref x_terms_variableNames, .ref x_terms_became, .int x_terms_variables, .int x_terms_variablesLack, .int x_terms_symbols, .int x_terms_nodesBefore, .int x_terms_partsBefore, .int x_terms_variablesBefore])), (x_terms_became, .inl (cs 0, x_terms_became_n, .inl x_terms_became_f)), (x_printer, .inr (4, [.ref x_printer_names, .ref x_terms, .ref x_printer_result, .ref x_printer_draft, .ref x_printer_path, .ref x_printer_numbers, .int x_printer_numbered])), (x_printer_result, .inr (0, [.ref x_printer_result_items, .int x_printer_result_size])), (out, .inl (cs 2, out_n, .inr (.inl out_f)))] sz) [(x, .inr (9, [.ref x_tape, .ref x_names, .ref x_terms, .ref x_reader, .ref x_unifier, .ref x_printer, .ref x_registers, .ref x_marked, .int x_marks, .int x_place])), (x_tape, .inr (0, [.ref x_tape_items, .int x_tape_size])), (x_terms, .inr (7, [.ref x_terms_shapes, .ref x_terms_values, .ref x_terms_firstParts, .int x_terms_nodes, .ref x_terms_parts, .ref x_terms_variableNames, .ref x_terms_became, .int x_terms_variables, .int x_terms_variablesLack, .int x_terms_symbols, .int x_terms_nodesBefore, .int x_terms_partsBefore, .int x_terms_variablesBefore])), (x_terms_became, .inl (cs 0, x_terms_became_n, .inl x_terms_became_f)), (x_printer, .inr (4, [.ref x_printer_names, .ref x_terms, .ref x_printer_result, .ref x_printer_draft, .ref x_printer_path, .ref x_printer_numbers, .int x_printer_numbered])), (x_printer_result, .inr (0, [.ref x_printer_result_items, .int x_printer_result_size])), (out, .inl (cs 2, out_n, .inr (.inl o_out_f)))]) (va_A [(x, .inr (9, [.ref x_tape, .ref x_names, .ref x_terms, .ref x_reader, .ref x_unifier, .ref x_printer, .ref x_registers, .ref x_marked, .int x_marks, .int x_place])), (x_tape, .inr (0, [.ref x_tape_items, .int x_tape_size])), (x_terms, .inr (7, [.ref x_terms_shapes, .ref x_terms_values, .ref x_terms_firstParts, .int x_terms_nodes, .ref x_terms_parts, .ref x_terms_variableNames, .ref x_terms_became, .int x_terms_variables, .int x_terms_variablesLack, .int x_terms_symbols, .int x_terms_nodesBefore, .int x_terms_partsBefore, .int x_terms_variablesBefore])), (x_terms_became, .inl (cs 0, x_terms_became_n, .inl x_terms_became_f)), (x_printer, .inr (4, [.ref x_printer_names, .ref x_terms, .ref x_printer_result, .ref x_printer_draft, .ref x_printer_path, .ref x_printer_numbers, .int x_printer_numbered])), (x_printer_result, .inr (0, [.ref x_printer_result_items, .int x_printer_result_size])), (out, .inl (cs 2, out_n, .inr (.inl out_f)))] sz)) mc ms (va_A [(x, .inr (9, [.ref x_tape, .ref x_names, .ref x_terms, .ref x_reader, .ref x_unifier, .ref x_printer, .ref x_registers, .ref x_marked, .int x_marks, .int x_place])), (x_tape, .inr (0, [.ref x_tape_items, .int x_tape_size])), (x_terms, .inr (7, [.ref x_terms_shapes, .ref x_terms_values, .ref x_terms_firstParts, .int x_terms_nodes, .ref x_terms_parts, .ref x_terms_variableNames, .ref x_terms_became, .int x_terms_variables, .int x_terms_variablesLack, .int x_terms_symbols, .int x_terms_nodesBefore, .int x_terms_partsBefore, .int x_terms_variablesBefore])), (x_terms_became, .inl (cs 0, x_terms_became_n, .inl x_terms_became_f)), (x_printer, .inr (4, [.ref x_printer_names, .ref x_terms, .ref x_printer_result, .ref x_printer_draft, .ref x_printer_path, .ref x_printer_numbers, .int x_printer_numbered])), (x_printer_result, .inr (0, [.ref x_printer_result_items, .int x_printer_result_size])), (out, .inl (cs 2, out_n, .inr (.inl out_f)))] sz) := by
  refine va_MetW (cc := b_Law_count) (maxL := 4) (ret := (some .int)) (by decide) rfl ?_
  intro p e s m args below meth c s₁ B hml hv
  obtain ⟨rfl, hsz, hP, hK, hD0, hgl, hkn, hkr⟩ := hv
  have hx := B.exec
  have hb := B.bytes
  have hr := B.returns
  have hg : ∀ w ∈ GW, w.before ([.ref x, .int p0, .ref out] : List Value).toArray s = true := fun w hw => atoms_spec (ws := .codeWith y_Law_count b_Law_count 4 (some .int) [(0, 9, 12, 19)] :: GW) B.pre w (List.mem_cons_of_mem _ hw)
  have hown : s.vm.findClass R_Law = some m.cls := findClass_of_methodNamed B.named
  have hlocks := B.notSynchronized
  have hcd : (Cond.codeWith y_Law_count b_Law_count 4 (some .int) [(0, 9, 12, 19)]).before ([.ref x, .int p0, .ref out] : List Value).toArray s = true := atoms_spec (ws := .codeWith y_Law_count b_Law_count 4 (some .int) [(0, 9, 12, 19)] :: GW) B.pre _ List.mem_cons_self
  have hE := cw_hand B hcd
  subst hsz
  have hD := hD0.self (sz := s.heap.size)
  generalize hAe : va_A [(x, .inr (9, [.ref x_tape, .ref x_names, .ref x_terms, .ref x_reader, .ref x_unifier, .ref x_printer, .ref x_registers, .ref x_marked, .int x_marks, .int x_place])), (x_tape, .inr (0, [.ref x_tape_items, .int x_tape_size])), (x_terms, .inr (7, [.ref x_terms_shapes, .ref x_terms_values, .ref x_terms_firstParts, .int x_terms_nodes, .ref x_terms_parts, .ref x_terms_variableNames, .ref x_terms_became, .int x_terms_variables, .int x_terms_variablesLack, .int x_terms_symbols, .int x_terms_nodesBefore, .int x_terms_partsBefore, .int x_terms_variablesBefore])), (x_terms_became, .inl (cs 0, x_terms_became_n, .inl x_terms_became_f)), (x_printer, .inr (4, [.ref x_printer_names, .ref x_terms, .ref x_printer_result, .ref x_printer_draft, .ref x_printer_path, .ref x_printer_numbers, .int x_printer_numbered])), (x_printer_result, .inr (0, [.ref x_printer_result_items, .int x_printer_result_size])), (out, .inl (cs 2, out_n, .inr (.inl out_f)))] s.heap.size = A at hD hkn ⊢
  have hA : ∀ q : Nat, s.heap.size ≤ q → A q := fun q h => by rw [← hAe]; exact Or.inr h
  have hS : va_S A s.heap s.heap [] := va_S.rf
  have hP : va_P g classes [(x, .inr (9, [.ref x_tape, .ref x_names, .ref x_terms, .ref x_reader, .ref x_unifier, .ref x_printer, .ref x_registers, .ref x_marked, .int x_marks, .int x_place])), (x_tape, .inr (0, [.ref x_tape_items, .int x_tape_size])), (x_terms, .inr (7, [.ref x_terms_shapes, .ref x_terms_values, .ref x_terms_firstParts, .int x_terms_nodes, .ref x_terms_parts, .ref x_terms_variableNames, .ref x_terms_became, .int x_terms_variables, .int x_terms_variablesLack, .int x_terms_symbols, .int x_terms_nodesBefore, .int x_terms_partsBefore, .int x_terms_variablesBefore])), (x_terms_became, .inl (cs 0, x_terms_became_n, .inl x_terms_became_f)), (x_printer, .inr (4, [.ref x_printer_names, .ref x_terms, .ref x_printer_result, .ref x_printer_draft, .ref x_printer_path, .ref x_printer_numbers, .int x_printer_numbered])), (x_printer_result, .inr (0, [.ref x_printer_result_items, .int x_printer_result_size])), (out, .inl (cs 2, out_n, .inr (.inl out_f)))] s.heap := hP
  have hl := lv_entry ([.ref x, .int p0, .ref out]) (n := 4) (Nat.le_of_ble_eq_true rfl)
  rw [lg_entry_eq]
  generalize (lg_sl ([.ref x, .int p0, .ref out]) ++ List.replicate (4 - (lg_sl ([.ref x, .int p0, .ref out])).length) Slot.unset).toArray = ls at hl ⊢
  have hl : lv_has ls 4 [(0, .ref x), (1, .int p0), (2, .ref out)] := hl
  refine gq (fun Q hQ => ?_)
  obtain ⟨H, hH⟩ : ∃ H : Heap, H = s.heap := ⟨_, rfl⟩
  rw [← hH] at hP
  have hS : va_S A s.heap H [] := by rw [hH]; exact hS
  refine W.eqH hH ?_
  obtain ⟨locs, hlc⟩ : ∃ L : List Loc, L = [] := ⟨_, rfl⟩
  rw [← hlc] at hS ⊢
  unfold p_Law_count at hok
  refine lv_aload_n hx hb d_Law_count_0 rfl (lv_at hl 2 rfl) ?_
  refine lv_iconst (v := 0) hx hb d_Law_count_1 (by decide) ?_
  refine lv_aload_n hx hb d_Law_count_2 rfl (lv_at hl 0 rfl) ?_
  refine lv_iload_n hx hb d_Law_count_3 rfl (lv_at hl 1 rfl) ?_
  obtain ⟨⟨⟨xc1, r1⟩, mk1, sk1⟩, hc1, hok⟩ := bd_some hok
  dsimp only at hok
  obtain ⟨m1, s1, hok, hmc1, hms1⟩ := al_some hok
  obtain ⟨hPc, hDc, hFc⟩ := cut0 (wc := [(x, .inr (9, [.ref x_tape, .ref x_names, .ref x_terms, .ref x_reader, .ref x_unifier, .ref x_printer, .ref x_registers, .ref x_marked, .int x_marks, .int x_place])), (x_tape, .inr (0, [.ref x_tape_items, .int x_tape_size])), (x_terms, .inr (7, [.ref x_terms_shapes, .ref x_terms_values, .ref x_terms_firstParts, .int x_terms_nodes, .ref x_terms_parts, .ref x_terms_variableNames, .ref x_terms_became, .int x_terms_variables, .int x_terms_variablesLack, .int x_terms_symbols, .int x_terms_nodesBefore, .int x_terms_partsBefore, .int x_terms_variablesBefore])), (x_terms_became, .inl (cs 0, x_terms_became_n, .inl x_terms_became_f)), (x_printer, .inr (4, [.ref x_printer_names, .ref x_terms, .ref x_printer_result, .ref x_printer_draft, .ref x_printer_path, .ref x_printer_numbers, .int x_printer_numbered])), (x_printer_result, .inr (0, [.ref x_printer_result_items, .int x_printer_result_size]))]) hP hD hS hA [0, 1, 2, 3, 4, 5] (by decide) rfl
  refine cw_call (A1 := va_A [(x, .inr (9, [.ref x_tape, .ref x_names, .ref x_terms, .ref x_reader, .ref x_unifier, .ref x_printer, .ref x_registers, .ref x_marked, .int x_marks, .int x_place])), (x_tape, .inr (0, [.ref x_tape_items, .int x_tape_size])), (x_terms, .inr (7, [.ref x_terms_shapes, .ref x_terms_values, .ref x_terms_firstParts, .int x_terms_nodes, .ref x_terms_parts, .ref x_terms_variableNames, .ref x_terms_became, .int x_terms_variables, .int x_terms_variablesLack, .int x_terms_symbols, .int x_terms_nodesBefore, .int x_terms_partsBefore, .int x_terms_variablesBefore])), (x_terms_became, .inl (cs 0, x_terms_became_n, .inl x_terms_became_f)), (x_printer, .inr (4, [.ref x_printer_names, .ref x_terms, .ref x_printer_result, .ref x_printer_draft, .ref x_printer_path, .ref x_printer_numbers, .int x_printer_numbered])), (x_printer_result, .inr (0, [.ref x_printer_result_items, .int x_printer_result_size]))] H.size) (tx_runV (As := [.int p0]) (rest := [.int 0, .ref out]) ⟨hx, hb, hml, hown, hg⟩ (c_UB_count l g cs ka hfl x_names x_reader x_unifier x_registers x_marked x_tape_items x_terms_shapes x_terms_values x_terms_firstParts x_terms_parts x_terms_variableNames x_printer_names x_printer_draft x_printer_path x_printer_numbers x_printer_result_items x x_tape x_terms x_terms_became x_printer x_printer_result H.size n p0 x_marks x_place x_tape_size x_terms_nodes x_terms_variables x_terms_variablesLack x_terms_symbols x_terms_nodesBefore x_terms_partsBefore x_terms_variablesBefore x_terms_became_n x_terms_became_f x_printer_numbered x_printer_result_size xc1 r1 mk1 sk1 hc1) (cwV (C := R_UB) 1 hg (gw_V wd_1164 wd_1165 wd_1166 wd_632 wd_1163) rfl rfl rfl (by decide +kernel) ⟨Nat.le_of_ble_eq_true rfl, Nat.le_of_ble_eq_true rfl⟩) ⟨gP_blind, va_recv (q0 := 0) (ci := 9) (q := (R_UB, F_UB, 10)) hK hP rfl rfl, gP_pre hPc hDc hK hgl hkn hkr hS hFc⟩ rfl rfl hl.1 rfl (lv_room (Nat.le_of_ble_eq_true rfl)) d_Law_count_4 ⟨show 0 + mk1 ≤ mc from by omega, show 0 + sk1 ≤ ms from by omega⟩) hS (fun st o t h0 hq => hq.2) (fun q _ h => hFc q h) hFc (fun v1 st₀ t H locs h0 ht hW hB hz1 hk1 hS => ?_) (fun x1 st₀ t H locs h0 ht hW hB hz1 hk1 hS => ?_)
  · obtain ⟨⟨hO, hB⟩, -⟩ := hB
    obtain ⟨hx1, hv1⟩ := hO.ret
    subst hv1
    rw [if_pos hx1] at hok
    rw [ht] at hB
    obtain ⟨hP1, hD1⟩ := hB
    obtain ⟨hP, hD⟩ := jn_A hP hD [0, 1, 2, 3, 4, 5] [6] rfl rfl (by decide) (by decide) hk1 hFc hP1 hD1
    obtain ⟨hP, hD⟩ : PD g A H [(out, .inl (cs 2, out_n, .inr (.inl out_f))), (x, .inr (9, [.ref x_tape, .ref x_names, .ref x_terms, .ref x_reader, .ref x_unifier, .ref x_printer, .ref x_registers, .ref x_marked, .int x_marks, .int x_place])), (x_tape, .inr (0, [.ref x_tape_items, .int x_tape_size])), (x_terms, .inr (7, [.ref x_terms_shapes, .ref x_terms_values, .ref x_terms_firstParts, .int x_terms_nodes, .ref x_terms_parts, .ref x_terms_variableNames, .ref x_terms_became, .int x_terms_variables, .int x_terms_variablesLack, .int x_terms_symbols, .int x_terms_nodesBefore, .int x_terms_partsBefore, .int x_terms_variablesBefore])), (x_terms_became, .inl (cs 0, x_terms_became_n, .inl x_terms_became_f)), (x_printer, .inr (4, [.ref x_printer_names, .ref x_terms, .ref x_printer_result, .ref x_printer_draft, .ref x_printer_path, .ref x_printer_numbers, .int x_printer_numbered])), (x_printer_result, .inr (0, [.ref x_printer_result_items, .int x_printer_result_size]))] := ⟨hP, hD⟩
    refine W.eq (g2 := F0 m 7 ls [.int r1, .int 0, .ref out]) rfl ?_
    refine lv_i2l hx hb d_Law_count_7 rfl ?_
    obtain ⟨hi2, hok⟩ := ck_some hok
    refine va_last hx hb hK hP hD hS 0 2 rfl rfl (ixb_in hi2) d_Law_count_8 (fun H locs hP hD hS => ?_)
    obtain ⟨hP, hD⟩ : PD g A H [(out, .inl (cs 2, out_n, .inr (.inl (vp_updL out_f (0 : Int32).toNatClampNeg r1.toInt64)))), (x, .inr (9, [.ref x_tape, .ref x_names, .ref x_terms, .ref x_reader, .ref x_unifier, .ref x_printer, .ref x_registers, .ref x_marked, .int x_marks, .int x_place])), (x_tape, .inr (0, [.ref x_tape_items, .int x_tape_size])), (x_terms, .inr (7, [.ref x_terms_shapes, .ref x_terms_values, .ref x_terms_firstParts, .int x_terms_nodes, .ref x_terms_parts, .ref x_terms_variableNames, .ref x_terms_became, .int x_terms_variables, .int x_terms_variablesLack, .int x_terms_symbols, .int x_terms_nodesBefore, .int x_terms_partsBefore, .int x_terms_variablesBefore])), (x_terms_became, .inl (cs 0, x_terms_became_n, .inl x_terms_became_f)), (x_printer, .inr (4, [.ref x_printer_names, .ref x_terms, .ref x_printer_result, .ref x_printer_draft, .ref x_printer_path, .ref x_printer_numbers, .int x_printer_numbered])), (x_printer_result, .inr (0, [.ref x_printer_result_items, .int x_printer_result_size]))] := ⟨hP, hD⟩
    refine lv_goto hx hb d_Law_count_9 rfl ?_
    refine lv_iconst (v := 0) hx hb d_Law_count_15 (by decide) ?_
    obtain ⟨hq, hw⟩ := Prod.mk.inj (Option.some.inj hok)
    obtain ⟨hmc0, hms0⟩ := Prod.mk.inj hw
    obtain ⟨hq0, hq⟩ := Prod.mk.inj hq
    have hq1 := hq
    subst hq0
    subst hq1
    obtain ⟨hP9, hD9⟩ := sub2 (ws' := [(x, .inr (9, [.ref x_tape, .ref x_names, .ref x_terms, .ref x_reader, .ref x_unifier, .ref x_printer, .ref x_registers, .ref x_marked, .int x_marks, .int x_place])), (x_tape, .inr (0, [.ref x_tape_items, .int x_tape_size])), (x_terms, .inr (7, [.ref x_terms_shapes, .ref x_terms_values, .ref x_terms_firstParts, .int x_terms_nodes, .ref x_terms_parts, .ref x_terms_variableNames, .ref x_terms_became, .int x_terms_variables, .int x_terms_variablesLack, .int x_terms_symbols, .int x_terms_nodesBefore, .int x_terms_partsBefore, .int x_terms_variablesBefore])), (x_terms_became, .inl (cs 0, x_terms_became_n, .inl x_terms_became_f)), (x_printer, .inr (4, [.ref x_printer_names, .ref x_terms, .ref x_printer_result, .ref x_printer_draft, .ref x_printer_path, .ref x_printer_numbers, .int x_printer_numbered])), (x_printer_result, .inr (0, [.ref x_printer_result_items, .int x_printer_result_size])), (out, .inl (cs 2, out_n, .inr (.inl (vp_updL out_f (0 : Int32).toNatClampNeg r1.toInt64))))]) hP hD [1, 2, 3, 4, 5, 6, 0] rfl (by decide) rfl
    refine W.widen (k := mc) (n := ms) (by omega) (by omega) ?_
    rw [hQ]
    exact W.iret (v := 0) hx hb hr (fun t ht hW => ⟨⟨_, (), rfl, rfl, by rw [ht]; exact hP9, hD9⟩, hS.F ht⟩) hS.2.2 d_Law_count_16
  · obtain ⟨⟨hO, hB⟩, -⟩ := hB
    obtain ⟨hx1, hX⟩ := hO.thr
    rw [if_neg hx1] at hok
    rw [ht] at hB
    obtain ⟨hP1, hD1⟩ := hB
    obtain ⟨hP, hD⟩ := jn_A hP hD [0, 1, 2, 3, 4, 5] [6] rfl rfl (by decide) (by decide) hk1 hFc hP1 hD1
    obtain ⟨hP, hD⟩ : PD g A H [(out, .inl (cs 2, out_n, .inr (.inl out_f))), (x, .inr (9, [.ref x_tape, .ref x_names, .ref x_terms, .ref x_reader, .ref x_unifier, .ref x_printer, .ref x_registers, .ref x_marked, .int x_marks, .int x_place])), (x_tape, .inr (0, [.ref x_tape_items, .int x_tape_size])), (x_terms, .inr (7, [.ref x_terms_shapes, .ref x_terms_values, .ref x_terms_firstParts, .int x_terms_nodes, .ref x_terms_parts, .ref x_terms_variableNames, .ref x_terms_became, .int x_terms_variables, .int x_terms_variablesLack, .int x_terms_symbols, .int x_terms_nodesBefore, .int x_terms_partsBefore, .int x_terms_variablesBefore])), (x_terms_became, .inl (cs 0, x_terms_became_n, .inl x_terms_became_f)), (x_printer, .inr (4, [.ref x_printer_names, .ref x_terms, .ref x_printer_result, .ref x_printer_draft, .ref x_printer_path, .ref x_printer_numbers, .int x_printer_numbered])), (x_printer_result, .inr (0, [.ref x_printer_result_items, .int x_printer_result_size]))] := ⟨hP, hD⟩
    by_cases hy1_1 : xc1 = 1
    · rw [if_pos hy1_1] at hok
      subst hy1_1
      obtain ⟨ce, cX, e1, e2, e3, e4, -⟩ := hX
      have e2 : s.vm.findClass "java/lang/IllegalArgumentException" = some cX := by rw [← hW.alike.findClass]; exact e2
      obtain ⟨k0, hk0⟩ := Vm.classAt_of_findClass e2
      refine cw_caught (h := 12) rfl hE (by rw [← ht]; exact e1) e4 (by rw [e3]; exact hk0) (fun hpl => Or.inr ⟨by show (0 : Nat) ≤ 4 ∧ (4 : Nat) < 9; decide, by show (19 : Nat) ≠ 0; decide, cw_hit hown (hg _ wd_1131) (va_Nw.use rfl (hgl _ wd_1132)) e2 e3 hpl rfl⟩) ?_
      refine W.eq (g2 := F0 m 12 ls [.ref x1]) rfl ?_
      refine lv_astore_n hx hb d_Law_count_12 rfl hl (by decide) rfl (fun ls hl => ?_)
      have hl : lv_has ls 4 [(3, .ref x1), (0, .ref x), (1, .int p0), (2, .ref out)] := hl
      refine lv_iconst (v := 1) hx hb d_Law_count_13 (by decide) ?_
      obtain ⟨hq, hw⟩ := Prod.mk.inj (Option.some.inj hok)
      obtain ⟨hmc0, hms0⟩ := Prod.mk.inj hw
      obtain ⟨hq0, hq⟩ := Prod.mk.inj hq
      have hq1 := hq
      subst hq0
      subst hq1
      obtain ⟨hP9, hD9⟩ := sub2 (ws' := [(x, .inr (9, [.ref x_tape, .ref x_names, .ref x_terms, .ref x_reader, .ref x_unifier, .ref x_printer, .ref x_registers, .ref x_marked, .int x_marks, .int x_place])), (x_tape, .inr (0, [.ref x_tape_items, .int x_tape_size])), (x_terms, .inr (7, [.ref x_terms_shapes, .ref x_terms_values, .ref x_terms_firstParts, .int x_terms_nodes, .ref x_terms_parts, .ref x_terms_variableNames, .ref x_terms_became, .int x_terms_variables, .int x_terms_variablesLack, .int x_terms_symbols, .int x_terms_nodesBefore, .int x_terms_partsBefore, .int x_terms_variablesBefore])), (x_terms_became, .inl (cs 0, x_terms_became_n, .inl x_terms_became_f)), (x_printer, .inr (4, [.ref x_printer_names, .ref x_terms, .ref x_printer_result, .ref x_printer_draft, .ref x_printer_path, .ref x_printer_numbers, .int x_printer_numbered])), (x_printer_result, .inr (0, [.ref x_printer_result_items, .int x_printer_result_size])), (out, .inl (cs 2, out_n, .inr (.inl out_f)))]) hP hD [1, 2, 3, 4, 5, 6, 0] rfl (by decide) rfl
      refine W.widen (k := mc) (n := ms) (by omega) (by omega) ?_
      rw [hQ]
      exact W.iret (v := 1) hx hb hr (fun t ht hW => ⟨⟨_, (), rfl, rfl, by rw [ht]; exact hP9, hD9⟩, hS.F ht⟩) hS.2.2 d_Law_count_14
    · rw [if_neg hy1_1] at hok
      cases hok

theorem d_Law_read_0 : decode b_Law_read 0 = .ok (.aload_n 2, 1) := by decide +kernel
theorem d_Law_read_1 : decode b_Law_read 1 = .ok (.iconst 0, 1) := by decide +kernel
theorem d_Law_read_2 : decode b_Law_read 2 = .ok (.aload_n 0, 1) := by decide +kernel
theorem d_Law_read_3 : decode b_Law_read 3 = .ok (.iload_n 1, 1) := by decide +kernel
theorem d_Law_read_4 : decode b_Law_read 4 = .ok (.invokevirtual 21, 3) := by decide +kernel
theorem d_Law_read_7 : decode b_Law_read 7 = .ok (.i2l, 1) := by decide +kernel
theorem d_Law_read_8 : decode b_Law_read 8 = .ok (.lastore, 1) := by decide +kernel
theorem d_Law_read_9 : decode b_Law_read 9 = .ok (.goto 12, 3) := by decide +kernel
theorem d_Law_read_12 : decode b_Law_read 12 = .ok (.astore_n 3, 1) := by decide +kernel
theorem d_Law_read_13 : decode b_Law_read 13 = .ok (.iconst 1, 1) := by decide +kernel
theorem d_Law_read_14 : decode b_Law_read 14 = .ok (.ireturn, 1) := by decide +kernel
theorem d_Law_read_15 : decode b_Law_read 15 = .ok (.astore_n 3, 1) := by decide +kernel
theorem d_Law_read_16 : decode b_Law_read 16 = .ok (.iconst 2, 1) := by decide +kernel
theorem d_Law_read_17 : decode b_Law_read 17 = .ok (.ireturn, 1) := by decide +kernel
theorem d_Law_read_18 : decode b_Law_read 18 = .ok (.astore_n 3, 1) := by decide +kernel
theorem d_Law_read_19 : decode b_Law_read 19 = .ok (.iconst 3, 1) := by decide +kernel
theorem d_Law_read_20 : decode b_Law_read 20 = .ok (.ireturn, 1) := by decide +kernel
theorem d_Law_read_21 : decode b_Law_read 21 = .ok (.iconst 0, 1) := by decide +kernel
theorem d_Law_read_22 : decode b_Law_read 22 = .ok (.ireturn, 1) := by decide +kernel
def p_Law_read (n : Nat) (p0 : Int32) (x_marks : Int32) (x_place : Int32) (x_tape_size : Int32) (x_tape_items_n : Nat) (x_tape_items_f : Nat → Int32) (x_names_textsSize : Int32) (x_names_sizeBefore : Int32) (x_names_texts_n : Nat) (x_names_texts_f : Nat → Int32) (x_names_ends_size : Int32) (x_names_ends_items_n : Nat) (x_names_ends_items_f : Nat → Int32) (x_names_older_size : Int32) (x_names_older_items_n : Nat) (x_names_older_items_f : Nat → Int32) (x_names_newest_n : Nat) (x_names_newest_f : Nat → Int32) (x_terms_nodes : Int32) (x_terms_variables : Int32) (x_terms_variablesLack : Int32) (x_terms_symbols : Int32) (x_terms_nodesBefore : Int32) (x_terms_partsBefore : Int32) (x_terms_variablesBefore : Int32) (x_terms_shapes_n : Nat) (x_terms_shapes_f : Nat → Int32) (x_terms_values_n : Nat) (x_terms_values_f : Nat → Int64) (x_terms_firstParts_n : Nat) (x_terms_firstParts_f : Nat → Int32) (x_terms_parts_size : Int32) (x_terms_parts_items_n : Nat) (x_terms_parts_items_f : Nat → Int32) (x_terms_variableNames_n : Nat) (x_terms_variableNames_f : Nat → Int32) (x_reader_depth : Int32) (x_reader_state : Int32) (x_reader_nextMost : Int32) (x_reader_lastName : Int32) (x_reader_lastBehind : Int32) (x_reader_symbols : Int32) (x_reader_first : Int32) (x_reader_broken : Int32) (x_reader_tooMuch : Int32) (x_reader_signs_kind : Int32) (x_reader_signs_place : Int32) (x_reader_signs_behind : Int32) (x_reader_signs_passed : Int32) (x_reader_signs_name : Int32) (x_reader_signs_number : Int64) (x_reader_open_n : Nat) (x_reader_open_most : Nat → Int32) (x_reader_open_level : Nat → Int32) (x_reader_open_awaits : Nat → Int32) (x_reader_open_name : Nat → Int32) (x_reader_open_nameLevel : Nat → Int32) (x_reader_open_parts : Nat → Int32) (x_reader_values_size : Int32) (x_reader_values_items_n : Nat) (x_reader_values_items_f : Nat → Int32) (x_registers_n : Nat) (x_registers_f : Nat → Int32) (out_n : Nat) (out_f : Nat → Int64) : Option ((Int32 × Int32 × Int32 × Int32 × Int32 × Nat × (Nat → Int32) × Int32 × Nat × (Nat → Int32) × Int32 × Nat × (Nat → Int32) × (Nat → Int32) × Int32 × Int32 × Int32 × Int32 × Int32 × Int32 × Int32 × Nat × (Nat → Int32) × Nat × (Nat → Int64) × Nat × (Nat → Int32) × Int32 × Nat × (Nat → Int32) × (Nat → Int32) × Int32 × Int32 × Int32 × Int32 × Int32 × Int32 × Int32 × Int32 × Int32 × Int32 × Int32 × Int32 × Int32 × Int32 × Int64 × (Nat → Int32) × (Nat → Int32) × (Nat → Int32) × (Nat → Int32) × (Nat → Int32) × (Nat → Int32) × Int32 × Nat × (Nat → Int32) × (Nat → Int32) × (Nat → Int64)) × Nat × Nat) := (p_UB_read n p0 x_marks x_place x_tape_size x_tape_items_n x_tape_items_f x_names_textsSize x_names_sizeBefore x_names_texts_n x_names_texts_f x_names_ends_size x_names_ends_items_n x_names_ends_items_f x_names_older_size x_names_older_items_n x_names_older_items_f x_names_newest_n x_names_newest_f x_terms_nodes x_terms_variables x_terms_variablesLack x_terms_symbols x_terms_nodesBefore x_terms_partsBefore x_terms_variablesBefore x_terms_shapes_n x_terms_shapes_f x_terms_values_n x_terms_values_f x_terms_firstParts_n x_terms_firstParts_f x_terms_parts_size x_terms_parts_items_n x_terms_parts_items_f x_terms_variableNames_n x_terms_variableNames_f x_reader_depth x_reader_state x_reader_nextMost x_reader_lastName x_reader_lastBehind x_reader_symbols x_reader_first x_reader_broken x_reader_tooMuch x_reader_signs_kind x_reader_signs_place x_reader_signs_behind x_reader_signs_passed x_reader_signs_name x_reader_signs_number x_reader_open_n x_reader_open_most x_reader_open_level x_reader_open_awaits x_reader_open_name x_reader_open_nameLevel x_reader_open_parts x_reader_values_size x_reader_values_items_n x_reader_values_items_f x_registers_n x_registers_f).bind (fun ((xc1, r1, a_place_1, a_tape_size_1, a_names_textsSize_1, a_names_sizeBefore_1, a_names_texts_n_1, a_names_texts_f_1, a_names_ends_size_1, a_names_ends_items_n_1, a_names_ends_items_f_1, a_names_older_size_1, a_names_older_items_n_1, a_names_older_items_f_1, a_names_newest_f_1, a_terms_nodes_1, a_terms_variables_1, a_terms_variablesLack_1, a_terms_symbols_1, a_terms_nodesBefore_1, a_terms_partsBefore_1, a_terms_variablesBefore_1, a_terms_shapes_n_1, a_terms_shapes_f_1, a_terms_values_n_1, a_terms_values_f_1, a_terms_firstParts_n_1, a_terms_firstParts_f_1, a_terms_parts_size_1, a_terms_parts_items_n_1, a_terms_parts_items_f_1, a_terms_variableNames_f_1, a_reader_depth_1, a_reader_state_1, a_reader_nextMost_1, a_reader_lastName_1, a_reader_lastBehind_1, a_reader_symbols_1, a_reader_first_1, a_reader_broken_1, a_reader_tooMuch_1, a_reader_signs_kind_1, a_reader_signs_place_1, a_reader_signs_behind_1, a_reader_signs_passed_1, a_reader_signs_name_1, a_reader_signs_number_1, a_reader_open_most_1, a_reader_open_level_1, a_reader_open_awaits_1, a_reader_open_name_1, a_reader_open_nameLevel_1, a_reader_open_parts_1, a_reader_values_size_1, a_reader_values_items_n_1, a_reader_values_items_f_1, a_registers_f_1), mk1, sk1) => al mk1 sk1 (if xc1 = 0 then (ck (ixb 0 out_n) (some (((0 : Int32), a_place_1, a_tape_size_1, a_names_textsSize_1, a_names_sizeBefore_1, a_names_texts_n_1, a_names_texts_f_1, a_names_ends_size_1, a_names_ends_items_n_1, a_names_ends_items_f_1, a_names_older_size_1, a_names_older_items_n_1, a_names_older_items_f_1, a_names_newest_f_1, a_terms_nodes_1, a_terms_variables_1, a_terms_variablesLack_1, a_terms_symbols_1, a_terms_nodesBefore_1, a_terms_partsBefore_1, a_terms_variablesBefore_1, a_terms_shapes_n_1, a_terms_shapes_f_1, a_terms_values_n_1, a_terms_values_f_1, a_terms_firstParts_n_1, a_terms_firstParts_f_1, a_terms_parts_size_1, a_terms_parts_items_n_1, a_terms_parts_items_f_1, a_terms_variableNames_f_1, a_reader_depth_1, a_reader_state_1, a_reader_nextMost_1, a_reader_lastName_1, a_reader_lastBehind_1, a_reader_symbols_1, a_reader_first_1, a_reader_broken_1, a_reader_tooMuch_1, a_reader_signs_kind_1, a_reader_signs_place_1, a_reader_signs_behind_1, a_reader_signs_passed_1, a_reader_signs_name_1, a_reader_signs_number_1, a_reader_open_most_1, a_reader_open_level_1, a_reader_open_awaits_1, a_reader_open_name_1, a_reader_open_nameLevel_1, a_reader_open_parts_1, a_reader_values_size_1, a_reader_values_items_n_1, a_reader_values_items_f_1, a_registers_f_1, vp_updL out_f (0 : Int32).toNatClampNeg r1.toInt64), 0, 0))) else (if xc1 = 1 then (some (((1 : Int32), a_place_1, a_tape_size_1, a_names_textsSize_1, a_names_sizeBefore_1, a_names_texts_n_1, a_names_texts_f_1, a_names_ends_size_1, a_names_ends_items_n_1, a_names_ends_items_f_1, a_names_older_size_1, a_names_older_items_n_1, a_names_older_items_f_1, a_names_newest_f_1, a_terms_nodes_1, a_terms_variables_1, a_terms_variablesLack_1, a_terms_symbols_1, a_terms_nodesBefore_1, a_terms_partsBefore_1, a_terms_variablesBefore_1, a_terms_shapes_n_1, a_terms_shapes_f_1, a_terms_values_n_1, a_terms_values_f_1, a_terms_firstParts_n_1, a_terms_firstParts_f_1, a_terms_parts_size_1, a_terms_parts_items_n_1, a_terms_parts_items_f_1, a_terms_variableNames_f_1, a_reader_depth_1, a_reader_state_1, a_reader_nextMost_1, a_reader_lastName_1, a_reader_lastBehind_1, a_reader_symbols_1, a_reader_first_1, a_reader_broken_1, a_reader_tooMuch_1, a_reader_signs_kind_1, a_reader_signs_place_1, a_reader_signs_behind_1, a_reader_signs_passed_1, a_reader_signs_name_1, a_reader_signs_number_1, a_reader_open_most_1, a_reader_open_level_1, a_reader_open_awaits_1, a_reader_open_name_1, a_reader_open_nameLevel_1, a_reader_open_parts_1, a_reader_values_size_1, a_reader_values_items_n_1, a_reader_values_items_f_1, a_registers_f_1, out_f), 0, 0)) else (if xc1 = 2 then (some (((2 : Int32), a_place_1, a_tape_size_1, a_names_textsSize_1, a_names_sizeBefore_1, a_names_texts_n_1, a_names_texts_f_1, a_names_ends_size_1, a_names_ends_items_n_1, a_names_ends_items_f_1, a_names_older_size_1, a_names_older_items_n_1, a_names_older_items_f_1, a_names_newest_f_1, a_terms_nodes_1, a_terms_variables_1, a_terms_variablesLack_1, a_terms_symbols_1, a_terms_nodesBefore_1, a_terms_partsBefore_1, a_terms_variablesBefore_1, a_terms_shapes_n_1, a_terms_shapes_f_1, a_terms_values_n_1, a_terms_values_f_1, a_terms_firstParts_n_1, a_terms_firstParts_f_1, a_terms_parts_size_1, a_terms_parts_items_n_1, a_terms_parts_items_f_1, a_terms_variableNames_f_1, a_reader_depth_1, a_reader_state_1, a_reader_nextMost_1, a_reader_lastName_1, a_reader_lastBehind_1, a_reader_symbols_1, a_reader_first_1, a_reader_broken_1, a_reader_tooMuch_1, a_reader_signs_kind_1, a_reader_signs_place_1, a_reader_signs_behind_1, a_reader_signs_passed_1, a_reader_signs_name_1, a_reader_signs_number_1, a_reader_open_most_1, a_reader_open_level_1, a_reader_open_awaits_1, a_reader_open_name_1, a_reader_open_nameLevel_1, a_reader_open_parts_1, a_reader_values_size_1, a_reader_values_items_n_1, a_reader_values_items_f_1, a_registers_f_1, out_f), 0, 0)) else (if xc1 = 3 then (some (((3 : Int32), a_place_1, a_tape_size_1, a_names_textsSize_1, a_names_sizeBefore_1, a_names_texts_n_1, a_names_texts_f_1, a_names_ends_size_1, a_names_ends_items_n_1, a_names_ends_items_f_1, a_names_older_size_1, a_names_older_items_n_1, a_names_older_items_f_1, a_names_newest_f_1, a_terms_nodes_1, a_terms_variables_1, a_terms_variablesLack_1, a_terms_symbols_1, a_terms_nodesBefore_1, a_terms_partsBefore_1, a_terms_variablesBefore_1, a_terms_shapes_n_1, a_terms_shapes_f_1, a_terms_values_n_1, a_terms_values_f_1, a_terms_firstParts_n_1, a_terms_firstParts_f_1, a_terms_parts_size_1, a_terms_parts_items_n_1, a_terms_parts_items_f_1, a_terms_variableNames_f_1, a_reader_depth_1, a_reader_state_1, a_reader_nextMost_1, a_reader_lastName_1, a_reader_lastBehind_1, a_reader_symbols_1, a_reader_first_1, a_reader_broken_1, a_reader_tooMuch_1, a_reader_signs_kind_1, a_reader_signs_place_1, a_reader_signs_behind_1, a_reader_signs_passed_1, a_reader_signs_name_1, a_reader_signs_number_1, a_reader_open_most_1, a_reader_open_level_1, a_reader_open_awaits_1, a_reader_open_name_1, a_reader_open_nameLevel_1, a_reader_open_parts_1, a_reader_values_size_1, a_reader_values_items_n_1, a_reader_values_items_f_1, a_registers_f_1, out_f), 0, 0)) else (none))))))
set_option maxHeartbeats 40000000 in
set_option maxRecDepth 100000 in
theorem c_Law_read (l : Launch) (g : va_G) (cs : Nat → ClassId) (ka : Nat → Nat) (hfl : l.flags = pinnedFlags ++ [noTraceFlag]) (x_unifier : Nat) (x_printer : Nat) (x_marked : Nat) (x_terms_became : Nat) (x x_tape x_tape_items x_names x_names_texts x_names_ends x_names_ends_items x_names_older x_names_older_items x_names_newest x_terms x_terms_shapes x_terms_values x_terms_firstParts x_terms_parts x_terms_parts_items x_terms_variableNames x_reader x_reader_signs x_reader_open x_reader_values x_reader_values_items x_registers out : Nat) (x_reader_open_ad : Nat → Nat) (sz : Nat) (n : Nat) (p0 : Int32) (x_marks : Int32) (x_place : Int32) (x_tape_size : Int32) (x_tape_items_n : Nat) (x_tape_items_f : Nat → Int32) (x_names_textsSize : Int32) (x_names_sizeBefore : Int32) (x_names_texts_n : Nat) (x_names_texts_f : Nat → Int32) (x_names_ends_size : Int32) (x_names_ends_items_n : Nat) (x_names_ends_items_f : Nat → Int32) (x_names_older_size : Int32) (x_names_older_items_n : Nat) (x_names_older_items_f : Nat → Int32) (x_names_newest_n : Nat) (x_names_newest_f : Nat → Int32) (x_terms_nodes : Int32) (x_terms_variables : Int32) (x_terms_variablesLack : Int32) (x_terms_symbols : Int32) (x_terms_nodesBefore : Int32) (x_terms_partsBefore : Int32) (x_terms_variablesBefore : Int32) (x_terms_shapes_n : Nat) (x_terms_shapes_f : Nat → Int32) (x_terms_values_n : Nat) (x_terms_values_f : Nat → Int64) (x_terms_firstParts_n : Nat) (x_terms_firstParts_f : Nat → Int32) (x_terms_parts_size : Int32) (x_terms_parts_items_n : Nat) (x_terms_parts_items_f : Nat → Int32) (x_terms_variableNames_n : Nat) (x_terms_variableNames_f : Nat → Int32) (x_reader_depth : Int32) (x_reader_state : Int32) (x_reader_nextMost : Int32) (x_reader_lastName : Int32) (x_reader_lastBehind : Int32) (x_reader_symbols : Int32) (x_reader_first : Int32) (x_reader_broken : Int32) (x_reader_tooMuch : Int32) (x_reader_signs_kind : Int32) (x_reader_signs_place : Int32) (x_reader_signs_behind : Int32) (x_reader_signs_passed : Int32) (x_reader_signs_name : Int32) (x_reader_signs_number : Int64) (x_reader_open_n : Nat) (x_reader_open_most : Nat → Int32) (x_reader_open_level : Nat → Int32) (x_reader_open_awaits : Nat → Int32) (x_reader_open_name : Nat → Int32) (x_reader_open_nameLevel : Nat → Int32) (x_reader_open_parts : Nat → Int32) (x_reader_values_size : Int32) (x_reader_values_items_n : Nat) (x_reader_values_items_f : Nat → Int32) (x_registers_n : Nat) (x_registers_f : Nat → Int32) (out_n : Nat) (out_f : Nat → Int64) (r : Int32) (o_x_place : Int32) (o_x_tape_size : Int32) (o_x_names_textsSize : Int32) (o_x_names_sizeBefore : Int32) (o_x_names_texts_n : Nat) (o_x_names_texts_f : Nat → Int32) (o_x_names_ends_size : Int32) (o_x_names_ends_items_n : Nat) (o_x_names_ends_items_f : Nat → Int32) (o_x_names_older_size : Int32) (o_x_names_older_items_n : Nat) (o_x_names_older_items_f : Nat → Int32) (o_x_names_newest_f : Nat → Int32) (o_x_terms_nodes : Int32) (o_x_terms_variables : Int32) (o_x_terms_variablesLack : Int32) (o_x_terms_symbols : Int32) (o_x_terms_nodesBefore : Int32) (o_x_terms_partsBefore : Int32) (o_x_terms_variablesBefore : Int32) (o_x_terms_shapes_n : Nat) (o_x_terms_shapes_f : Nat → Int32) (o_x_terms_values_n : Nat) (o_x_terms_values_f : Nat → Int64) (o_x_terms_firstParts_n : Nat) (o_x_terms_firstParts_f : Nat → Int32) (o_x_terms_parts_size : Int32) (o_x_terms_parts_items_n : Nat) (o_x_terms_parts_items_f : Nat → Int32) (o_x_terms_variableNames_f : Nat → Int32) (o_x_reader_depth : Int32) (o_x_reader_state : Int32) (o_x_reader_nextMost : Int32) (o_x_reader_lastName : Int32) (o_x_reader_lastBehind : Int32) (o_x_reader_symbols : Int32) (o_x_reader_first : Int32) (o_x_reader_broken : Int32) (o_x_reader_tooMuch : Int32) (o_x_reader_signs_kind : Int32) (o_x_reader_signs_place : Int32) (o_x_reader_signs_behind : Int32) (o_x_reader_signs_passed : Int32) (o_x_reader_signs_name : Int32) (o_x_reader_signs_number : Int64) (o_x_reader_open_most : Nat → Int32) (o_x_reader_open_level : Nat → Int32) (o_x_reader_open_awaits : Nat → Int32) (o_x_reader_open_name : Nat → Int32) (o_x_reader_open_nameLevel : Nat → Int32) (o_x_reader_open_parts : Nat → Int32) (o_x_reader_values_size : Int32) (o_x_reader_values_items_n : Nat) (o_x_reader_values_items_f : Nat → Int32) (o_x_registers_f : Nat → Int32) (o_out_f : Nat → Int64) (mc ms : Nat) (hok : p_Law_read n p0 x_marks x_place x_tape_size x_tape_items_n x_tape_items_f x_names_textsSize x_names_sizeBefore x_names_texts_n x_names_texts_f x_names_ends_size x_names_ends_items_n x_names_ends_items_f x_names_older_size x_names_older_items_n x_names_older_items_f x_names_newest_n x_names_newest_f x_terms_nodes x_terms_variables x_terms_variablesLack x_terms_symbols x_terms_nodesBefore x_terms_partsBefore x_terms_variablesBefore x_terms_shapes_n x_terms_shapes_f x_terms_values_n x_terms_values_f x_terms_firstParts_n x_terms_firstParts_f x_terms_parts_size x_terms_parts_items_n x_terms_parts_items_f x_terms_variableNames_n x_terms_variableNames_f x_reader_depth x_reader_state x_reader_nextMost x_reader_lastName x_reader_lastBehind x_reader_symbols x_reader_first x_reader_broken x_reader_tooMuch x_reader_signs_kind x_reader_signs_place x_reader_signs_behind x_reader_signs_passed x_reader_signs_name x_reader_signs_number x_reader_open_n x_reader_open_most x_reader_open_level x_reader_open_awaits x_reader_open_name x_reader_open_nameLevel x_reader_open_parts x_reader_values_size x_reader_values_items_n x_reader_values_items_f x_registers_n x_registers_f out_n out_f = some ((r, o_x_place, o_x_tape_size, o_x_names_textsSize, o_x_names_sizeBefore, o_x_names_texts_n, o_x_names_texts_f, o_x_names_ends_size, o_x_names_ends_items_n, o_x_names_ends_items_f, o_x_names_older_size, o_x_names_older_items_n, o_x_names_older_items_f, o_x_names_newest_f, o_x_terms_nodes, o_x_terms_variables, o_x_terms_variablesLack, o_x_terms_symbols, o_x_terms_nodesBefore, o_x_terms_partsBefore, o_x_terms_variablesBefore, o_x_terms_shapes_n, o_x_terms_shapes_f, o_x_terms_values_n, o_x_terms_values_f, o_x_terms_firstParts_n, o_x_terms_firstParts_f, o_x_terms_parts_size, o_x_terms_parts_items_n, o_x_terms_parts_items_f, o_x_terms_variableNames_f, o_x_reader_depth, o_x_reader_state, o_x_reader_nextMost, o_x_reader_lastName, o_x_reader_lastBehind, o_x_reader_symbols, o_x_reader_first, o_x_reader_broken, o_x_reader_tooMuch, o_x_reader_signs_kind, o_x_reader_signs_place, o_x_reader_signs_behind, o_x_reader_signs_passed, o_x_reader_signs_name, o_x_reader_signs_number, o_x_reader_open_most, o_x_reader_open_level, o_x_reader_open_awaits, o_x_reader_open_name, o_x_reader_open_nameLevel, o_x_reader_open_parts, o_x_reader_values_size, o_x_reader_values_items_n, o_x_reader_values_items_f, o_x_registers_f, o_out_f), mc, ms)) : Met l y_Law_read (.codeWith y_Law_read b_Law_read 4 (some .int) [(0, 9, 12, 19), (0, 9, 15, 24), (0, 9, 18, 13)] :: GW) { frames := 9, cells := mc, slots := ms, locals := 278 } (va_Pc [.ref x, .int p0, .ref out] (gP g cs ka (([(x, .inr (9, [.ref x_tape, .ref x_names, .ref x_terms, .ref x_reader, .ref x_unifier, .ref x_printer, .ref x_registers, .ref x_marked, .int x_marks, .int x_place])), (x_tape, .inr (0, [.ref x_tape_items, .int x_tape_size])), (x_tape_items, .inl (cs 1, x_tape_items_n, .inl x_tape_items_f)), (x_names, .inr (2, [.ref x_names_texts, .int x_names_textsSize, .ref x_names_ends, .ref x_names_older, .ref x_names_newest, .int x_names_sizeBefore])), (x_names_texts, .inl (cs 1, x_names_texts_n, .inl x_names_texts_f)), (x_names_ends, .inr (1, [.ref x_names_ends_items, .int x_names_ends_size])), (x_names_ends_items, .inl (cs 0, x_names_ends_items_n, .inl x_names_ends_items_f)), (x_names_older, .inr (1, [.ref x_names_older_items, .int x_names_older_size])), (x_names_older_items, .inl (cs 0, x_names_older_items_n, .inl x_names_older_items_f)), (x_names_newest, .inl (cs 0, x_names_newest_n, .inl x_names_newest_f)), (x_terms, .inr (7, [.ref x_terms_shapes, .ref x_terms_values, .ref x_terms_firstParts, .int x_terms_nodes, .ref x_terms_parts, .ref x_terms_variableNames, .ref x_terms_became, .int x_terms_variables, .int x_terms_variablesLack, .int x_terms_symbols, .int x_terms_nodesBefore, .int x_terms_partsBefore, .int x_terms_variablesBefore])), (x_terms_shapes, .inl (cs 0, x_terms_shapes_n, .inl x_terms_shapes_f)), (x_terms_values, .inl (cs 2, x_terms_values_n, .inr (.inl x_terms_values_f))), (x_terms_firstParts, .inl (cs 0, x_terms_firstParts_n, .inl x_terms_firstParts_f)), (x_terms_parts, .inr (1, [.ref x_terms_parts_items, .int x_terms_parts_size])), (x_terms_parts_items, .inl (cs 0, x_terms_parts_items_n, .inl x_terms_parts_items_f)), (x_terms_variableNames, .inl (cs 0, x_terms_variableNames_n, .inl x_terms_variableNames_f)), (x_reader, .inr (5, [.ref x_reader_signs, .ref x_names, .ref x_terms, .ref x_reader_open, .int x_reader_depth, .int x_reader_state, .int x_reader_nextMost, .int x_reader_lastName, .int x_reader_lastBehind, .ref x_reader_values, .int x_reader_symbols, .int x_reader_first, .int x_reader_broken, .int x_reader_tooMuch])), (x_reader_signs, .inr (6, [.ref x_tape, .ref x_names, .int x_reader_signs_kind, .int x_reader_signs_place, .int x_reader_signs_behind, .int x_reader_signs_passed, .int x_reader_signs_name, .long x_reader_signs_number])), (x_reader_open, .inl (cs 3, x_reader_open_n, .inr (.inr (.inr (.inr (pg x_reader_open_ad x_reader_open_n)))))), (x_reader_values, .inr (1, [.ref x_reader_values_items, .int x_reader_values_size])), (x_reader_values_items, .inl (cs 0, x_reader_values_items_n, .inl x_reader_values_items_f)), (x_registers, .inl (cs 0, x_registers_n, .inl x_registers_f)), (out, .inl (cs 2, out_n, .inr (.inl out_f)))] : va_W) ++ po x_reader_open_ad (eo x_reader_open_most x_reader_open_level x_reader_open_awaits x_reader_open_name x_reader_open_nameLevel x_reader_open_parts) x_reader_open_n) sz)) (va_Qi (fun (r' : Int32) (_ : Unit) => r = r') (fun _ t => ∃ b_x_names_texts b_x_names_ends_items b_x_names_older_items b_x_terms_shapes b_x_terms_values b_x_terms_firstParts b_x_terms_parts_items b_x_reader_values_items : Nat, va_P g classes (([(x, .inr (9, [.ref x_tape, .ref x_names, .ref x_terms, .ref x_reader, .ref x_unifier, .ref x_printer, .ref x_registers, .ref x_marked, .int x_marks, .int o_x_place])), (x_tape, .inr (0, [.ref x_tape_items, .int o_x_tape_size])), (x_tape_items, .inl (cs 1, x_tape_items_n, .inl x_tape_items_f)), (x_names, .inr (2, [.ref b_x_names_texts, .int o_x_names_textsSize, .ref x_names_ends, .ref x_names_older, .ref x_names_newest, .int o_x_names_sizeBefore])), (b_x_names_texts, .inl (cs 1, o_x_names_texts_n, .inl o_x_names_texts_f)), (x_names_ends, .inr (1, [.ref b_x_names_ends_items, .int o_x_names_ends_size])), (b_x_names_ends_items, .inl (cs 0, o_x_names_ends_items_n, .inl o_x_names_ends_items_f)), (x_names_older, .inr (1, [.ref b_x_names_older_items, .int o_x_names_older_size])), (b_x_names_older_items, .inl (cs 0, o_x_names_older_items_n, .inl o_x_names_older_items_f)), (x_names_newest, .inl (cs 0, x_names_newest_n, .inl o_x_names_newest_f)), (x_terms, .inr (7, [.ref b_x_terms_shapes, .ref b_x_terms_values, .ref b_x_terms_firstParts, .int o_x_terms_nodes, .ref x_terms_parts, .ref x_terms_variableNames, .ref x_terms_became, .int o_x_terms_variables, .int o_x_terms_variablesLack, .int o_x_terms_symbols, .int o_x_terms_nodesBefore, .int o_x_terms_partsBefore, .int o_x_terms_variablesBefore])), (b_x_terms_shapes, .inl (cs 0, o_x_terms_shapes_n, .inl o_x_terms_shapes_f)), (b_x_terms_values, .inl (cs 2, o_x_terms_values_n, .inr (.inl o_x_terms_values_f))), (b_x_terms_firstParts, .inl (cs 0, o_x_terms_firstParts_n, .inl o_x_terms_firstParts_f)), (x_terms_parts, .inr (1, [.ref b_x_terms_parts_items, .int o_x_terms_parts_size])), (b_x_terms_parts_items, .inl (cs 0, o_x_terms_parts_items_n, .inl o_x_terms_parts_items_f)), (x_terms_variableNames, .inl (cs 0, x_terms_variableNames_n, .inl o_x_terms_variableNames_f)), (x_reader, .inr (5, [.ref x_reader_signs, .ref x_names, .ref x_terms, .ref x_reader_open, .int o_x_reader_depth, .int o_x_reader_state, .int o_x_reader_nextMost, .int o_x_reader_lastName, .int o_x_reader_lastBehind, .ref x_reader_values, .int o_x_reader_symbols, .int o_x_reader_first, .int o_x_reader_broken, .int o_x_reader_tooMuch])), (x_reader_signs, .inr (6, [.ref x_tape, .ref x_names, .int o_x_reader_signs_kind, .int o_x_reader_signs_place, .int o_x_reader_signs_behind, .int o_x_reader_signs_passed, .int o_x_reader_signs_name, .long o_x_reader_signs_number])), (x_reader_open, .inl (cs 3, x_reader_open_n, .inr (.inr (.inr (.inr (pg x_reader_open_ad x_reader_open_n)))))), (x_reader_values, .inr (1, [.ref b_x_reader_values_items, .int o_x_reader_values_size])), (b_x_reader_values_items, .inl (cs 0, o_x_reader_values_items_n, .inl o_x_reader_values_items_f)), (x_registers, .inl (cs 0, x_registers_n, .inl o_x_registers_f)), (out, .inl (cs 2, out_n, .inr (.inl o_out_f)))] : va_W) ++ po x_reader_open_ad (eo o_x_reader_open_most o_x_reader_open_level o_x_reader_open_awaits o_x_reader_open_name o_x_reader_open_nameLevel o_x_reader_open_parts) x_reader_open_n) t.heap ∧ va_D (va_A (([(x, .inr (9, [.ref x_tape, .ref x_names, .ref x_terms, .ref x_reader, .ref x_unifier, .ref x_printer, .ref x_registers, .ref x_marked, .int x_marks, .int x_place])), (x_tape, .inr (0, [.ref x_tape_items, .int x_tape_size])), (x_tape_items, .inl (cs 1, x_tape_items_n, .inl x_tape_items_f)), (x_names, .inr (2, [.ref x_names_texts, .int x_names_textsSize, .ref x_names_ends, .ref x_names_older, .ref x_names_newest, .int x_names_sizeBefore])), (x_names_texts, .inl (cs 1, x_names_texts_n, .inl x_names_texts_f)), (x_names_ends, .inr (1, [.ref x_names_ends_items, .int x_names_ends_size])), (x_names_ends_items, .inl (cs 0, x_names_ends_items_n, .inl x_names_ends_items_f)), (x_names_older, .inr (1, [.ref x_names_older_items, .int x_names_older_size])), (x_names_older_items, .inl (cs 0, x_names_older_items_n, .inl x_names_older_items_f)), (x_names_newest, .inl (cs 0, x_names_newest_n, .inl x_names_newest_f)), (x_terms, .inr (7, [.ref x_terms_shapes, .ref x_terms_values, .ref x_terms_firstParts, .int x_terms_nodes, .ref x_terms_parts, .ref x_terms_variableNames, .ref x_terms_became, .int x_terms_variables, .int x_terms_variablesLack, .int x_terms_symbols, .int x_terms_nodesBefore, .int x_terms_partsBefore, .int x_terms_variablesBefore])), (x_terms_shapes, .inl (cs 0, x_terms_shapes_n, .inl x_terms_shapes_f)), (x_terms_values, .inl (cs 2, x_terms_values_n, .inr (.inl x_terms_values_f))), (x_terms_firstParts, .inl (cs 0, x_terms_firstParts_n, .inl x_terms_firstParts_f)), (x_terms_parts, .inr (1, [.ref x_terms_parts_items, .int x_terms_parts_size])), (x_terms_parts_items, .inl (cs 0, x_terms_parts_items_n, .inl x_terms_parts_items_f)), (x_terms_variableNames, .inl (cs 0, x_terms_variableNames_n, .inl x_terms_variableNames_f)), (x_reader, .inr (5, [.ref x_reader_signs, .ref x_names, .ref x_terms, .ref x_reader_open, .int x_reader_depth, .int x_reader_state, .int x_reader_nextMost, .int x_reader_lastName, .int x_reader_lastBehind, .ref x_reader_values, .int x_reader_symbols, .int x_reader_first, .int x_reader_broken, .int x_reader_tooMuch])), (x_reader_signs, .inr (6, [.ref x_tape, .ref x_names, .int x_reader_signs_kind, .int x_reader_signs_place, .int x_reader_signs_behind, .int x_reader_signs_passed, .int x_reader_signs_name, .long x_reader_signs_number])), (x_reader_open, .inl (cs 3, x_reader_open_n, .inr (.inr (.inr (.inr (pg x_reader_open_ad x_reader_open_n)))))), (x_reader_values, .inr (1, [.ref x_reader_values_items, .int x_reader_values_size])), (x_reader_values_items, .inl (cs 0, x_reader_values_items_n, .inl x_reader_values_items_f)), (x_registers, .inl (cs 0, x_registers_n, .inl x_registers_f)), (out, .inl (cs 2, out_n, .inr (.inl out_f)))] : va_W) ++ po x_reader_open_ad (eo x_reader_open_most x_reader_open_level x_reader_open_awaits x_reader_open_name x_reader_open_nameLevel x_reader_open_parts) x_reader_open_n) sz) (([(x, .inr (9, [.ref x_tape, .ref x_names, .ref x_terms, .ref x_reader, .ref x_unifier, .ref x_printer, .ref x_registers, .ref x_marked, .int x_marks, .int o_x_place])), (x_tape, .inr (0, [.ref x_tape_items, .int o_x_tape_size])), (x_tape_items, .inl (cs 1, x_tape_items_n, .inl x_tape_items_f)), (x_names, .inr (2, [.ref b_x_names_texts, .int o_x_names_textsSize, .ref x_names_ends, .ref x_names_older, .ref x_names_newest, .int o_x_names_sizeBefore])), (b_x_names_texts, .inl (cs 1, o_x_names_texts_n, .inl o_x_names_texts_f)), (x_names_ends, .inr (1, [.ref b_x_names_ends_items, .int o_x_names_ends_size])), (b_x_names_ends_items, .inl (cs 0, o_x_names_ends_items_n, .inl o_x_names_ends_items_f)), (x_names_older, .inr (1, [.ref b_x_names_older_items, .int o_x_names_older_size])), (b_x_names_older_items, .inl (cs 0, o_x_names_older_items_n, .inl o_x_names_older_items_f)), (x_names_newest, .inl (cs 0, x_names_newest_n, .inl o_x_names_newest_f)), (x_terms, .inr (7, [.ref b_x_terms_shapes, .ref b_x_terms_values, .ref b_x_terms_firstParts, .int o_x_terms_nodes, .ref x_terms_parts, .ref x_terms_variableNames, .ref x_terms_became, .int o_x_terms_variables, .int o_x_terms_variablesLack, .int o_x_terms_symbols, .int o_x_terms_nodesBefore, .int o_x_terms_partsBefore, .int o_x_terms_variablesBefore])), (b_x_terms_shapes, .inl (cs 0, o_x_terms_shapes_n, .inl o_x_terms_shapes_f)), (b_x_terms_values, .inl (cs 2, o_x_terms_values_n, .inr (.inl o_x_terms_values_f))), (b_x_terms_firstParts, .inl (cs 0, o_x_terms_firstParts_n, .inl o_x_terms_firstParts_f)), (x_terms_parts, .inr (1, [.ref b_x_terms_parts_items, .int o_x_terms_parts_size])), (b_x_terms_parts_items, .inl (cs 0, o_x_terms_parts_items_n, .inl o_x_terms_parts_items_f)), (x_terms_variableNames, .inl (cs 0, x_terms_variableNames_n, .inl o_x_terms_variableNames_f)), (x_reader, .inr (5, [.ref x_reader_signs, .ref x_names, .ref x_terms, .ref x_reader_open, .int o_x_reader_depth, .int o_x_reader_state, .int o_x_reader_nextMost, .int o_x_reader_lastName, .int o_x_reader_lastBehind, .ref x_reader_values, .int o_x_reader_symbols, .int o_x_reader_first, .int o_x_reader_broken, .int o_x_reader_tooMuch])), (x_reader_signs, .inr (6, [.ref x_tape, .ref x_names, .int o_x_reader_signs_kind, .int o_x_reader_signs_place, .int o_x_reader_signs_behind, .int o_x_reader_signs_passed, .int o_x_reader_signs_name, .long o_x_reader_signs_number])), (x_reader_open, .inl (cs 3, x_reader_open_n, .inr (.inr (.inr (.inr (pg x_reader_open_ad x_reader_open_n)))))), (x_reader_values, .inr (1, [.ref b_x_reader_values_items, .int o_x_reader_values_size])), (b_x_reader_values_items, .inl (cs 0, o_x_reader_values_items_n, .inl o_x_reader_values_items_f)), (x_registers, .inl (cs 0, x_registers_n, .inl o_x_registers_f)), (out, .inl (cs 2, out_n, .inr (.inl o_out_f)))] : va_W) ++ po x_reader_open_ad (eo o_x_reader_open_most o_x_reader_open_level o_x_reader_open_awaits o_x_reader_open_name o_x_reader_open_nameLevel o_x_reader_open_parts) x_reader_open_n)) (va_A (([(x, .inr (9, [.ref x_tape, .ref x_names, .ref x_terms, .ref x_reader, .ref x_unifier, .ref x_printer, .ref x_registers, .ref x_marked, .int x_marks, .int x_place])), (x_tape, .inr (0, [.ref x_tape_items, .int x_tape_size])), (x_tape_items, .inl (cs 1, x_tape_items_n, .inl x_tape_items_f)), (x_names, .inr (2, [.ref x_names_texts, .int x_names_textsSize, .ref x_names_ends, .ref x_names_older, .ref x_names_newest, .int x_names_sizeBefore])), (x_names_texts, .inl (cs 1, x_names_texts_n, .inl x_names_texts_f)), (x_names_ends, .inr (1, [.ref x_names_ends_items, .int x_names_ends_size])), (x_names_ends_items, .inl (cs 0, x_names_ends_items_n, .inl x_names_ends_items_f)), (x_names_older, .inr (1, [.ref x_names_older_items, .int x_names_older_size])), (x_names_older_items, .inl (cs 0, x_names_older_items_n, .inl x_names_older_items_f)), (x_names_newest, .inl (cs 0, x_names_newest_n, .inl x_names_newest_f)), (x_terms, .inr (7, [.ref x_terms_shapes, .ref x_terms_values, .ref x_terms_firstParts, .int x_terms_nodes, .ref x_terms_parts, .ref x_terms_variableNames, .ref x_terms_became, .int x_terms_variables, .int x_terms_variablesLack, .int x_terms_symbols, .int x_terms_nodesBefore, .int x_terms_partsBefore, .int x_terms_variablesBefore])), (x_terms_shapes, .inl (cs 0, x_terms_shapes_n, .inl x_terms_shapes_f)), (x_terms_values, .inl (cs 2, x_terms_values_n, .inr (.inl x_terms_values_f))), (x_terms_firstParts, .inl (cs 0, x_terms_firstParts_n, .inl x_terms_firstParts_f)), (x_terms_parts, .inr (1, [.ref x_terms_parts_items, .int x_terms_parts_size])), (x_terms_parts_items, .inl (cs 0, x_terms_parts_items_n, .inl x_terms_parts_items_f)), (x_terms_variableNames, .inl (cs 0, x_terms_variableNames_n, .inl x_terms_variableNames_f)), (x_reader, .inr (5, [.ref x_reader_signs, .ref x_names, .ref x_terms, .ref x_reader_open, .int x_reader_depth, .int x_reader_state, .int x_reader_nextMost, .int x_reader_lastName, .int x_reader_lastBehind, .ref x_reader_values, .int x_reader_symbols, .int x_reader_first, .int x_reader_broken, .int x_reader_tooMuch])), (x_reader_signs, .inr (6, [.ref x_tape, .ref x_names, .int x_reader_signs_kind, .int x_reader_signs_place, .int x_reader_signs_behind, .int x_reader_signs_passed, .int x_reader_signs_name, .long x_reader_signs_number])), (x_reader_open, .inl (cs 3, x_reader_open_n, .inr (.inr (.inr (.inr (pg x_reader_open_ad x_reader_open_n)))))), (x_reader_values, .inr (1, [.ref x_reader_values_items, .int x_reader_values_size])), (x_reader_values_items, .inl (cs 0, x_reader_values_items_n, .inl x_reader_values_items_f)), (x_registers, .inl (cs 0, x_registers_n, .inl x_registers_f)), (out, .inl (cs 2, out_n, .inr (.inl out_f)))] : va_W) ++ po x_reader_open_ad (eo x_reader_open_most x_reader_open_level x_reader_open_awaits x_reader_open_name x_reader_open_nameLevel x_reader_open_parts) x_reader_open_n) sz)) mc ms (va_A (([(x, .inr (9, [.ref x_tape, .ref x_names, .ref x_terms, .ref x_reader, .ref x_unifier, .ref x_printer, .ref x_registers, .ref x_marked, .int x_marks, .int x_place])), (x_tape, .inr (0, [.ref x_tape_items, .int x_tape_size])), (x_tape_items, .inl (cs 1, x_tape_items_n, .inl x_tape_items_f)), (x_names, .inr (2, [.ref x_names_texts, .int x_names_textsSize, .ref x_names_ends, .ref x_names_older, .ref x_names_newest, .int x_names_sizeBefore])), (x_names_texts, .inl (cs 1, x_names_texts_n, .inl x_names_texts_f)), (x_names_ends, .inr (1, [.ref x_names_ends_items, .int x_names_ends_size])), (x_names_ends_items, .inl (cs 0, x_names_ends_items_n, .inl x_names_ends_items_f)), (x_names_older, .inr (1, [.ref x_names_older_items, .int x_names_older_size])), (x_names_older_items, .inl (cs 0, x_names_older_items_n, .inl x_names_older_items_f)), (x_names_newest, .inl (cs 0, x_names_newest_n, .inl x_names_newest_f)), (x_terms, .inr (7, [.ref x_terms_shapes, .ref x_terms_values, .ref x_terms_firstParts, .int x_terms_nodes, .ref x_terms_parts, .ref x_terms_variableNames, .ref x_terms_became, .int x_terms_variables, .int x_terms_variablesLack, .int x_terms_symbols, .int x_terms_nodesBefore, .int x_terms_partsBefore, .int x_terms_variablesBefore])), (x_terms_shapes, .inl (cs 0, x_terms_shapes_n, .inl x_terms_shapes_f)), (x_terms_values, .inl (cs 2, x_terms_values_n, .inr (.inl x_terms_values_f))), (x_terms_firstParts, .inl (cs 0, x_terms_firstParts_n, .inl x_terms_firstParts_f)), (x_terms_parts, .inr (1, [.ref x_terms_parts_items, .int x_terms_parts_size])), (x_terms_parts_items, .inl (cs 0, x_terms_parts_items_n, .inl x_terms_parts_items_f)), (x_terms_variableNames, .inl (cs 0, x_terms_variableNames_n, .inl x_terms_variableNames_f)), (x_reader, .inr (5, [.ref x_reader_signs, .ref x_names, .ref x_terms, .ref x_reader_open, .int x_reader_depth, .int x_reader_state, .int x_reader_nextMost, .int x_reader_lastName, .int x_reader_lastBehind, .ref x_reader_values, .int x_reader_symbols, .int x_reader_first, .int x_reader_broken, .int x_reader_tooMuch])), (x_reader_signs, .inr (6, [.ref x_tape, .ref x_names, .int x_reader_signs_kind, .int x_reader_signs_place, .int x_reader_signs_behind, .int x_reader_signs_passed, .int x_reader_signs_name, .long x_reader_signs_number])), (x_reader_open, .inl (cs 3, x_reader_open_n, .inr (.inr (.inr (.inr (pg x_reader_open_ad x_reader_open_n)))))), (x_reader_values, .inr (1, [.ref x_reader_values_items, .int x_reader_values_size])), (x_reader_values_items, .inl (cs 0, x_reader_values_items_n, .inl x_reader_values_items_f)), (x_registers, .inl (cs 0, x_registers_n, .inl x_registers_f)), (out, .inl (cs 2, out_n, .inr (.inl out_f)))] : va_W) ++ po x_reader_open_ad (eo x_reader_open_most x_reader_open_level x_reader_open_awaits x_reader_open_name x_reader_open_nameLevel x_reader_open_parts) x_reader_open_n) sz) := by
  refine va_MetW (cc := b_Law_read) (maxL := 4) (ret := (some .int)) (by decide) rfl ?_
  intro p e s m args below meth c s₁ B hml hv
  obtain ⟨rfl, hsz, hP, hK, hD0, hgl, hkn, hkr⟩ := hv
  have hx := B.exec
  have hb := B.bytes
  have hr := B.returns
  have hg : ∀ w ∈ GW, w.before ([.ref x, .int p0, .ref out] : List Value).toArray s = true := fun w hw => atoms_spec (ws := .codeWith y_Law_read b_Law_read 4 (some .int) [(0, 9, 12, 19), (0, 9, 15, 24), (0, 9, 18, 13)] :: GW) B.pre w (List.mem_cons_of_mem _ hw)
  have hown : s.vm.findClass R_Law = some m.cls := findClass_of_methodNamed B.named
  have hlocks := B.notSynchronized
  have hcd : (Cond.codeWith y_Law_read b_Law_read 4 (some .int) [(0, 9, 12, 19), (0, 9, 15, 24), (0, 9, 18, 13)]).before ([.ref x, .int p0, .ref out] : List Value).toArray s = true := atoms_spec (ws := .codeWith y_Law_read b_Law_read 4 (some .int) [(0, 9, 12, 19), (0, 9, 15, 24), (0, 9, 18, 13)] :: GW) B.pre _ List.mem_cons_self
  have hE := cw_hand B hcd
  subst hsz
  have hD := hD0.self (sz := s.heap.size)
  generalize hAe : va_A (([(x, .inr (9, [.ref x_tape, .ref x_names, .ref x_terms, .ref x_reader, .ref x_unifier, .ref x_printer, .ref x_registers, .ref x_marked, .int x_marks, .int x_place])), (x_tape, .inr (0, [.ref x_tape_items, .int x_tape_size])), (x_tape_items, .inl (cs 1, x_tape_items_n, .inl x_tape_items_f)), (x_names, .inr (2, [.ref x_names_texts, .int x_names_textsSize, .ref x_names_ends, .ref x_names_older, .ref x_names_newest, .int x_names_sizeBefore])), (x_names_texts, .inl (cs 1, x_names_texts_n, .inl x_names_texts_f)), (x_names_ends, .inr (1, [.ref x_names_ends_items, .int x_names_ends_size])), (x_names_ends_items, .inl (cs 0, x_names_ends_items_n, .inl x_names_ends_items_f)), (x_names_older, .inr (1, [.ref x_names_older_items, .int x_names_older_size])), (x_names_older_items, .inl (cs 0, x_names_older_items_n, .inl x_names_older_items_f)), (x_names_newest, .inl (cs 0, x_names_newest_n, .inl x_names_newest_f)), (x_terms, .inr (7, [.ref x_terms_shapes, .ref x_terms_values, .ref x_terms_firstParts, .int x_terms_nodes, .ref x_terms_parts, .ref x_terms_variableNames, .ref x_terms_became, .int x_terms_variables, .int x_terms_variablesLack, .int x_terms_symbols, .int x_terms_nodesBefore, .int x_terms_partsBefore, .int x_terms_variablesBefore])), (x_terms_shapes, .inl (cs 0, x_terms_shapes_n, .inl x_terms_shapes_f)), (x_terms_values, .inl (cs 2, x_terms_values_n, .inr (.inl x_terms_values_f))), (x_terms_firstParts, .inl (cs 0, x_terms_firstParts_n, .inl x_terms_firstParts_f)), (x_terms_parts, .inr (1, [.ref x_terms_parts_items, .int x_terms_parts_size])), (x_terms_parts_items, .inl (cs 0, x_terms_parts_items_n, .inl x_terms_parts_items_f)), (x_terms_variableNames, .inl (cs 0, x_terms_variableNames_n, .inl x_terms_variableNames_f)), (x_reader, .inr (5, [.ref x_reader_signs, .ref x_names, .ref x_terms, .ref x_reader_open, .int x_reader_depth, .int x_reader_state, .int x_reader_nextMost, .int x_reader_lastName, .int x_reader_lastBehind, .ref x_reader_values, .int x_reader_symbols, .int x_reader_first, .int x_reader_broken, .int x_reader_tooMuch])), (x_reader_signs, .inr (6, [.ref x_tape, .ref x_names, .int x_reader_signs_kind, .int x_reader_signs_place, .int x_reader_signs_behind, .int x_reader_signs_passed, .int x_reader_signs_name, .long x_reader_signs_number])), (x_reader_open, .inl (cs 3, x_reader_open_n, .inr (.inr (.inr (.inr (pg x_reader_open_ad x_reader_open_n)))))), (x_reader_values, .inr (1, [.ref x_reader_values_items, .int x_reader_values_size])), (x_reader_values_items, .inl (cs 0, x_reader_values_items_n, .inl x_reader_values_items_f)), (x_registers, .inl (cs 0, x_registers_n, .inl x_registers_f)), (out, .inl (cs 2, out_n, .inr (.inl out_f)))] : va_W) ++ po x_reader_open_ad (eo x_reader_open_most x_reader_open_level x_reader_open_awaits x_reader_open_name x_reader_open_nameLevel x_reader_open_parts) x_reader_open_n) s.heap.size = A at hD hkn ⊢
  have hA : ∀ q : Nat, s.heap.size ≤ q → A q := fun q h => by rw [← hAe]; exact Or.inr h
  have hS : va_S A s.heap s.heap [] := va_S.rf
  have hP : va_P g classes (([(x, .inr (9, [.ref x_tape, .ref x_names, .ref x_terms, .ref x_reader, .ref x_unifier, .ref x_printer, .ref x_registers, .ref x_marked, .int x_marks, .int x_place])), (x_tape, .inr (0, [.ref x_tape_items, .int x_tape_size])), (x_tape_items, .inl (cs 1, x_tape_items_n, .inl x_tape_items_f)), (x_names, .inr (2, [.ref x_names_texts, .int x_names_textsSize, .ref x_names_ends, .ref x_names_older, .ref x_names_newest, .int x_names_sizeBefore])), (x_names_texts, .inl (cs 1, x_names_texts_n, .inl x_names_texts_f)), (x_names_ends, .inr (1, [.ref x_names_ends_items, .int x_names_ends_size])), (x_names_ends_items, .inl (cs 0, x_names_ends_items_n, .inl x_names_ends_items_f)), (x_names_older, .inr (1, [.ref x_names_older_items, .int x_names_older_size])), (x_names_older_items, .inl (cs 0, x_names_older_items_n, .inl x_names_older_items_f)), (x_names_newest, .inl (cs 0, x_names_newest_n, .inl x_names_newest_f)), (x_terms, .inr (7, [.ref x_terms_shapes, .ref x_terms_values, .ref x_terms_firstParts, .int x_terms_nodes, .ref x_terms_parts, .ref x_terms_variableNames, .ref x_terms_became, .int x_terms_variables, .int x_terms_variablesLack, .int x_terms_symbols, .int x_terms_nodesBefore, .int x_terms_partsBefore, .int x_terms_variablesBefore])), (x_terms_shapes, .inl (cs 0, x_terms_shapes_n, .inl x_terms_shapes_f)), (x_terms_values, .inl (cs 2, x_terms_values_n, .inr (.inl x_terms_values_f))), (x_terms_firstParts, .inl (cs 0, x_terms_firstParts_n, .inl x_terms_firstParts_f)), (x_terms_parts, .inr (1, [.ref x_terms_parts_items, .int x_terms_parts_size])), (x_terms_parts_items, .inl (cs 0, x_terms_parts_items_n, .inl x_terms_parts_items_f)), (x_terms_variableNames, .inl (cs 0, x_terms_variableNames_n, .inl x_terms_variableNames_f)), (x_reader, .inr (5, [.ref x_reader_signs, .ref x_names, .ref x_terms, .ref x_reader_open, .int x_reader_depth, .int x_reader_state, .int x_reader_nextMost, .int x_reader_lastName, .int x_reader_lastBehind, .ref x_reader_values, .int x_reader_symbols, .int x_reader_first, .int x_reader_broken, .int x_reader_tooMuch])), (x_reader_signs, .inr (6, [.ref x_tape, .ref x_names, .int x_reader_signs_kind, .int x_reader_signs_place, .int x_reader_signs_behind, .int x_reader_signs_passed, .int x_reader_signs_name, .long x_reader_signs_number])), (x_reader_open, .inl (cs 3, x_reader_open_n, .inr (.inr (.inr (.inr (pg x_reader_open_ad x_reader_open_n)))))), (x_reader_values, .inr (1, [.ref x_reader_values_items, .int x_reader_values_size])), (x_reader_values_items, .inl (cs 0, x_reader_values_items_n, .inl x_reader_values_items_f)), (x_registers, .inl (cs 0, x_registers_n, .inl x_registers_f)), (out, .inl (cs 2, out_n, .inr (.inl out_f)))] : va_W) ++ po x_reader_open_ad (eo x_reader_open_most x_reader_open_level x_reader_open_awaits x_reader_open_name x_reader_open_nameLevel x_reader_open_parts) x_reader_open_n) s.heap := hP
  have hl := lv_entry ([.ref x, .int p0, .ref out]) (n := 4) (Nat.le_of_ble_eq_true rfl)
  rw [lg_entry_eq]
  generalize (lg_sl ([.ref x, .int p0, .ref out]) ++ List.replicate (4 - (lg_sl ([.ref x, .int p0, .ref out])).length) Slot.unset).toArray = ls at hl ⊢
  have hl : lv_has ls 4 [(0, .ref x), (1, .int p0), (2, .ref out)] := hl
  refine gq (fun Q hQ => ?_)
  obtain ⟨H, hH⟩ : ∃ H : Heap, H = s.heap := ⟨_, rfl⟩
  rw [← hH] at hP
  have hS : va_S A s.heap H [] := by rw [hH]; exact hS
  refine W.eqH hH ?_
  obtain ⟨locs, hlc⟩ : ∃ L : List Loc, L = [] := ⟨_, rfl⟩
  rw [← hlc] at hS ⊢
  unfold p_Law_read at hok
  refine lv_aload_n hx hb d_Law_read_0 rfl (lv_at hl 2 rfl) ?_
  refine lv_iconst (v := 0) hx hb d_Law_read_1 (by decide) ?_
  refine lv_aload_n hx hb d_Law_read_2 rfl (lv_at hl 0 rfl) ?_
  refine lv_iload_n hx hb d_Law_read_3 rfl (lv_at hl 1 rfl) ?_
  obtain ⟨⟨⟨xc1, r1, a_place_1, a_tape_size_1, a_names_textsSize_1, a_names_sizeBefore_1, a_names_texts_n_1, a_names_texts_f_1, a_names_ends_size_1, a_names_ends_items_n_1, a_names_ends_items_f_1, a_names_older_size_1, a_names_older_items_n_1, a_names_older_items_f_1, a_names_newest_f_1, a_terms_nodes_1, a_terms_variables_1, a_terms_variablesLack_1, a_terms_symbols_1, a_terms_nodesBefore_1, a_terms_partsBefore_1, a_terms_variablesBefore_1, a_terms_shapes_n_1, a_terms_shapes_f_1, a_terms_values_n_1, a_terms_values_f_1, a_terms_firstParts_n_1, a_terms_firstParts_f_1, a_terms_parts_size_1, a_terms_parts_items_n_1, a_terms_parts_items_f_1, a_terms_variableNames_f_1, a_reader_depth_1, a_reader_state_1, a_reader_nextMost_1, a_reader_lastName_1, a_reader_lastBehind_1, a_reader_symbols_1, a_reader_first_1, a_reader_broken_1, a_reader_tooMuch_1, a_reader_signs_kind_1, a_reader_signs_place_1, a_reader_signs_behind_1, a_reader_signs_passed_1, a_reader_signs_name_1, a_reader_signs_number_1, a_reader_open_most_1, a_reader_open_level_1, a_reader_open_awaits_1, a_reader_open_name_1, a_reader_open_nameLevel_1, a_reader_open_parts_1, a_reader_values_size_1, a_reader_values_items_n_1, a_reader_values_items_f_1, a_registers_f_1⟩, mk1, sk1⟩, hc1, hok⟩ := bd_some hok
  dsimp only at hok
  obtain ⟨m1, s1, hok, hmc1, hms1⟩ := al_some hok
  obtain ⟨hPc, hDc, hFc⟩ := cutP (cx := [(x, .inr (9, [.ref x_tape, .ref x_names, .ref x_terms, .ref x_reader, .ref x_unifier, .ref x_printer, .ref x_registers, .ref x_marked, .int x_marks, .int x_place])), (x_tape, .inr (0, [.ref x_tape_items, .int x_tape_size])), (x_tape_items, .inl (cs 1, x_tape_items_n, .inl x_tape_items_f)), (x_names, .inr (2, [.ref x_names_texts, .int x_names_textsSize, .ref x_names_ends, .ref x_names_older, .ref x_names_newest, .int x_names_sizeBefore])), (x_names_texts, .inl (cs 1, x_names_texts_n, .inl x_names_texts_f)), (x_names_ends, .inr (1, [.ref x_names_ends_items, .int x_names_ends_size])), (x_names_ends_items, .inl (cs 0, x_names_ends_items_n, .inl x_names_ends_items_f)), (x_names_older, .inr (1, [.ref x_names_older_items, .int x_names_older_size])), (x_names_older_items, .inl (cs 0, x_names_older_items_n, .inl x_names_older_items_f)), (x_names_newest, .inl (cs 0, x_names_newest_n, .inl x_names_newest_f)), (x_terms, .inr (7, [.ref x_terms_shapes, .ref x_terms_values, .ref x_terms_firstParts, .int x_terms_nodes, .ref x_terms_parts, .ref x_terms_variableNames, .ref x_terms_became, .int x_terms_variables, .int x_terms_variablesLack, .int x_terms_symbols, .int x_terms_nodesBefore, .int x_terms_partsBefore, .int x_terms_variablesBefore])), (x_terms_shapes, .inl (cs 0, x_terms_shapes_n, .inl x_terms_shapes_f)), (x_terms_values, .inl (cs 2, x_terms_values_n, .inr (.inl x_terms_values_f))), (x_terms_firstParts, .inl (cs 0, x_terms_firstParts_n, .inl x_terms_firstParts_f)), (x_terms_parts, .inr (1, [.ref x_terms_parts_items, .int x_terms_parts_size])), (x_terms_parts_items, .inl (cs 0, x_terms_parts_items_n, .inl x_terms_parts_items_f)), (x_terms_variableNames, .inl (cs 0, x_terms_variableNames_n, .inl x_terms_variableNames_f)), (x_reader, .inr (5, [.ref x_reader_signs, .ref x_names, .ref x_terms, .ref x_reader_open, .int x_reader_depth, .int x_reader_state, .int x_reader_nextMost, .int x_reader_lastName, .int x_reader_lastBehind, .ref x_reader_values, .int x_reader_symbols, .int x_reader_first, .int x_reader_broken, .int x_reader_tooMuch])), (x_reader_signs, .inr (6, [.ref x_tape, .ref x_names, .int x_reader_signs_kind, .int x_reader_signs_place, .int x_reader_signs_behind, .int x_reader_signs_passed, .int x_reader_signs_name, .long x_reader_signs_number])), (x_reader_open, .inl (cs 3, x_reader_open_n, .inr (.inr (.inr (.inr (pg x_reader_open_ad x_reader_open_n)))))), (x_reader_values, .inr (1, [.ref x_reader_values_items, .int x_reader_values_size])), (x_reader_values_items, .inl (cs 0, x_reader_values_items_n, .inl x_reader_values_items_f)), (x_registers, .inl (cs 0, x_registers_n, .inl x_registers_f))]) hP hD hS hA [0, 1, 2, 3, 4, 5, 6, 7, 8, 9, 10, 11, 12, 13, 14, 15, 16, 17, 18, 19, 20, 21, 22] (by decide) rfl
  refine cw_call (A1 := va_A (([(x, .inr (9, [.ref x_tape, .ref x_names, .ref x_terms, .ref x_reader, .ref x_unifier, .ref x_printer, .ref x_registers, .ref x_marked, .int x_marks, .int x_place])), (x_tape, .inr (0, [.ref x_tape_items, .int x_tape_size])), (x_tape_items, .inl (cs 1, x_tape_items_n, .inl x_tape_items_f)), (x_names, .inr (2, [.ref x_names_texts, .int x_names_textsSize, .ref x_names_ends, .ref x_names_older, .ref x_names_newest, .int x_names_sizeBefore])), (x_names_texts, .inl (cs 1, x_names_texts_n, .inl x_names_texts_f)), (x_names_ends, .inr (1, [.ref x_names_ends_items, .int x_names_ends_size])), (x_names_ends_items, .inl (cs 0, x_names_ends_items_n, .inl x_names_ends_items_f)), (x_names_older, .inr (1, [.ref x_names_older_items, .int x_names_older_size])), (x_names_older_items, .inl (cs 0, x_names_older_items_n, .inl x_names_older_items_f)), (x_names_newest, .inl (cs 0, x_names_newest_n, .inl x_names_newest_f)), (x_terms, .inr (7, [.ref x_terms_shapes, .ref x_terms_values, .ref x_terms_firstParts, .int x_terms_nodes, .ref x_terms_parts, .ref x_terms_variableNames, .ref x_terms_became, .int x_terms_variables, .int x_terms_variablesLack, .int x_terms_symbols, .int x_terms_nodesBefore, .int x_terms_partsBefore, .int x_terms_variablesBefore])), (x_terms_shapes, .inl (cs 0, x_terms_shapes_n, .inl x_terms_shapes_f)), (x_terms_values, .inl (cs 2, x_terms_values_n, .inr (.inl x_terms_values_f))), (x_terms_firstParts, .inl (cs 0, x_terms_firstParts_n, .inl x_terms_firstParts_f)), (x_terms_parts, .inr (1, [.ref x_terms_parts_items, .int x_terms_parts_size])), (x_terms_parts_items, .inl (cs 0, x_terms_parts_items_n, .inl x_terms_parts_items_f)), (x_terms_variableNames, .inl (cs 0, x_terms_variableNames_n, .inl x_terms_variableNames_f)), (x_reader, .inr (5, [.ref x_reader_signs, .ref x_names, .ref x_terms, .ref x_reader_open, .int x_reader_depth, .int x_reader_state, .int x_reader_nextMost, .int x_reader_lastName, .int x_reader_lastBehind, .ref x_reader_values, .int x_reader_symbols, .int x_reader_first, .int x_reader_broken, .int x_reader_tooMuch])), (x_reader_signs, .inr (6, [.ref x_tape, .ref x_names, .int x_reader_signs_kind, .int x_reader_signs_place, .int x_reader_signs_behind, .int x_reader_signs_passed, .int x_reader_signs_name, .long x_reader_signs_number])), (x_reader_open, .inl (cs 3, x_reader_open_n, .inr (.inr (.inr (.inr (pg x_reader_open_ad x_reader_open_n)))))), (x_reader_values, .inr (1, [.ref x_reader_values_items, .int x_reader_values_size])), (x_reader_values_items, .inl (cs 0, x_reader_values_items_n, .inl x_reader_values_items_f)), (x_registers, .inl (cs 0, x_registers_n, .inl x_registers_f))] : va_W) ++ po x_reader_open_ad (eo x_reader_open_most x_reader_open_level x_reader_open_awaits x_reader_open_name x_reader_open_nameLevel x_reader_open_parts) x_reader_open_n) H.size) (tx_runV (As := [.int p0]) (rest := [.int 0, .ref out]) ⟨hx, hb, hml, hown, hg⟩ (c_UB_read l g cs ka hfl x_unifier x_printer x_marked x_terms_became x x_tape x_tape_items x_names x_names_texts x_names_ends x_names_ends_items x_names_older x_names_older_items x_names_newest x_terms x_terms_shapes x_terms_values x_terms_firstParts x_terms_parts x_terms_parts_items x_terms_variableNames x_reader x_reader_signs x_reader_open x_reader_values x_reader_values_items x_registers x_reader_open_ad H.size n p0 x_marks x_place x_tape_size x_tape_items_n x_tape_items_f x_names_textsSize x_names_sizeBefore x_names_texts_n x_names_texts_f x_names_ends_size x_names_ends_items_n x_names_ends_items_f x_names_older_size x_names_older_items_n x_names_older_items_f x_names_newest_n x_names_newest_f x_terms_nodes x_terms_variables x_terms_variablesLack x_terms_symbols x_terms_nodesBefore x_terms_partsBefore x_terms_variablesBefore x_terms_shapes_n x_terms_shapes_f x_terms_values_n x_terms_values_f x_terms_firstParts_n x_terms_firstParts_f x_terms_parts_size x_terms_parts_items_n x_terms_parts_items_f x_terms_variableNames_n x_terms_variableNames_f x_reader_depth x_reader_state x_reader_nextMost x_reader_lastName x_reader_lastBehind x_reader_symbols x_reader_first x_reader_broken x_reader_tooMuch x_reader_signs_kind x_reader_signs_place x_reader_signs_behind x_reader_signs_passed x_reader_signs_name x_reader_signs_number x_reader_open_n x_reader_open_most x_reader_open_level x_reader_open_awaits x_reader_open_name x_reader_open_nameLevel x_reader_open_parts x_reader_values_size x_reader_values_items_n x_reader_values_items_f x_registers_n x_registers_f xc1 r1 a_place_1 a_tape_size_1 a_names_textsSize_1 a_names_sizeBefore_1 a_names_texts_n_1 a_names_texts_f_1 a_names_ends_size_1 a_names_ends_items_n_1 a_names_ends_items_f_1 a_names_older_size_1 a_names_older_items_n_1 a_names_older_items_f_1 a_names_newest_f_1 a_terms_nodes_1 a_terms_variables_1 a_terms_variablesLack_1 a_terms_symbols_1 a_terms_nodesBefore_1 a_terms_partsBefore_1 a_terms_variablesBefore_1 a_terms_shapes_n_1 a_terms_shapes_f_1 a_terms_values_n_1 a_terms_values_f_1 a_terms_firstParts_n_1 a_terms_firstParts_f_1 a_terms_parts_size_1 a_terms_parts_items_n_1 a_terms_parts_items_f_1 a_terms_variableNames_f_1 a_reader_depth_1 a_reader_state_1 a_reader_nextMost_1 a_reader_lastName_1 a_reader_lastBehind_1 a_reader_symbols_1 a_reader_first_1 a_reader_broken_1 a_reader_tooMuch_1 a_reader_signs_kind_1 a_reader_signs_place_1 a_reader_signs_behind_1 a_reader_signs_passed_1 a_reader_signs_name_1 a_reader_signs_number_1 a_reader_open_most_1 a_reader_open_level_1 a_reader_open_awaits_1 a_reader_open_name_1 a_reader_open_nameLevel_1 a_reader_open_parts_1 a_reader_values_size_1 a_reader_values_items_n_1 a_reader_values_items_f_1 a_registers_f_1 mk1 sk1 hc1) (cwV (C := R_UB) 1 hg (gw_V wd_1168 wd_1169 wd_1170 wd_632 wd_1167) rfl rfl rfl (by decide +kernel) ⟨Nat.le_of_ble_eq_true rfl, Nat.le_of_ble_eq_true rfl⟩) ⟨gP_blind, va_recv (q0 := 0) (ci := 9) (q := (R_UB, F_UB, 10)) hK hP rfl rfl, gP_pre hPc hDc hK hgl hkn hkr hS hFc⟩ rfl rfl hl.1 rfl (lv_room (Nat.le_of_ble_eq_true rfl)) d_Law_read_4 ⟨show 0 + mk1 ≤ mc from by omega, show 0 + sk1 ≤ ms from by omega⟩) hS (fun st o t h0 hq => hq.2) (fun q _ h => hFc q h) hFc (fun v1 st₀ t H locs h0 ht hW hB hz1 hk1 hS => ?_) (fun x1 st₀ t H locs h0 ht hW hB hz1 hk1 hS => ?_)
  · obtain ⟨⟨hO, hB⟩, -⟩ := hB
    obtain ⟨hx1, hv1⟩ := hO.ret
    subst hv1
    rw [if_pos hx1] at hok
    rw [ht] at hB
    obtain ⟨a_names_texts_1, a_names_ends_items_1, a_names_older_items_1, a_terms_shapes_1, a_terms_values_1, a_terms_firstParts_1, a_terms_parts_items_1, a_reader_values_items_1, hP1, hD1⟩ := hB
    obtain ⟨hP, hD⟩ := jn_P hP hD [0, 1, 2, 3, 4, 5, 6, 7, 8, 9, 10, 11, 12, 13, 14, 15, 16, 17, 18, 19, 20, 21, 22] [23] rfl rfl (by decide) (by decide) hk1 hFc hP1 hD1
    obtain ⟨hP, hD⟩ : PD g A H (([(out, .inl (cs 2, out_n, .inr (.inl out_f))), (x, .inr (9, [.ref x_tape, .ref x_names, .ref x_terms, .ref x_reader, .ref x_unifier, .ref x_printer, .ref x_registers, .ref x_marked, .int x_marks, .int a_place_1])), (x_tape, .inr (0, [.ref x_tape_items, .int a_tape_size_1])), (x_tape_items, .inl (cs 1, x_tape_items_n, .inl x_tape_items_f)), (x_names, .inr (2, [.ref a_names_texts_1, .int a_names_textsSize_1, .ref x_names_ends, .ref x_names_older, .ref x_names_newest, .int a_names_sizeBefore_1])), (a_names_texts_1, .inl (cs 1, a_names_texts_n_1, .inl a_names_texts_f_1)), (x_names_ends, .inr (1, [.ref a_names_ends_items_1, .int a_names_ends_size_1])), (a_names_ends_items_1, .inl (cs 0, a_names_ends_items_n_1, .inl a_names_ends_items_f_1)), (x_names_older, .inr (1, [.ref a_names_older_items_1, .int a_names_older_size_1])), (a_names_older_items_1, .inl (cs 0, a_names_older_items_n_1, .inl a_names_older_items_f_1)), (x_names_newest, .inl (cs 0, x_names_newest_n, .inl a_names_newest_f_1)), (x_terms, .inr (7, [.ref a_terms_shapes_1, .ref a_terms_values_1, .ref a_terms_firstParts_1, .int a_terms_nodes_1, .ref x_terms_parts, .ref x_terms_variableNames, .ref x_terms_became, .int a_terms_variables_1, .int a_terms_variablesLack_1, .int a_terms_symbols_1, .int a_terms_nodesBefore_1, .int a_terms_partsBefore_1, .int a_terms_variablesBefore_1])), (a_terms_shapes_1, .inl (cs 0, a_terms_shapes_n_1, .inl a_terms_shapes_f_1)), (a_terms_values_1, .inl (cs 2, a_terms_values_n_1, .inr (.inl a_terms_values_f_1))), (a_terms_firstParts_1, .inl (cs 0, a_terms_firstParts_n_1, .inl a_terms_firstParts_f_1)), (x_terms_parts, .inr (1, [.ref a_terms_parts_items_1, .int a_terms_parts_size_1])), (a_terms_parts_items_1, .inl (cs 0, a_terms_parts_items_n_1, .inl a_terms_parts_items_f_1)), (x_terms_variableNames, .inl (cs 0, x_terms_variableNames_n, .inl a_terms_variableNames_f_1)), (x_reader, .inr (5, [.ref x_reader_signs, .ref x_names, .ref x_terms, .ref x_reader_open, .int a_reader_depth_1, .int a_reader_state_1, .int a_reader_nextMost_1, .int a_reader_lastName_1, .int a_reader_lastBehind_1, .ref x_reader_values, .int a_reader_symbols_1, .int a_reader_first_1, .int a_reader_broken_1, .int a_reader_tooMuch_1])), (x_reader_signs, .inr (6, [.ref x_tape, .ref x_names, .int a_reader_signs_kind_1, .int a_reader_signs_place_1, .int a_reader_signs_behind_1, .int a_reader_signs_passed_1, .int a_reader_signs_name_1, .long a_reader_signs_number_1])), (x_reader_open, .inl (cs 3, x_reader_open_n, .inr (.inr (.inr (.inr (pg x_reader_open_ad x_reader_open_n)))))), (x_reader_values, .inr (1, [.ref a_reader_values_items_1, .int a_reader_values_size_1])), (a_reader_values_items_1, .inl (cs 0, a_reader_values_items_n_1, .inl a_reader_values_items_f_1)), (x_registers, .inl (cs 0, x_registers_n, .inl a_registers_f_1))] : va_W) ++ po x_reader_open_ad (eo a_reader_open_most_1 a_reader_open_level_1 a_reader_open_awaits_1 a_reader_open_name_1 a_reader_open_nameLevel_1 a_reader_open_parts_1) x_reader_open_n) := ⟨hP, hD⟩
    refine W.eq (g2 := F0 m 7 ls [.int r1, .int 0, .ref out]) rfl ?_
    refine lv_i2l hx hb d_Law_read_7 rfl ?_
    obtain ⟨hi2, hok⟩ := ck_some hok
    refine va_last hx hb hK hP hD hS 0 2 rfl rfl (ixb_in hi2) d_Law_read_8 (fun H locs hP hD hS => ?_)
    obtain ⟨hP, hD⟩ : PD g A H (([(out, .inl (cs 2, out_n, .inr (.inl (vp_updL out_f (0 : Int32).toNatClampNeg r1.toInt64)))), (x, .inr (9, [.ref x_tape, .ref x_names, .ref x_terms, .ref x_reader, .ref x_unifier, .ref x_printer, .ref x_registers, .ref x_marked, .int x_marks, .int a_place_1])), (x_tape, .inr (0, [.ref x_tape_items, .int a_tape_size_1])), (x_tape_items, .inl (cs 1, x_tape_items_n, .inl x_tape_items_f)), (x_names, .inr (2, [.ref a_names_texts_1, .int a_names_textsSize_1, .ref x_names_ends, .ref x_names_older, .ref x_names_newest, .int a_names_sizeBefore_1])), (a_names_texts_1, .inl (cs 1, a_names_texts_n_1, .inl a_names_texts_f_1)), (x_names_ends, .inr (1, [.ref a_names_ends_items_1, .int a_names_ends_size_1])), (a_names_ends_items_1, .inl (cs 0, a_names_ends_items_n_1, .inl a_names_ends_items_f_1)), (x_names_older, .inr (1, [.ref a_names_older_items_1, .int a_names_older_size_1])), (a_names_older_items_1, .inl (cs 0, a_names_older_items_n_1, .inl a_names_older_items_f_1)), (x_names_newest, .inl (cs 0, x_names_newest_n, .inl a_names_newest_f_1)), (x_terms, .inr (7, [.ref a_terms_shapes_1, .ref a_terms_values_1, .ref a_terms_firstParts_1, .int a_terms_nodes_1, .ref x_terms_parts, .ref x_terms_variableNames, .ref x_terms_became, .int a_terms_variables_1, .int a_terms_variablesLack_1, .int a_terms_symbols_1, .int a_terms_nodesBefore_1, .int a_terms_partsBefore_1, .int a_terms_variablesBefore_1])), (a_terms_shapes_1, .inl (cs 0, a_terms_shapes_n_1, .inl a_terms_shapes_f_1)), (a_terms_values_1, .inl (cs 2, a_terms_values_n_1, .inr (.inl a_terms_values_f_1))), (a_terms_firstParts_1, .inl (cs 0, a_terms_firstParts_n_1, .inl a_terms_firstParts_f_1)), (x_terms_parts, .inr (1, [.ref a_terms_parts_items_1, .int a_terms_parts_size_1])), (a_terms_parts_items_1, .inl (cs 0, a_terms_parts_items_n_1, .inl a_terms_parts_items_f_1)), (x_terms_variableNames, .inl (cs 0, x_terms_variableNames_n, .inl a_terms_variableNames_f_1)), (x_reader, .inr (5, [.ref x_reader_signs, .ref x_names, .ref x_terms, .ref x_reader_open, .int a_reader_depth_1, .int a_reader_state_1, .int a_reader_nextMost_1, .int a_reader_lastName_1, .int a_reader_lastBehind_1, .ref x_reader_values, .int a_reader_symbols_1, .int a_reader_first_1, .int a_reader_broken_1, .int a_reader_tooMuch_1])), (x_reader_signs, .inr (6, [.ref x_tape, .ref x_names, .int a_reader_signs_kind_1, .int a_reader_signs_place_1, .int a_reader_signs_behind_1, .int a_reader_signs_passed_1, .int a_reader_signs_name_1, .long a_reader_signs_number_1])), (x_reader_open, .inl (cs 3, x_reader_open_n, .inr (.inr (.inr (.inr (pg x_reader_open_ad x_reader_open_n)))))), (x_reader_values, .inr (1, [.ref a_reader_values_items_1, .int a_reader_values_size_1])), (a_reader_values_items_1, .inl (cs 0, a_reader_values_items_n_1, .inl a_reader_values_items_f_1)), (x_registers, .inl (cs 0, x_registers_n, .inl a_registers_f_1))] : va_W) ++ po x_reader_open_ad (eo a_reader_open_most_1 a_reader_open_level_1 a_reader_open_awaits_1 a_reader_open_name_1 a_reader_open_nameLevel_1 a_reader_open_parts_1) x_reader_open_n) := ⟨hP, hD⟩
    refine lv_goto hx hb d_Law_read_9 rfl ?_
    refine lv_iconst (v := 0) hx hb d_Law_read_21 (by decide) ?_
    obtain ⟨hq, hw⟩ := Prod.mk.inj (Option.some.inj hok)
    obtain ⟨hmc0, hms0⟩ := Prod.mk.inj hw
    obtain ⟨hq0, hq⟩ := Prod.mk.inj hq
    obtain ⟨hq1, hq⟩ := Prod.mk.inj hq
    obtain ⟨hq2, hq⟩ := Prod.mk.inj hq
    obtain ⟨hq3, hq⟩ := Prod.mk.inj hq
    obtain ⟨hq4, hq⟩ := Prod.mk.inj hq
    obtain ⟨hq5, hq⟩ := Prod.mk.inj hq
    obtain ⟨hq6, hq⟩ := Prod.mk.inj hq
    obtain ⟨hq7, hq⟩ := Prod.mk.inj hq
    obtain ⟨hq8, hq⟩ := Prod.mk.inj hq
    obtain ⟨hq9, hq⟩ := Prod.mk.inj hq
    obtain ⟨hq10, hq⟩ := Prod.mk.inj hq
    obtain ⟨hq11, hq⟩ := Prod.mk.inj hq
    obtain ⟨hq12, hq⟩ := Prod.mk.inj hq
    obtain ⟨hq13, hq⟩ := Prod.mk.inj hq
    obtain ⟨hq14, hq⟩ := Prod.mk.inj hq
    obtain ⟨hq15, hq⟩ := Prod.mk.inj hq
    obtain ⟨hq16, hq⟩ := Prod.mk.inj hq
    obtain ⟨hq17, hq⟩ := Prod.mk.inj hq
    obtain ⟨hq18, hq⟩ := Prod.mk.inj hq
    obtain ⟨hq19, hq⟩ := Prod.mk.inj hq
    obtain ⟨hq20, hq⟩ := Prod.mk.inj hq
    obtain ⟨hq21, hq⟩ := Prod.mk.inj hq
    obtain ⟨hq22, hq⟩ := Prod.mk.inj hq
    obtain ⟨hq23, hq⟩ := Prod.mk.inj hq
    obtain ⟨hq24, hq⟩ := Prod.mk.inj hq
    obtain ⟨hq25, hq⟩ := Prod.mk.inj hq
    obtain ⟨hq26, hq⟩ := Prod.mk.inj hq
    obtain ⟨hq27, hq⟩ := Prod.mk.inj hq
    obtain ⟨hq28, hq⟩ := Prod.mk.inj hq
    obtain ⟨hq29, hq⟩ := Prod.mk.inj hq
    obtain ⟨hq30, hq⟩ := Prod.mk.inj hq
    obtain ⟨hq31, hq⟩ := Prod.mk.inj hq
    obtain ⟨hq32, hq⟩ := Prod.mk.inj hq
    obtain ⟨hq33, hq⟩ := Prod.mk.inj hq
    obtain ⟨hq34, hq⟩ := Prod.mk.inj hq
    obtain ⟨hq35, hq⟩ := Prod.mk.inj hq
    obtain ⟨hq36, hq⟩ := Prod.mk.inj hq
    obtain ⟨hq37, hq⟩ := Prod.mk.inj hq
    obtain ⟨hq38, hq⟩ := Prod.mk.inj hq
    obtain ⟨hq39, hq⟩ := Prod.mk.inj hq
    obtain ⟨hq40, hq⟩ := Prod.mk.inj hq
    obtain ⟨hq41, hq⟩ := Prod.mk.inj hq
    obtain ⟨hq42, hq⟩ := Prod.mk.inj hq
    obtain ⟨hq43, hq⟩ := Prod.mk.inj hq
    obtain ⟨hq44, hq⟩ := Prod.mk.inj hq
    obtain ⟨hq45, hq⟩ := Prod.mk.inj hq
    obtain ⟨hq46, hq⟩ := Prod.mk.inj hq
    obtain ⟨hq47, hq⟩ := Prod.mk.inj hq
    obtain ⟨hq48, hq⟩ := Prod.mk.inj hq
    obtain ⟨hq49, hq⟩ := Prod.mk.inj hq
    obtain ⟨hq50, hq⟩ := Prod.mk.inj hq
    obtain ⟨hq51, hq⟩ := Prod.mk.inj hq
    obtain ⟨hq52, hq⟩ := Prod.mk.inj hq
    obtain ⟨hq53, hq⟩ := Prod.mk.inj hq
    obtain ⟨hq54, hq⟩ := Prod.mk.inj hq
    obtain ⟨hq55, hq⟩ := Prod.mk.inj hq
    have hq56 := hq
    subst hq0
    subst hq1
    subst hq2
    subst hq3
    subst hq4
    subst hq5
    subst hq6
    subst hq7
    subst hq8
    subst hq9
    subst hq10
    subst hq11
    subst hq12
    subst hq13
    subst hq14
    subst hq15
    subst hq16
    subst hq17
    subst hq18
    subst hq19
    subst hq20
    subst hq21
    subst hq22
    subst hq23
    subst hq24
    subst hq25
    subst hq26
    subst hq27
    subst hq28
    subst hq29
    subst hq30
    subst hq31
    subst hq32
    subst hq33
    subst hq34
    subst hq35
    subst hq36
    subst hq37
    subst hq38
    subst hq39
    subst hq40
    subst hq41
    subst hq42
    subst hq43
    subst hq44
    subst hq45
    subst hq46
    subst hq47
    subst hq48
    subst hq49
    subst hq50
    subst hq51
    subst hq52
    subst hq53
    subst hq54
    subst hq55
    subst hq56
    obtain ⟨hP9, hD9⟩ := prt2 (cx := [(x, .inr (9, [.ref x_tape, .ref x_names, .ref x_terms, .ref x_reader, .ref x_unifier, .ref x_printer, .ref x_registers, .ref x_marked, .int x_marks, .int a_place_1])), (x_tape, .inr (0, [.ref x_tape_items, .int a_tape_size_1])), (x_tape_items, .inl (cs 1, x_tape_items_n, .inl x_tape_items_f)), (x_names, .inr (2, [.ref a_names_texts_1, .int a_names_textsSize_1, .ref x_names_ends, .ref x_names_older, .ref x_names_newest, .int a_names_sizeBefore_1])), (a_names_texts_1, .inl (cs 1, a_names_texts_n_1, .inl a_names_texts_f_1)), (x_names_ends, .inr (1, [.ref a_names_ends_items_1, .int a_names_ends_size_1])), (a_names_ends_items_1, .inl (cs 0, a_names_ends_items_n_1, .inl a_names_ends_items_f_1)), (x_names_older, .inr (1, [.ref a_names_older_items_1, .int a_names_older_size_1])), (a_names_older_items_1, .inl (cs 0, a_names_older_items_n_1, .inl a_names_older_items_f_1)), (x_names_newest, .inl (cs 0, x_names_newest_n, .inl a_names_newest_f_1)), (x_terms, .inr (7, [.ref a_terms_shapes_1, .ref a_terms_values_1, .ref a_terms_firstParts_1, .int a_terms_nodes_1, .ref x_terms_parts, .ref x_terms_variableNames, .ref x_terms_became, .int a_terms_variables_1, .int a_terms_variablesLack_1, .int a_terms_symbols_1, .int a_terms_nodesBefore_1, .int a_terms_partsBefore_1, .int a_terms_variablesBefore_1])), (a_terms_shapes_1, .inl (cs 0, a_terms_shapes_n_1, .inl a_terms_shapes_f_1)), (a_terms_values_1, .inl (cs 2, a_terms_values_n_1, .inr (.inl a_terms_values_f_1))), (a_terms_firstParts_1, .inl (cs 0, a_terms_firstParts_n_1, .inl a_terms_firstParts_f_1)), (x_terms_parts, .inr (1, [.ref a_terms_parts_items_1, .int a_terms_parts_size_1])), (a_terms_parts_items_1, .inl (cs 0, a_terms_parts_items_n_1, .inl a_terms_parts_items_f_1)), (x_terms_variableNames, .inl (cs 0, x_terms_variableNames_n, .inl a_terms_variableNames_f_1)), (x_reader, .inr (5, [.ref x_reader_signs, .ref x_names, .ref x_terms, .ref x_reader_open, .int a_reader_depth_1, .int a_reader_state_1, .int a_reader_nextMost_1, .int a_reader_lastName_1, .int a_reader_lastBehind_1, .ref x_reader_values, .int a_reader_symbols_1, .int a_reader_first_1, .int a_reader_broken_1, .int a_reader_tooMuch_1])), (x_reader_signs, .inr (6, [.ref x_tape, .ref x_names, .int a_reader_signs_kind_1, .int a_reader_signs_place_1, .int a_reader_signs_behind_1, .int a_reader_signs_passed_1, .int a_reader_signs_name_1, .long a_reader_signs_number_1])), (x_reader_open, .inl (cs 3, x_reader_open_n, .inr (.inr (.inr (.inr (pg x_reader_open_ad x_reader_open_n)))))), (x_reader_values, .inr (1, [.ref a_reader_values_items_1, .int a_reader_values_size_1])), (a_reader_values_items_1, .inl (cs 0, a_reader_values_items_n_1, .inl a_reader_values_items_f_1)), (x_registers, .inl (cs 0, x_registers_n, .inl a_registers_f_1)), (out, .inl (cs 2, out_n, .inr (.inl (vp_updL out_f (0 : Int32).toNatClampNeg r1.toInt64))))]) hP hD [1, 2, 3, 4, 5, 6, 7, 8, 9, 10, 11, 12, 13, 14, 15, 16, 17, 18, 19, 20, 21, 22, 23, 0] (by decide) rfl
    refine W.widen (k := mc) (n := ms) (by omega) (by omega) ?_
    rw [hQ]
    exact W.iret (v := 0) hx hb hr (fun t ht hW => ⟨⟨_, (), rfl, rfl, a_names_texts_1, a_names_ends_items_1, a_names_older_items_1, a_terms_shapes_1, a_terms_values_1, a_terms_firstParts_1, a_terms_parts_items_1, a_reader_values_items_1, by rw [ht]; exact hP9, hD9⟩, hS.F ht⟩) hS.2.2 d_Law_read_22
  · obtain ⟨⟨hO, hB⟩, -⟩ := hB
    obtain ⟨hx1, hX⟩ := hO.thr
    rw [if_neg hx1] at hok
    rw [ht] at hB
    obtain ⟨a_names_texts_1, a_names_ends_items_1, a_names_older_items_1, a_terms_shapes_1, a_terms_values_1, a_terms_firstParts_1, a_terms_parts_items_1, a_reader_values_items_1, hP1, hD1⟩ := hB
    obtain ⟨hP, hD⟩ := jn_P hP hD [0, 1, 2, 3, 4, 5, 6, 7, 8, 9, 10, 11, 12, 13, 14, 15, 16, 17, 18, 19, 20, 21, 22] [23] rfl rfl (by decide) (by decide) hk1 hFc hP1 hD1
    obtain ⟨hP, hD⟩ : PD g A H (([(out, .inl (cs 2, out_n, .inr (.inl out_f))), (x, .inr (9, [.ref x_tape, .ref x_names, .ref x_terms, .ref x_reader, .ref x_unifier, .ref x_printer, .ref x_registers, .ref x_marked, .int x_marks, .int a_place_1])), (x_tape, .inr (0, [.ref x_tape_items, .int a_tape_size_1])), (x_tape_items, .inl (cs 1, x_tape_items_n, .inl x_tape_items_f)), (x_names, .inr (2, [.ref a_names_texts_1, .int a_names_textsSize_1, .ref x_names_ends, .ref x_names_older, .ref x_names_newest, .int a_names_sizeBefore_1])), (a_names_texts_1, .inl (cs 1, a_names_texts_n_1, .inl a_names_texts_f_1)), (x_names_ends, .inr (1, [.ref a_names_ends_items_1, .int a_names_ends_size_1])), (a_names_ends_items_1, .inl (cs 0, a_names_ends_items_n_1, .inl a_names_ends_items_f_1)), (x_names_older, .inr (1, [.ref a_names_older_items_1, .int a_names_older_size_1])), (a_names_older_items_1, .inl (cs 0, a_names_older_items_n_1, .inl a_names_older_items_f_1)), (x_names_newest, .inl (cs 0, x_names_newest_n, .inl a_names_newest_f_1)), (x_terms, .inr (7, [.ref a_terms_shapes_1, .ref a_terms_values_1, .ref a_terms_firstParts_1, .int a_terms_nodes_1, .ref x_terms_parts, .ref x_terms_variableNames, .ref x_terms_became, .int a_terms_variables_1, .int a_terms_variablesLack_1, .int a_terms_symbols_1, .int a_terms_nodesBefore_1, .int a_terms_partsBefore_1, .int a_terms_variablesBefore_1])), (a_terms_shapes_1, .inl (cs 0, a_terms_shapes_n_1, .inl a_terms_shapes_f_1)), (a_terms_values_1, .inl (cs 2, a_terms_values_n_1, .inr (.inl a_terms_values_f_1))), (a_terms_firstParts_1, .inl (cs 0, a_terms_firstParts_n_1, .inl a_terms_firstParts_f_1)), (x_terms_parts, .inr (1, [.ref a_terms_parts_items_1, .int a_terms_parts_size_1])), (a_terms_parts_items_1, .inl (cs 0, a_terms_parts_items_n_1, .inl a_terms_parts_items_f_1)), (x_terms_variableNames, .inl (cs 0, x_terms_variableNames_n, .inl a_terms_variableNames_f_1)), (x_reader, .inr (5, [.ref x_reader_signs, .ref x_names, .ref x_terms, .ref x_reader_open, .int a_reader_depth_1, .int a_reader_state_1, .int a_reader_nextMost_1, .int a_reader_lastName_1, .int a_reader_lastBehind_1, .ref x_reader_values, .int a_reader_symbols_1, .int a_reader_first_1, .int a_reader_broken_1, .int a_reader_tooMuch_1])), (x_reader_signs, .inr (6, [.ref x_tape, .ref x_names, .int a_reader_signs_kind_1, .int a_reader_signs_place_1, .int a_reader_signs_behind_1, .int a_reader_signs_passed_1, .int a_reader_signs_name_1, .long a_reader_signs_number_1])), (x_reader_open, .inl (cs 3, x_reader_open_n, .inr (.inr (.inr (.inr (pg x_reader_open_ad x_reader_open_n)))))), (x_reader_values, .inr (1, [.ref a_reader_values_items_1, .int a_reader_values_size_1])), (a_reader_values_items_1, .inl (cs 0, a_reader_values_items_n_1, .inl a_reader_values_items_f_1)), (x_registers, .inl (cs 0, x_registers_n, .inl a_registers_f_1))] : va_W) ++ po x_reader_open_ad (eo a_reader_open_most_1 a_reader_open_level_1 a_reader_open_awaits_1 a_reader_open_name_1 a_reader_open_nameLevel_1 a_reader_open_parts_1) x_reader_open_n) := ⟨hP, hD⟩
    by_cases hy1_1 : xc1 = 1
    · rw [if_pos hy1_1] at hok
      subst hy1_1
      obtain ⟨ce, cX, e1, e2, e3, e4, -⟩ := hX
      have e2 : s.vm.findClass "java/lang/IllegalArgumentException" = some cX := by rw [← hW.alike.findClass]; exact e2
      obtain ⟨k0, hk0⟩ := Vm.classAt_of_findClass e2
      refine cw_caught (h := 12) rfl hE (by rw [← ht]; exact e1) e4 (by rw [e3]; exact hk0) (fun hpl => Or.inr ⟨by show (0 : Nat) ≤ 4 ∧ (4 : Nat) < 9; decide, by show (19 : Nat) ≠ 0; decide, cw_hit hown (hg _ wd_1131) (va_Nw.use rfl (hgl _ wd_1132)) e2 e3 hpl rfl⟩) ?_
      refine W.eq (g2 := F0 m 12 ls [.ref x1]) rfl ?_
      refine lv_astore_n hx hb d_Law_read_12 rfl hl (by decide) rfl (fun ls hl => ?_)
      have hl : lv_has ls 4 [(3, .ref x1), (0, .ref x), (1, .int p0), (2, .ref out)] := hl
      refine lv_iconst (v := 1) hx hb d_Law_read_13 (by decide) ?_
      obtain ⟨hq, hw⟩ := Prod.mk.inj (Option.some.inj hok)
      obtain ⟨hmc0, hms0⟩ := Prod.mk.inj hw
      obtain ⟨hq0, hq⟩ := Prod.mk.inj hq
      obtain ⟨hq1, hq⟩ := Prod.mk.inj hq
      obtain ⟨hq2, hq⟩ := Prod.mk.inj hq
      obtain ⟨hq3, hq⟩ := Prod.mk.inj hq
      obtain ⟨hq4, hq⟩ := Prod.mk.inj hq
      obtain ⟨hq5, hq⟩ := Prod.mk.inj hq
      obtain ⟨hq6, hq⟩ := Prod.mk.inj hq
      obtain ⟨hq7, hq⟩ := Prod.mk.inj hq
      obtain ⟨hq8, hq⟩ := Prod.mk.inj hq
      obtain ⟨hq9, hq⟩ := Prod.mk.inj hq
      obtain ⟨hq10, hq⟩ := Prod.mk.inj hq
      obtain ⟨hq11, hq⟩ := Prod.mk.inj hq
      obtain ⟨hq12, hq⟩ := Prod.mk.inj hq
      obtain ⟨hq13, hq⟩ := Prod.mk.inj hq
      obtain ⟨hq14, hq⟩ := Prod.mk.inj hq
      obtain ⟨hq15, hq⟩ := Prod.mk.inj hq
      obtain ⟨hq16, hq⟩ := Prod.mk.inj hq
      obtain ⟨hq17, hq⟩ := Prod.mk.inj hq
      obtain ⟨hq18, hq⟩ := Prod.mk.inj hq
      obtain ⟨hq19, hq⟩ := Prod.mk.inj hq
      obtain ⟨hq20, hq⟩ := Prod.mk.inj hq
      obtain ⟨hq21, hq⟩ := Prod.mk.inj hq
      obtain ⟨hq22, hq⟩ := Prod.mk.inj hq
      obtain ⟨hq23, hq⟩ := Prod.mk.inj hq
      obtain ⟨hq24, hq⟩ := Prod.mk.inj hq
      obtain ⟨hq25, hq⟩ := Prod.mk.inj hq
      obtain ⟨hq26, hq⟩ := Prod.mk.inj hq
      obtain ⟨hq27, hq⟩ := Prod.mk.inj hq
      obtain ⟨hq28, hq⟩ := Prod.mk.inj hq
      obtain ⟨hq29, hq⟩ := Prod.mk.inj hq
      obtain ⟨hq30, hq⟩ := Prod.mk.inj hq
      obtain ⟨hq31, hq⟩ := Prod.mk.inj hq
      obtain ⟨hq32, hq⟩ := Prod.mk.inj hq
      obtain ⟨hq33, hq⟩ := Prod.mk.inj hq
      obtain ⟨hq34, hq⟩ := Prod.mk.inj hq
      obtain ⟨hq35, hq⟩ := Prod.mk.inj hq
      obtain ⟨hq36, hq⟩ := Prod.mk.inj hq
      obtain ⟨hq37, hq⟩ := Prod.mk.inj hq
      obtain ⟨hq38, hq⟩ := Prod.mk.inj hq
      obtain ⟨hq39, hq⟩ := Prod.mk.inj hq
      obtain ⟨hq40, hq⟩ := Prod.mk.inj hq
      obtain ⟨hq41, hq⟩ := Prod.mk.inj hq
      obtain ⟨hq42, hq⟩ := Prod.mk.inj hq
      obtain ⟨hq43, hq⟩ := Prod.mk.inj hq
      obtain ⟨hq44, hq⟩ := Prod.mk.inj hq
      obtain ⟨hq45, hq⟩ := Prod.mk.inj hq
      obtain ⟨hq46, hq⟩ := Prod.mk.inj hq
      obtain ⟨hq47, hq⟩ := Prod.mk.inj hq
      obtain ⟨hq48, hq⟩ := Prod.mk.inj hq
      obtain ⟨hq49, hq⟩ := Prod.mk.inj hq
      obtain ⟨hq50, hq⟩ := Prod.mk.inj hq
      obtain ⟨hq51, hq⟩ := Prod.mk.inj hq
      obtain ⟨hq52, hq⟩ := Prod.mk.inj hq
      obtain ⟨hq53, hq⟩ := Prod.mk.inj hq
      obtain ⟨hq54, hq⟩ := Prod.mk.inj hq
      obtain ⟨hq55, hq⟩ := Prod.mk.inj hq
      have hq56 := hq
      subst hq0
      subst hq1
      subst hq2
      subst hq3
      subst hq4
      subst hq5
      subst hq6
      subst hq7
      subst hq8
      subst hq9
      subst hq10
      subst hq11
      subst hq12
      subst hq13
      subst hq14
      subst hq15
      subst hq16
      subst hq17
      subst hq18
      subst hq19
      subst hq20
      subst hq21
      subst hq22
      subst hq23
      subst hq24
      subst hq25
      subst hq26
      subst hq27
      subst hq28
      subst hq29
      subst hq30
      subst hq31
      subst hq32
      subst hq33
      subst hq34
      subst hq35
      subst hq36
      subst hq37
      subst hq38
      subst hq39
      subst hq40
      subst hq41
      subst hq42
      subst hq43
      subst hq44
      subst hq45
      subst hq46
      subst hq47
      subst hq48
      subst hq49
      subst hq50
      subst hq51
      subst hq52
      subst hq53
      subst hq54
      subst hq55
      subst hq56
      obtain ⟨hP9, hD9⟩ := prt2 (cx := [(x, .inr (9, [.ref x_tape, .ref x_names, .ref x_terms, .ref x_reader, .ref x_unifier, .ref x_printer, .ref x_registers, .ref x_marked, .int x_marks, .int a_place_1])), (x_tape, .inr (0, [.ref x_tape_items, .int a_tape_size_1])), (x_tape_items, .inl (cs 1, x_tape_items_n, .inl x_tape_items_f)), (x_names, .inr (2, [.ref a_names_texts_1, .int a_names_textsSize_1, .ref x_names_ends, .ref x_names_older, .ref x_names_newest, .int a_names_sizeBefore_1])), (a_names_texts_1, .inl (cs 1, a_names_texts_n_1, .inl a_names_texts_f_1)), (x_names_ends, .inr (1, [.ref a_names_ends_items_1, .int a_names_ends_size_1])), (a_names_ends_items_1, .inl (cs 0, a_names_ends_items_n_1, .inl a_names_ends_items_f_1)), (x_names_older, .inr (1, [.ref a_names_older_items_1, .int a_names_older_size_1])), (a_names_older_items_1, .inl (cs 0, a_names_older_items_n_1, .inl a_names_older_items_f_1)), (x_names_newest, .inl (cs 0, x_names_newest_n, .inl a_names_newest_f_1)), (x_terms, .inr (7, [.ref a_terms_shapes_1, .ref a_terms_values_1, .ref a_terms_firstParts_1, .int a_terms_nodes_1, .ref x_terms_parts, .ref x_terms_variableNames, .ref x_terms_became, .int a_terms_variables_1, .int a_terms_variablesLack_1, .int a_terms_symbols_1, .int a_terms_nodesBefore_1, .int a_terms_partsBefore_1, .int a_terms_variablesBefore_1])), (a_terms_shapes_1, .inl (cs 0, a_terms_shapes_n_1, .inl a_terms_shapes_f_1)), (a_terms_values_1, .inl (cs 2, a_terms_values_n_1, .inr (.inl a_terms_values_f_1))), (a_terms_firstParts_1, .inl (cs 0, a_terms_firstParts_n_1, .inl a_terms_firstParts_f_1)), (x_terms_parts, .inr (1, [.ref a_terms_parts_items_1, .int a_terms_parts_size_1])), (a_terms_parts_items_1, .inl (cs 0, a_terms_parts_items_n_1, .inl a_terms_parts_items_f_1)), (x_terms_variableNames, .inl (cs 0, x_terms_variableNames_n, .inl a_terms_variableNames_f_1)), (x_reader, .inr (5, [.ref x_reader_signs, .ref x_names, .ref x_terms, .ref x_reader_open, .int a_reader_depth_1, .int a_reader_state_1, .int a_reader_nextMost_1, .int a_reader_lastName_1, .int a_reader_lastBehind_1, .ref x_reader_values, .int a_reader_symbols_1, .int a_reader_first_1, .int a_reader_broken_1, .int a_reader_tooMuch_1])), (x_reader_signs, .inr (6, [.ref x_tape, .ref x_names, .int a_reader_signs_kind_1, .int a_reader_signs_place_1, .int a_reader_signs_behind_1, .int a_reader_signs_passed_1, .int a_reader_signs_name_1, .long a_reader_signs_number_1])), (x_reader_open, .inl (cs 3, x_reader_open_n, .inr (.inr (.inr (.inr (pg x_reader_open_ad x_reader_open_n)))))), (x_reader_values, .inr (1, [.ref a_reader_values_items_1, .int a_reader_values_size_1])), (a_reader_values_items_1, .inl (cs 0, a_reader_values_items_n_1, .inl a_reader_values_items_f_1)), (x_registers, .inl (cs 0, x_registers_n, .inl a_registers_f_1)), (out, .inl (cs 2, out_n, .inr (.inl out_f)))]) hP hD [1, 2, 3, 4, 5, 6, 7, 8, 9, 10, 11, 12, 13, 14, 15, 16, 17, 18, 19, 20, 21, 22, 23, 0] (by decide) rfl
      refine W.widen (k := mc) (n := ms) (by omega) (by omega) ?_
      rw [hQ]
      exact W.iret (v := 1) hx hb hr (fun t ht hW => ⟨⟨_, (), rfl, rfl, a_names_texts_1, a_names_ends_items_1, a_names_older_items_1, a_terms_shapes_1, a_terms_values_1, a_terms_firstParts_1, a_terms_parts_items_1, a_reader_values_items_1, by rw [ht]; exact hP9, hD9⟩, hS.F ht⟩) hS.2.2 d_Law_read_14
    · rw [if_neg hy1_1] at hok
      by_cases hy1_2 : xc1 = 2
      · rw [if_pos hy1_2] at hok
        subst hy1_2
        obtain ⟨ce, cX, e1, e2, e3, e4, -⟩ := hX
        have e2 : s.vm.findClass "java/lang/UnsupportedOperationException" = some cX := by rw [← hW.alike.findClass]; exact e2
        obtain ⟨k0, hk0⟩ := Vm.classAt_of_findClass e2
        refine cw_caught (h := 15) rfl hE (by rw [← ht]; exact e1) e4 (by rw [e3]; exact hk0) (fun hpl => Or.inr ⟨by show (0 : Nat) ≤ 4 ∧ (4 : Nat) < 9; decide, by show (19 : Nat) ≠ 0; decide, cw_miss hown (hg _ wd_1131) (nc_no (hkr.2 ("java/lang/UnsupportedOperationException", "java/lang/IllegalArgumentException") (by decide))) e2 e3 hpl (Or.inr ⟨by show (0 : Nat) ≤ 4 ∧ (4 : Nat) < 9; decide, by show (24 : Nat) ≠ 0; decide, cw_hit hown (hg _ wd_1171) (va_Nw.use rfl (hgl _ wd_1172)) e2 e3 hpl rfl⟩)⟩) ?_
        refine W.eq (g2 := F0 m 15 ls [.ref x1]) rfl ?_
        refine lv_astore_n hx hb d_Law_read_15 rfl hl (by decide) rfl (fun ls hl => ?_)
        have hl : lv_has ls 4 [(3, .ref x1), (0, .ref x), (1, .int p0), (2, .ref out)] := hl
        refine lv_iconst (v := 2) hx hb d_Law_read_16 (by decide) ?_
        obtain ⟨hq, hw⟩ := Prod.mk.inj (Option.some.inj hok)
        obtain ⟨hmc0, hms0⟩ := Prod.mk.inj hw
        obtain ⟨hq0, hq⟩ := Prod.mk.inj hq
        obtain ⟨hq1, hq⟩ := Prod.mk.inj hq
        obtain ⟨hq2, hq⟩ := Prod.mk.inj hq
        obtain ⟨hq3, hq⟩ := Prod.mk.inj hq
        obtain ⟨hq4, hq⟩ := Prod.mk.inj hq
        obtain ⟨hq5, hq⟩ := Prod.mk.inj hq
        obtain ⟨hq6, hq⟩ := Prod.mk.inj hq
        obtain ⟨hq7, hq⟩ := Prod.mk.inj hq
        obtain ⟨hq8, hq⟩ := Prod.mk.inj hq
        obtain ⟨hq9, hq⟩ := Prod.mk.inj hq
        obtain ⟨hq10, hq⟩ := Prod.mk.inj hq
        obtain ⟨hq11, hq⟩ := Prod.mk.inj hq
        obtain ⟨hq12, hq⟩ := Prod.mk.inj hq
        obtain ⟨hq13, hq⟩ := Prod.mk.inj hq
        obtain ⟨hq14, hq⟩ := Prod.mk.inj hq
        obtain ⟨hq15, hq⟩ := Prod.mk.inj hq
        obtain ⟨hq16, hq⟩ := Prod.mk.inj hq
        obtain ⟨hq17, hq⟩ := Prod.mk.inj hq
        obtain ⟨hq18, hq⟩ := Prod.mk.inj hq
        obtain ⟨hq19, hq⟩ := Prod.mk.inj hq
        obtain ⟨hq20, hq⟩ := Prod.mk.inj hq
        obtain ⟨hq21, hq⟩ := Prod.mk.inj hq
        obtain ⟨hq22, hq⟩ := Prod.mk.inj hq
        obtain ⟨hq23, hq⟩ := Prod.mk.inj hq
        obtain ⟨hq24, hq⟩ := Prod.mk.inj hq
        obtain ⟨hq25, hq⟩ := Prod.mk.inj hq
        obtain ⟨hq26, hq⟩ := Prod.mk.inj hq
        obtain ⟨hq27, hq⟩ := Prod.mk.inj hq
        obtain ⟨hq28, hq⟩ := Prod.mk.inj hq
        obtain ⟨hq29, hq⟩ := Prod.mk.inj hq
        obtain ⟨hq30, hq⟩ := Prod.mk.inj hq
        obtain ⟨hq31, hq⟩ := Prod.mk.inj hq
        obtain ⟨hq32, hq⟩ := Prod.mk.inj hq
        obtain ⟨hq33, hq⟩ := Prod.mk.inj hq
        obtain ⟨hq34, hq⟩ := Prod.mk.inj hq
        obtain ⟨hq35, hq⟩ := Prod.mk.inj hq
        obtain ⟨hq36, hq⟩ := Prod.mk.inj hq
        obtain ⟨hq37, hq⟩ := Prod.mk.inj hq
        obtain ⟨hq38, hq⟩ := Prod.mk.inj hq
        obtain ⟨hq39, hq⟩ := Prod.mk.inj hq
        obtain ⟨hq40, hq⟩ := Prod.mk.inj hq
        obtain ⟨hq41, hq⟩ := Prod.mk.inj hq
        obtain ⟨hq42, hq⟩ := Prod.mk.inj hq
        obtain ⟨hq43, hq⟩ := Prod.mk.inj hq
        obtain ⟨hq44, hq⟩ := Prod.mk.inj hq
        obtain ⟨hq45, hq⟩ := Prod.mk.inj hq
        obtain ⟨hq46, hq⟩ := Prod.mk.inj hq
        obtain ⟨hq47, hq⟩ := Prod.mk.inj hq
        obtain ⟨hq48, hq⟩ := Prod.mk.inj hq
        obtain ⟨hq49, hq⟩ := Prod.mk.inj hq
        obtain ⟨hq50, hq⟩ := Prod.mk.inj hq
        obtain ⟨hq51, hq⟩ := Prod.mk.inj hq
        obtain ⟨hq52, hq⟩ := Prod.mk.inj hq
        obtain ⟨hq53, hq⟩ := Prod.mk.inj hq
        obtain ⟨hq54, hq⟩ := Prod.mk.inj hq
        obtain ⟨hq55, hq⟩ := Prod.mk.inj hq
        have hq56 := hq
        subst hq0
        subst hq1
        subst hq2
        subst hq3
        subst hq4
        subst hq5
        subst hq6
        subst hq7
        subst hq8
        subst hq9
        subst hq10
        subst hq11
        subst hq12
        subst hq13
        subst hq14
        subst hq15
        subst hq16
        subst hq17
        subst hq18
        subst hq19
        subst hq20
        subst hq21
        subst hq22
        subst hq23
        subst hq24
        subst hq25
        subst hq26
        subst hq27
        subst hq28
        subst hq29
        subst hq30
        subst hq31
        subst hq32
        subst hq33
        subst hq34
        subst hq35
        subst hq36
        subst hq37
        subst hq38
        subst hq39
        subst hq40
        subst hq41
        subst hq42
        subst hq43
        subst hq44
        subst hq45
        subst hq46
        subst hq47
        subst hq48
        subst hq49
        subst hq50
        subst hq51
        subst hq52
        subst hq53
        subst hq54
        subst hq55
        subst hq56
        obtain ⟨hP9, hD9⟩ := prt2 (cx := [(x, .inr (9, [.ref x_tape, .ref x_names, .ref x_terms, .ref x_reader, .ref x_unifier, .ref x_printer, .ref x_registers, .ref x_marked, .int x_marks, .int a_place_1])), (x_tape, .inr (0, [.ref x_tape_items, .int a_tape_size_1])), (x_tape_items, .inl (cs 1, x_tape_items_n, .inl x_tape_items_f)), (x_names, .inr (2, [.ref a_names_texts_1, .int a_names_textsSize_1, .ref x_names_ends, .ref x_names_older, .ref x_names_newest, .int a_names_sizeBefore_1])), (a_names_texts_1, .inl (cs 1, a_names_texts_n_1, .inl a_names_texts_f_1)), (x_names_ends, .inr (1, [.ref a_names_ends_items_1, .int a_names_ends_size_1])), (a_names_ends_items_1, .inl (cs 0, a_names_ends_items_n_1, .inl a_names_ends_items_f_1)), (x_names_older, .inr (1, [.ref a_names_older_items_1, .int a_names_older_size_1])), (a_names_older_items_1, .inl (cs 0, a_names_older_items_n_1, .inl a_names_older_items_f_1)), (x_names_newest, .inl (cs 0, x_names_newest_n, .inl a_names_newest_f_1)), (x_terms, .inr (7, [.ref a_terms_shapes_1, .ref a_terms_values_1, .ref a_terms_firstParts_1, .int a_terms_nodes_1, .ref x_terms_parts, .ref x_terms_variableNames, .ref x_terms_became, .int a_terms_variables_1, .int a_terms_variablesLack_1, .int a_terms_symbols_1, .int a_terms_nodesBefore_1, .int a_terms_partsBefore_1, .int a_terms_variablesBefore_1])), (a_terms_shapes_1, .inl (cs 0, a_terms_shapes_n_1, .inl a_terms_shapes_f_1)), (a_terms_values_1, .inl (cs 2, a_terms_values_n_1, .inr (.inl a_terms_values_f_1))), (a_terms_firstParts_1, .inl (cs 0, a_terms_firstParts_n_1, .inl a_terms_firstParts_f_1)), (x_terms_parts, .inr (1, [.ref a_terms_parts_items_1, .int a_terms_parts_size_1])), (a_terms_parts_items_1, .inl (cs 0, a_terms_parts_items_n_1, .inl a_terms_parts_items_f_1)), (x_terms_variableNames, .inl (cs 0, x_terms_variableNames_n, .inl a_terms_variableNames_f_1)), (x_reader, .inr (5, [.ref x_reader_signs, .ref x_names, .ref x_terms, .ref x_reader_open, .int a_reader_depth_1, .int a_reader_state_1, .int a_reader_nextMost_1, .int a_reader_lastName_1, .int a_reader_lastBehind_1, .ref x_reader_values, .int a_reader_symbols_1, .int a_reader_first_1, .int a_reader_broken_1, .int a_reader_tooMuch_1])), (x_reader_signs, .inr (6, [.ref x_tape, .ref x_names, .int a_reader_signs_kind_1, .int a_reader_signs_place_1, .int a_reader_signs_behind_1, .int a_reader_signs_passed_1, .int a_reader_signs_name_1, .long a_reader_signs_number_1])), (x_reader_open, .inl (cs 3, x_reader_open_n, .inr (.inr (.inr (.inr (pg x_reader_open_ad x_reader_open_n)))))), (x_reader_values, .inr (1, [.ref a_reader_values_items_1, .int a_reader_values_size_1])), (a_reader_values_items_1, .inl (cs 0, a_reader_values_items_n_1, .inl a_reader_values_items_f_1)), (x_registers, .inl (cs 0, x_registers_n, .inl a_registers_f_1)), (out, .inl (cs 2, out_n, .inr (.inl out_f)))]) hP hD [1, 2, 3, 4, 5, 6, 7, 8, 9, 10, 11, 12, 13, 14, 15, 16, 17, 18, 19, 20, 21, 22, 23, 0] (by decide) rfl
        refine W.widen (k := mc) (n := ms) (by omega) (by omega) ?_
        rw [hQ]
        exact W.iret (v := 2) hx hb hr (fun t ht hW => ⟨⟨_, (), rfl, rfl, a_names_texts_1, a_names_ends_items_1, a_names_older_items_1, a_terms_shapes_1, a_terms_values_1, a_terms_firstParts_1, a_terms_parts_items_1, a_reader_values_items_1, by rw [ht]; exact hP9, hD9⟩, hS.F ht⟩) hS.2.2 d_Law_read_17
      · rw [if_neg hy1_2] at hok
        by_cases hy1_3 : xc1 = 3
        · rw [if_pos hy1_3] at hok
          subst hy1_3
          obtain ⟨ce, cX, e1, e2, e3, e4, -⟩ := hX
          have e2 : s.vm.findClass "java/lang/IndexOutOfBoundsException" = some cX := by rw [← hW.alike.findClass]; exact e2
          obtain ⟨k0, hk0⟩ := Vm.classAt_of_findClass e2
          refine cw_caught (h := 18) rfl hE (by rw [← ht]; exact e1) e4 (by rw [e3]; exact hk0) (fun hpl => Or.inr ⟨by show (0 : Nat) ≤ 4 ∧ (4 : Nat) < 9; decide, by show (19 : Nat) ≠ 0; decide, cw_miss hown (hg _ wd_1131) (nc_no (hkr.2 ("java/lang/IndexOutOfBoundsException", "java/lang/IllegalArgumentException") (by decide))) e2 e3 hpl (Or.inr ⟨by show (0 : Nat) ≤ 4 ∧ (4 : Nat) < 9; decide, by show (24 : Nat) ≠ 0; decide, cw_miss hown (hg _ wd_1171) (nc_no (hkr.2 ("java/lang/IndexOutOfBoundsException", "java/lang/UnsupportedOperationException") (by decide))) e2 e3 hpl (Or.inr ⟨by show (0 : Nat) ≤ 4 ∧ (4 : Nat) < 9; decide, by show (13 : Nat) ≠ 0; decide, cw_hit hown (hg _ wd_1125) (va_Nw.use rfl (hgl _ wd_1126)) e2 e3 hpl rfl⟩)⟩)⟩) ?_
          refine W.eq (g2 := F0 m 18 ls [.ref x1]) rfl ?_
          refine lv_astore_n hx hb d_Law_read_18 rfl hl (by decide) rfl (fun ls hl => ?_)
          have hl : lv_has ls 4 [(3, .ref x1), (0, .ref x), (1, .int p0), (2, .ref out)] := hl
          refine lv_iconst (v := 3) hx hb d_Law_read_19 (by decide) ?_
          obtain ⟨hq, hw⟩ := Prod.mk.inj (Option.some.inj hok)
          obtain ⟨hmc0, hms0⟩ := Prod.mk.inj hw
          obtain ⟨hq0, hq⟩ := Prod.mk.inj hq
          obtain ⟨hq1, hq⟩ := Prod.mk.inj hq
          obtain ⟨hq2, hq⟩ := Prod.mk.inj hq
          obtain ⟨hq3, hq⟩ := Prod.mk.inj hq
          obtain ⟨hq4, hq⟩ := Prod.mk.inj hq
          obtain ⟨hq5, hq⟩ := Prod.mk.inj hq
          obtain ⟨hq6, hq⟩ := Prod.mk.inj hq
          obtain ⟨hq7, hq⟩ := Prod.mk.inj hq
          obtain ⟨hq8, hq⟩ := Prod.mk.inj hq
          obtain ⟨hq9, hq⟩ := Prod.mk.inj hq
          obtain ⟨hq10, hq⟩ := Prod.mk.inj hq
          obtain ⟨hq11, hq⟩ := Prod.mk.inj hq
          obtain ⟨hq12, hq⟩ := Prod.mk.inj hq
          obtain ⟨hq13, hq⟩ := Prod.mk.inj hq
          obtain ⟨hq14, hq⟩ := Prod.mk.inj hq
          obtain ⟨hq15, hq⟩ := Prod.mk.inj hq
          obtain ⟨hq16, hq⟩ := Prod.mk.inj hq
          obtain ⟨hq17, hq⟩ := Prod.mk.inj hq
          obtain ⟨hq18, hq⟩ := Prod.mk.inj hq
          obtain ⟨hq19, hq⟩ := Prod.mk.inj hq
          obtain ⟨hq20, hq⟩ := Prod.mk.inj hq
          obtain ⟨hq21, hq⟩ := Prod.mk.inj hq
          obtain ⟨hq22, hq⟩ := Prod.mk.inj hq
          obtain ⟨hq23, hq⟩ := Prod.mk.inj hq
          obtain ⟨hq24, hq⟩ := Prod.mk.inj hq
          obtain ⟨hq25, hq⟩ := Prod.mk.inj hq
          obtain ⟨hq26, hq⟩ := Prod.mk.inj hq
          obtain ⟨hq27, hq⟩ := Prod.mk.inj hq
          obtain ⟨hq28, hq⟩ := Prod.mk.inj hq
          obtain ⟨hq29, hq⟩ := Prod.mk.inj hq
          obtain ⟨hq30, hq⟩ := Prod.mk.inj hq
          obtain ⟨hq31, hq⟩ := Prod.mk.inj hq
          obtain ⟨hq32, hq⟩ := Prod.mk.inj hq
          obtain ⟨hq33, hq⟩ := Prod.mk.inj hq
          obtain ⟨hq34, hq⟩ := Prod.mk.inj hq
          obtain ⟨hq35, hq⟩ := Prod.mk.inj hq
          obtain ⟨hq36, hq⟩ := Prod.mk.inj hq
          obtain ⟨hq37, hq⟩ := Prod.mk.inj hq
          obtain ⟨hq38, hq⟩ := Prod.mk.inj hq
          obtain ⟨hq39, hq⟩ := Prod.mk.inj hq
          obtain ⟨hq40, hq⟩ := Prod.mk.inj hq
          obtain ⟨hq41, hq⟩ := Prod.mk.inj hq
          obtain ⟨hq42, hq⟩ := Prod.mk.inj hq
          obtain ⟨hq43, hq⟩ := Prod.mk.inj hq
          obtain ⟨hq44, hq⟩ := Prod.mk.inj hq
          obtain ⟨hq45, hq⟩ := Prod.mk.inj hq
          obtain ⟨hq46, hq⟩ := Prod.mk.inj hq
          obtain ⟨hq47, hq⟩ := Prod.mk.inj hq
          obtain ⟨hq48, hq⟩ := Prod.mk.inj hq
          obtain ⟨hq49, hq⟩ := Prod.mk.inj hq
          obtain ⟨hq50, hq⟩ := Prod.mk.inj hq
          obtain ⟨hq51, hq⟩ := Prod.mk.inj hq
          obtain ⟨hq52, hq⟩ := Prod.mk.inj hq
          obtain ⟨hq53, hq⟩ := Prod.mk.inj hq
          obtain ⟨hq54, hq⟩ := Prod.mk.inj hq
          obtain ⟨hq55, hq⟩ := Prod.mk.inj hq
          have hq56 := hq
          subst hq0
          subst hq1
          subst hq2
          subst hq3
          subst hq4
          subst hq5
          subst hq6
          subst hq7
          subst hq8
          subst hq9
          subst hq10
          subst hq11
          subst hq12
          subst hq13
          subst hq14
          subst hq15
          subst hq16
          subst hq17
          subst hq18
          subst hq19
          subst hq20
          subst hq21
          subst hq22
          subst hq23
          subst hq24
          subst hq25
          subst hq26
          subst hq27
          subst hq28
          subst hq29
          subst hq30
          subst hq31
          subst hq32
          subst hq33
          subst hq34
          subst hq35
          subst hq36
          subst hq37
          subst hq38
          subst hq39
          subst hq40
          subst hq41
          subst hq42
          subst hq43
          subst hq44
          subst hq45
          subst hq46
          subst hq47
          subst hq48
          subst hq49
          subst hq50
          subst hq51
          subst hq52
          subst hq53
          subst hq54
          subst hq55
          subst hq56
          obtain ⟨hP9, hD9⟩ := prt2 (cx := [(x, .inr (9, [.ref x_tape, .ref x_names, .ref x_terms, .ref x_reader, .ref x_unifier, .ref x_printer, .ref x_registers, .ref x_marked, .int x_marks, .int a_place_1])), (x_tape, .inr (0, [.ref x_tape_items, .int a_tape_size_1])), (x_tape_items, .inl (cs 1, x_tape_items_n, .inl x_tape_items_f)), (x_names, .inr (2, [.ref a_names_texts_1, .int a_names_textsSize_1, .ref x_names_ends, .ref x_names_older, .ref x_names_newest, .int a_names_sizeBefore_1])), (a_names_texts_1, .inl (cs 1, a_names_texts_n_1, .inl a_names_texts_f_1)), (x_names_ends, .inr (1, [.ref a_names_ends_items_1, .int a_names_ends_size_1])), (a_names_ends_items_1, .inl (cs 0, a_names_ends_items_n_1, .inl a_names_ends_items_f_1)), (x_names_older, .inr (1, [.ref a_names_older_items_1, .int a_names_older_size_1])), (a_names_older_items_1, .inl (cs 0, a_names_older_items_n_1, .inl a_names_older_items_f_1)), (x_names_newest, .inl (cs 0, x_names_newest_n, .inl a_names_newest_f_1)), (x_terms, .inr (7, [.ref a_terms_shapes_1, .ref a_terms_values_1, .ref a_terms_firstParts_1, .int a_terms_nodes_1, .ref x_terms_parts, .ref x_terms_variableNames, .ref x_terms_became, .int a_terms_variables_1, .int a_terms_variablesLack_1, .int a_terms_symbols_1, .int a_terms_nodesBefore_1, .int a_terms_partsBefore_1, .int a_terms_variablesBefore_1])), (a_terms_shapes_1, .inl (cs 0, a_terms_shapes_n_1, .inl a_terms_shapes_f_1)), (a_terms_values_1, .inl (cs 2, a_terms_values_n_1, .inr (.inl a_terms_values_f_1))), (a_terms_firstParts_1, .inl (cs 0, a_terms_firstParts_n_1, .inl a_terms_firstParts_f_1)), (x_terms_parts, .inr (1, [.ref a_terms_parts_items_1, .int a_terms_parts_size_1])), (a_terms_parts_items_1, .inl (cs 0, a_terms_parts_items_n_1, .inl a_terms_parts_items_f_1)), (x_terms_variableNames, .inl (cs 0, x_terms_variableNames_n, .inl a_terms_variableNames_f_1)), (x_reader, .inr (5, [.ref x_reader_signs, .ref x_names, .ref x_terms, .ref x_reader_open, .int a_reader_depth_1, .int a_reader_state_1, .int a_reader_nextMost_1, .int a_reader_lastName_1, .int a_reader_lastBehind_1, .ref x_reader_values, .int a_reader_symbols_1, .int a_reader_first_1, .int a_reader_broken_1, .int a_reader_tooMuch_1])), (x_reader_signs, .inr (6, [.ref x_tape, .ref x_names, .int a_reader_signs_kind_1, .int a_reader_signs_place_1, .int a_reader_signs_behind_1, .int a_reader_signs_passed_1, .int a_reader_signs_name_1, .long a_reader_signs_number_1])), (x_reader_open, .inl (cs 3, x_reader_open_n, .inr (.inr (.inr (.inr (pg x_reader_open_ad x_reader_open_n)))))), (x_reader_values, .inr (1, [.ref a_reader_values_items_1, .int a_reader_values_size_1])), (a_reader_values_items_1, .inl (cs 0, a_reader_values_items_n_1, .inl a_reader_values_items_f_1)), (x_registers, .inl (cs 0, x_registers_n, .inl a_registers_f_1)), (out, .inl (cs 2, out_n, .inr (.inl out_f)))]) hP hD [1, 2, 3, 4, 5, 6, 7, 8, 9, 10, 11, 12, 13, 14, 15, 16, 17, 18, 19, 20, 21, 22, 23, 0] (by decide) rfl
          refine W.widen (k := mc) (n := ms) (by omega) (by omega) ?_
          rw [hQ]
          exact W.iret (v := 3) hx hb hr (fun t ht hW => ⟨⟨_, (), rfl, rfl, a_names_texts_1, a_names_ends_items_1, a_names_older_items_1, a_terms_shapes_1, a_terms_values_1, a_terms_firstParts_1, a_terms_parts_items_1, a_reader_values_items_1, by rw [ht]; exact hP9, hD9⟩, hS.F ht⟩) hS.2.2 d_Law_read_20
        · rw [if_neg hy1_3] at hok
          cases hok
