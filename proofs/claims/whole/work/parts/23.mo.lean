theorem wd_776 : ((.fieldLink "UnifyBenchModel" 91 "UnifyBenchModel" "thrown" "I") : Cond) ∈ GW := gw_7 78 (by decide +kernel) rfl
theorem wd_777 : ((.fieldLink "UnifyBenchModel" 13 "UnifyBenchModel" "tape" "[B") : Cond) ∈ GW := gw_7 83 (by decide +kernel) rfl
theorem wd_778 : ((.fieldLink "UnifyBenchModel" 88 "UnifyBenchModel" "taped" "I") : Cond) ∈ GW := gw_7 79 (by decide +kernel) rfl
theorem wd_779 : ((.code y_Mo_four prog_14_method_2_code 3 none) : Cond) ∈ GW := gw_7 163 (by decide +kernel) rfl
theorem wd_780 : ((.initialized "UnifyBenchModel") : Cond) ∈ GW := gw_1 20 (by decide +kernel) rfl
theorem wd_781 : ((.methodLink "UnifyBenchModel" 98 y_Mo_four) : Cond) ∈ GW := gw_7 160 (by decide +kernel) rfl
theorem wd_782 : ((.instanceMethod y_Mo_four) : Cond) ∈ GW := gw_7 162 (by decide +kernel) rfl
theorem wd_783 : (.selects R_Mo y_Mo_four y_Mo_four : Cond) ∈ GW := gw_pr 55 (by decide +kernel) rfl
theorem wd_784 : ((.code y_Mo_fail prog_14_method_4_code 2 (some .int)) : Cond) ∈ GW := gw_7 159 (by decide +kernel) rfl
theorem wd_785 : ((.methodLink "UnifyBenchModel" 94 y_Mo_fail) : Cond) ∈ GW := gw_7 156 (by decide +kernel) rfl
theorem wd_786 : ((.instanceMethod y_Mo_fail) : Cond) ∈ GW := gw_7 158 (by decide +kernel) rfl
theorem wd_787 : (.selects R_Mo y_Mo_fail y_Mo_fail : Cond) ∈ GW := gw_pr 54 (by decide +kernel) rfl
theorem wd_788 : ((.fieldLink "UnifyBenchModel" 23 "UnifyBenchModel" "terms" "LUnifyBenchModel$Terms;") : Cond) ∈ GW := gw_7 85 (by decide +kernel) rfl
theorem wd_789 : ((.fieldLink "UnifyBenchModel" 133 "UnifyBenchModel$Terms" "kind" "[I") : Cond) ∈ GW := gw_6 90 (by decide +kernel) rfl
theorem wd_790 : ((.fieldLink "UnifyBenchModel" 136 "UnifyBenchModel$Terms" "name" "[I") : Cond) ∈ GW := gw_6 93 (by decide +kernel) rfl
theorem wd_791 : ((.fieldLink "UnifyBenchModel" 54 "UnifyBenchModel" "became" "[I") : Cond) ∈ GW := gw_7 90 (by decide +kernel) rfl
theorem wd_792 : ((.fieldLink "UnifyBenchModel" 57 "UnifyBenchModel" "node" "[I") : Cond) ∈ GW := gw_7 91 (by decide +kernel) rfl
theorem wd_793 : ((.code y_Mo_meant prog_14_method_10_code 4 (some .int)) : Cond) ∈ GW := gw_8 77 (by decide +kernel) rfl
theorem wd_794 : ((.methodLink "UnifyBenchModel" 139 y_Mo_meant) : Cond) ∈ GW := gw_8 74 (by decide +kernel) rfl
theorem wd_795 : ((.instanceMethod y_Mo_meant) : Cond) ∈ GW := gw_8 76 (by decide +kernel) rfl
theorem wd_796 : (.selects R_Mo y_Mo_meant y_Mo_meant : Cond) ∈ GW := gw_pr 79 (by decide +kernel) rfl
theorem wd_797 : ((.fieldLink "UnifyBenchModel" 69 "UnifyBenchModel" "up" "[I") : Cond) ∈ GW := gw_7 94 (by decide +kernel) rfl
theorem wd_798 : ((.fieldLink "UnifyBenchModel" 72 "UnifyBenchModel" "touched" "[I") : Cond) ∈ GW := gw_7 95 (by decide +kernel) rfl
theorem wd_799 : ((.fieldLink "UnifyBenchModel" 142 "UnifyBenchModel" "touches" "I") : Cond) ∈ GW := gw_7 98 (by decide +kernel) rfl
theorem wd_800 : ((.fieldLink "UnifyBenchModel" 79 "UnifyBenchModel" "color" "[B") : Cond) ∈ GW := gw_7 97 (by decide +kernel) rfl
theorem wd_801 : ((.fieldLink "UnifyBenchModel" 82 "UnifyBenchModel" "painted" "[I") : Cond) ∈ GW := gw_7 99 (by decide +kernel) rfl
theorem wd_802 : ((.fieldLink "UnifyBenchModel" 166 "UnifyBenchModel" "paints" "I") : Cond) ∈ GW := gw_7 100 (by decide +kernel) rfl
theorem wd_803 : ((.fieldLink "UnifyBenchModel" 76 "UnifyBenchModel" "todo" "[I") : Cond) ∈ GW := gw_7 96 (by decide +kernel) rfl
theorem wd_804 : ((.code y_Mo_root prog_14_method_11_code 3 (some .int)) : Cond) ∈ GW := gw_8 73 (by decide +kernel) rfl
theorem wd_805 : ((.methodLink "UnifyBenchModel" 145 y_Mo_root) : Cond) ∈ GW := gw_8 70 (by decide +kernel) rfl
theorem wd_806 : ((.instanceMethod y_Mo_root) : Cond) ∈ GW := gw_8 72 (by decide +kernel) rfl
theorem wd_807 : (.selects R_Mo y_Mo_root y_Mo_root : Cond) ∈ GW := gw_pr 78 (by decide +kernel) rfl
theorem wd_808 : ((.fieldLink "UnifyBenchModel" 156 "UnifyBenchModel$Terms" "many" "[I") : Cond) ∈ GW := gw_6 97 (by decide +kernel) rfl
theorem wd_809 : ((.code y_Mo_join prog_14_method_12_code 3 none) : Cond) ∈ GW := gw_8 81 (by decide +kernel) rfl
theorem wd_810 : ((.methodLink "UnifyBenchModel" 148 y_Mo_join) : Cond) ∈ GW := gw_8 78 (by decide +kernel) rfl
theorem wd_811 : ((.instanceMethod y_Mo_join) : Cond) ∈ GW := gw_8 80 (by decide +kernel) rfl
theorem wd_812 : (.selects R_Mo y_Mo_join y_Mo_join : Cond) ∈ GW := gw_pr 80 (by decide +kernel) rfl
theorem wd_813 : ((.methodLink "UnifyBenchModel" 159 y_MoTerms_part) : Cond) ∈ GW := gw_8 82 (by decide +kernel) rfl
theorem wd_814 : ((.fieldLink "UnifyBenchModel" 152 "UnifyBenchModel$Terms" "number" "[J") : Cond) ∈ GW := gw_6 101 (by decide +kernel) rfl
theorem wd_815 : ((.code y_Mo_paint prog_14_method_16_code 3 none) : Cond) ∈ GW := gw_8 93 (by decide +kernel) rfl
theorem wd_816 : ((.methodLink "UnifyBenchModel" 163 y_Mo_paint) : Cond) ∈ GW := gw_8 90 (by decide +kernel) rfl
theorem wd_817 : ((.instanceMethod y_Mo_paint) : Cond) ∈ GW := gw_8 92 (by decide +kernel) rfl
theorem wd_818 : (.selects R_Mo y_Mo_paint y_Mo_paint : Cond) ∈ GW := gw_pr 82 (by decide +kernel) rfl
theorem wd_819 : ((.code y_Mo_none prog_14_method_7_code 1 (some .boolean)) : Cond) ∈ GW := gw_7 175 (by decide +kernel) rfl
theorem wd_820 : ((.methodLink "UnifyBenchModel" 124 y_Mo_none) : Cond) ∈ GW := gw_7 173 (by decide +kernel) rfl
theorem wd_821 : ((.static y_Mo_none) : Cond) ∈ GW := gw_7 174 (by decide +kernel) rfl
theorem wd_822 : ((.fieldLink "UnifyBenchModel" 50 "UnifyBenchModel" "register" "[I") : Cond) ∈ GW := gw_7 89 (by decide +kernel) rfl
theorem wd_823 : ((.code y_Mo_classes prog_14_method_14_code 10 (some .boolean)) : Cond) ∈ GW := gw_8 69 (by decide +kernel) rfl
theorem wd_824 : ((.methodLink "UnifyBenchModel" 169 y_Mo_classes) : Cond) ∈ GW := gw_8 66 (by decide +kernel) rfl
theorem wd_825 : ((.instanceMethod y_Mo_classes) : Cond) ∈ GW := gw_8 68 (by decide +kernel) rfl
theorem wd_826 : (.selects R_Mo y_Mo_classes y_Mo_classes : Cond) ∈ GW := gw_pr 77 (by decide +kernel) rfl
theorem wd_827 : ((.code y_Mo_part_ prog_14_method_13_code 2 none) : Cond) ∈ GW := gw_8 97 (by decide +kernel) rfl
theorem wd_828 : ((.methodLink "UnifyBenchModel" 176 y_Mo_part_) : Cond) ∈ GW := gw_8 94 (by decide +kernel) rfl
theorem wd_829 : ((.instanceMethod y_Mo_part_) : Cond) ∈ GW := gw_8 96 (by decide +kernel) rfl
theorem wd_830 : (.selects R_Mo y_Mo_part_ y_Mo_part_ : Cond) ∈ GW := gw_pr 83 (by decide +kernel) rfl
theorem wd_831 : ((.code y_Mo_finite prog_14_method_15_code 6 (some .boolean)) : Cond) ∈ GW := gw_8 89 (by decide +kernel) rfl
theorem wd_832 : ((.methodLink "UnifyBenchModel" 173 y_Mo_finite) : Cond) ∈ GW := gw_8 86 (by decide +kernel) rfl
theorem wd_833 : ((.instanceMethod y_Mo_finite) : Cond) ∈ GW := gw_8 88 (by decide +kernel) rfl
theorem wd_834 : (.selects R_Mo y_Mo_finite y_Mo_finite : Cond) ∈ GW := gw_pr 81 (by decide +kernel) rfl
theorem wd_835 : ((.fieldLink "UnifyBenchModel" 39 "UnifyBenchModel" "reader" "LUnifyBenchModel$Reader;") : Cond) ∈ GW := gw_7 87 (by decide +kernel) rfl
theorem wd_836 : ((.fieldLink "UnifyBenchModel" 111 "UnifyBenchModel$Reader" "variabled" "I") : Cond) ∈ GW := gw_6 214 (by decide +kernel) rfl
theorem wd_837 : ((.fieldLink "UnifyBenchModel" 189 "UnifyBenchModel" "resulted" "I") : Cond) ∈ GW := gw_7 81 (by decide +kernel) rfl
theorem wd_838 : ((.fieldLink "UnifyBenchModel" 17 "UnifyBenchModel" "result" "[B") : Cond) ∈ GW := gw_7 84 (by decide +kernel) rfl
theorem d_Mo_thrown_0 : decode b_Mo_thrown 0 = .ok (.aload_n 0, 1) := by decide +kernel
theorem d_Mo_thrown_1 : decode b_Mo_thrown 1 = .ok (.getfield 91, 3) := by decide +kernel
theorem d_Mo_thrown_4 : decode b_Mo_thrown 4 = .ok (.ireturn, 1) := by decide +kernel
def p_Mo_thrown (a_thrown : Int32) (a_taped : Int32) (a_place : Int32) (a_resulted : Int32) (a_marks : Int32) (a_touches : Int32) (a_paints : Int32) : Option Int32 := some a_thrown
set_option maxHeartbeats 40000000 in
set_option maxRecDepth 100000 in
theorem c_Mo_thrown (l : Launch) (g : va_G) (cs : Nat → ClassId) (ka : Nat → Nat) (a_tape : Nat) (a_result : Nat) (a_terms : Nat) (a_names : Nat) (a_reader : Nat) (a_paper : Nat) (a_register : Nat) (a_became : Nat) (a_node : Nat) (a_marked : Nat) (a_markedRegister : Nat) (a_up : Nat) (a_touched : Nat) (a_todo : Nat) (a_color : Nat) (a_painted : Nat) (a : Nat) (sz : Nat) (a_thrown : Int32) (a_taped : Int32) (a_place : Int32) (a_resulted : Int32) (a_marks : Int32) (a_touches : Int32) (a_paints : Int32) (r : Int32) (hok : p_Mo_thrown a_thrown a_taped a_place a_resulted a_marks a_touches a_paints = some r) : Met l y_Mo_thrown (.code y_Mo_thrown b_Mo_thrown 1 (some .int) :: GW) { frames := 0, cells := 0, slots := 0, locals := 0 } (va_Pc [.ref a] (gP g cs ka [(a, .inr (14, [.int a_thrown, .int a_taped, .int a_place, .int a_resulted, .int a_marks, .ref a_tape, .ref a_result, .ref a_terms, .ref a_names, .ref a_reader, .ref a_paper, .ref a_register, .ref a_became, .ref a_node, .ref a_marked, .ref a_markedRegister, .ref a_up, .ref a_touched, .ref a_todo, .ref a_color, .int a_touches, .ref a_painted, .int a_paints]))] sz)) (va_Qi (fun (r' : Int32) (_ : Unit) => r = r') (fun _ t => va_P g classes [(a, .inr (14, [.int a_thrown, .int a_taped, .int a_place, .int a_resulted, .int a_marks, .ref a_tape, .ref a_result, .ref a_terms, .ref a_names, .ref a_reader, .ref a_paper, .ref a_register, .ref a_became, .ref a_node, .ref a_marked, .ref a_markedRegister, .ref a_up, .ref a_touched, .ref a_todo, .ref a_color, .int a_touches, .ref a_painted, .int a_paints]))] t.heap ∧ va_D (va_A [(a, .inr (14, [.int a_thrown, .int a_taped, .int a_place, .int a_resulted, .int a_marks, .ref a_tape, .ref a_result, .ref a_terms, .ref a_names, .ref a_reader, .ref a_paper, .ref a_register, .ref a_became, .ref a_node, .ref a_marked, .ref a_markedRegister, .ref a_up, .ref a_touched, .ref a_todo, .ref a_color, .int a_touches, .ref a_painted, .int a_paints]))] sz) [(a, .inr (14, [.int a_thrown, .int a_taped, .int a_place, .int a_resulted, .int a_marks, .ref a_tape, .ref a_result, .ref a_terms, .ref a_names, .ref a_reader, .ref a_paper, .ref a_register, .ref a_became, .ref a_node, .ref a_marked, .ref a_markedRegister, .ref a_up, .ref a_touched, .ref a_todo, .ref a_color, .int a_touches, .ref a_painted, .int a_paints]))]) (va_A [(a, .inr (14, [.int a_thrown, .int a_taped, .int a_place, .int a_resulted, .int a_marks, .ref a_tape, .ref a_result, .ref a_terms, .ref a_names, .ref a_reader, .ref a_paper, .ref a_register, .ref a_became, .ref a_node, .ref a_marked, .ref a_markedRegister, .ref a_up, .ref a_touched, .ref a_todo, .ref a_color, .int a_touches, .ref a_painted, .int a_paints]))] sz)) 0 0 (va_A [(a, .inr (14, [.int a_thrown, .int a_taped, .int a_place, .int a_resulted, .int a_marks, .ref a_tape, .ref a_result, .ref a_terms, .ref a_names, .ref a_reader, .ref a_paper, .ref a_register, .ref a_became, .ref a_node, .ref a_marked, .ref a_markedRegister, .ref a_up, .ref a_touched, .ref a_todo, .ref a_color, .int a_touches, .ref a_painted, .int a_paints]))] sz) := by
  refine Met.ofW (cc := b_Mo_thrown) (maxL := 1) (ret := (some .int)) (by decide) rfl ?_
  intro p e s m args below meth c s₁ B hml hv
  obtain ⟨rfl, hsz, hP, hK, hD0, hgl, hkn, hkr⟩ := hv
  have hx := B.exec
  have hb := B.bytes
  have hr := B.returns
  have hg : ∀ w ∈ GW, w.before ([.ref a] : List Value).toArray s = true := fun w hw => atoms_spec (ws := .code y_Mo_thrown b_Mo_thrown 1 (some .int) :: GW) B.pre w (List.mem_cons_of_mem _ hw)
  have hown : s.vm.findClass R_Mo = some m.cls := findClass_of_methodNamed B.named
  have hlocks := B.notSynchronized
  subst hsz
  have hD := hD0.self (sz := s.heap.size)
  generalize hAe : va_A [(a, .inr (14, [.int a_thrown, .int a_taped, .int a_place, .int a_resulted, .int a_marks, .ref a_tape, .ref a_result, .ref a_terms, .ref a_names, .ref a_reader, .ref a_paper, .ref a_register, .ref a_became, .ref a_node, .ref a_marked, .ref a_markedRegister, .ref a_up, .ref a_touched, .ref a_todo, .ref a_color, .int a_touches, .ref a_painted, .int a_paints]))] s.heap.size = A at hD hkn ⊢
  have hA : ∀ q : Nat, s.heap.size ≤ q → A q := fun q h => by rw [← hAe]; exact Or.inr h
  have hS : va_S A s.heap s.heap [] := va_S.rf
  have hP : va_P g classes [(a, .inr (14, [.int a_thrown, .int a_taped, .int a_place, .int a_resulted, .int a_marks, .ref a_tape, .ref a_result, .ref a_terms, .ref a_names, .ref a_reader, .ref a_paper, .ref a_register, .ref a_became, .ref a_node, .ref a_marked, .ref a_markedRegister, .ref a_up, .ref a_touched, .ref a_todo, .ref a_color, .int a_touches, .ref a_painted, .int a_paints]))] s.heap := hP
  have hl := lv_entry ([.ref a]) (n := 1) (Nat.le_of_ble_eq_true rfl)
  rw [lg_entry_eq]
  generalize (lg_sl ([.ref a]) ++ List.replicate (1 - (lg_sl ([.ref a])).length) Slot.unset).toArray = ls at hl ⊢
  have hl : lv_has ls 1 [(0, .ref a)] := hl
  refine gq (fun Q hQ => ?_)
  obtain ⟨H, hH⟩ : ∃ H : Heap, H = s.heap := ⟨_, rfl⟩
  rw [← hH] at hP
  have hS : va_S A s.heap H [] := by rw [hH]; exact hS
  refine W.eqH hH ?_
  obtain ⟨locs, hlc⟩ : ∃ L : List Loc, L = [] := ⟨_, rfl⟩
  rw [← hlc] at hS ⊢
  unfold p_Mo_thrown at hok
  refine lv_aload_n hx hb d_Mo_thrown_0 rfl (lv_at hl 0 rfl) ?_
  refine va_get (D := g) (ci := 14) (v := .int a_thrown) (C := R_Mo) (T := F_Mo) (N := 23) hx hb hg ul_Mo hown hK hP 0 rfl rfl 0 (by decide) (hg _ wd_776) (fun _ h9 => h9) rfl d_Mo_thrown_1 ?_
  have hq := Option.some.inj hok
  have hq0 := hq
  subst hq0
  obtain ⟨hP9, hD9⟩ := sub2 (ws' := [(a, .inr (14, [.int a_thrown, .int a_taped, .int a_place, .int a_resulted, .int a_marks, .ref a_tape, .ref a_result, .ref a_terms, .ref a_names, .ref a_reader, .ref a_paper, .ref a_register, .ref a_became, .ref a_node, .ref a_marked, .ref a_markedRegister, .ref a_up, .ref a_touched, .ref a_todo, .ref a_color, .int a_touches, .ref a_painted, .int a_paints]))]) hP hD [0] rfl (by decide) rfl
  rw [hQ]
  exact W.iret (v := a_thrown) hx hb hr (fun t ht hW => ⟨⟨_, (), rfl, rfl, by rw [ht]; exact hP9, hD9⟩, hS.F ht⟩) hS.2.2 d_Mo_thrown_4

theorem d_Mo_fail_0 : decode b_Mo_fail 0 = .ok (.aload_n 0, 1) := by decide +kernel
theorem d_Mo_fail_1 : decode b_Mo_fail 1 = .ok (.iload_n 1, 1) := by decide +kernel
theorem d_Mo_fail_2 : decode b_Mo_fail 2 = .ok (.putfield 91, 3) := by decide +kernel
theorem d_Mo_fail_5 : decode b_Mo_fail 5 = .ok (.iconst 0, 1) := by decide +kernel
theorem d_Mo_fail_6 : decode b_Mo_fail 6 = .ok (.ireturn, 1) := by decide +kernel
def p_Mo_fail (code : Int32) (a_thrown : Int32) (a_taped : Int32) (a_place : Int32) (a_resulted : Int32) (a_marks : Int32) (a_touches : Int32) (a_paints : Int32) : Option (Int32 × Int32) := some ((0 : Int32), code)
set_option maxHeartbeats 40000000 in
set_option maxRecDepth 100000 in
theorem c_Mo_fail (l : Launch) (g : va_G) (cs : Nat → ClassId) (ka : Nat → Nat) (a_tape : Nat) (a_result : Nat) (a_terms : Nat) (a_names : Nat) (a_reader : Nat) (a_paper : Nat) (a_register : Nat) (a_became : Nat) (a_node : Nat) (a_marked : Nat) (a_markedRegister : Nat) (a_up : Nat) (a_touched : Nat) (a_todo : Nat) (a_color : Nat) (a_painted : Nat) (a : Nat) (sz : Nat) (code : Int32) (a_thrown : Int32) (a_taped : Int32) (a_place : Int32) (a_resulted : Int32) (a_marks : Int32) (a_touches : Int32) (a_paints : Int32) (r : Int32) (o_a_thrown : Int32) (hok : p_Mo_fail code a_thrown a_taped a_place a_resulted a_marks a_touches a_paints = some (r, o_a_thrown)) : Met l y_Mo_fail (.code y_Mo_fail b_Mo_fail 2 (some .int) :: GW) { frames := 0, cells := 0, slots := 0, locals := 0 } (va_Pc [.ref a, .int code] (gP g cs ka [(a, .inr (14, [.int a_thrown, .int a_taped, .int a_place, .int a_resulted, .int a_marks, .ref a_tape, .ref a_result, .ref a_terms, .ref a_names, .ref a_reader, .ref a_paper, .ref a_register, .ref a_became, .ref a_node, .ref a_marked, .ref a_markedRegister, .ref a_up, .ref a_touched, .ref a_todo, .ref a_color, .int a_touches, .ref a_painted, .int a_paints]))] sz)) (va_Qi (fun (r' : Int32) (_ : Unit) => r = r') (fun _ t => va_P g classes [(a, .inr (14, [.int o_a_thrown, .int a_taped, .int a_place, .int a_resulted, .int a_marks, .ref a_tape, .ref a_result, .ref a_terms, .ref a_names, .ref a_reader, .ref a_paper, .ref a_register, .ref a_became, .ref a_node, .ref a_marked, .ref a_markedRegister, .ref a_up, .ref a_touched, .ref a_todo, .ref a_color, .int a_touches, .ref a_painted, .int a_paints]))] t.heap ∧ va_D (va_A [(a, .inr (14, [.int a_thrown, .int a_taped, .int a_place, .int a_resulted, .int a_marks, .ref a_tape, .ref a_result, .ref a_terms, .ref a_names, .ref a_reader, .ref a_paper, .ref a_register, .ref a_became, .ref a_node, .ref a_marked, .ref a_markedRegister, .ref a_up, .ref a_touched, .ref a_todo, .ref a_color, .int a_touches, .ref a_painted, .int a_paints]))] sz) [(a, .inr (14, [.int o_a_thrown, .int a_taped, .int a_place, .int a_resulted, .int a_marks, .ref a_tape, .ref a_result, .ref a_terms, .ref a_names, .ref a_reader, .ref a_paper, .ref a_register, .ref a_became, .ref a_node, .ref a_marked, .ref a_markedRegister, .ref a_up, .ref a_touched, .ref a_todo, .ref a_color, .int a_touches, .ref a_painted, .int a_paints]))]) (va_A [(a, .inr (14, [.int a_thrown, .int a_taped, .int a_place, .int a_resulted, .int a_marks, .ref a_tape, .ref a_result, .ref a_terms, .ref a_names, .ref a_reader, .ref a_paper, .ref a_register, .ref a_became, .ref a_node, .ref a_marked, .ref a_markedRegister, .ref a_up, .ref a_touched, .ref a_todo, .ref a_color, .int a_touches, .ref a_painted, .int a_paints]))] sz)) 0 0 (va_A [(a, .inr (14, [.int a_thrown, .int a_taped, .int a_place, .int a_resulted, .int a_marks, .ref a_tape, .ref a_result, .ref a_terms, .ref a_names, .ref a_reader, .ref a_paper, .ref a_register, .ref a_became, .ref a_node, .ref a_marked, .ref a_markedRegister, .ref a_up, .ref a_touched, .ref a_todo, .ref a_color, .int a_touches, .ref a_painted, .int a_paints]))] sz) := by
  refine Met.ofW (cc := b_Mo_fail) (maxL := 2) (ret := (some .int)) (by decide) rfl ?_
  intro p e s m args below meth c s₁ B hml hv
  obtain ⟨rfl, hsz, hP, hK, hD0, hgl, hkn, hkr⟩ := hv
  have hx := B.exec
  have hb := B.bytes
  have hr := B.returns
  have hg : ∀ w ∈ GW, w.before ([.ref a, .int code] : List Value).toArray s = true := fun w hw => atoms_spec (ws := .code y_Mo_fail b_Mo_fail 2 (some .int) :: GW) B.pre w (List.mem_cons_of_mem _ hw)
  have hown : s.vm.findClass R_Mo = some m.cls := findClass_of_methodNamed B.named
  have hlocks := B.notSynchronized
  subst hsz
  have hD := hD0.self (sz := s.heap.size)
  generalize hAe : va_A [(a, .inr (14, [.int a_thrown, .int a_taped, .int a_place, .int a_resulted, .int a_marks, .ref a_tape, .ref a_result, .ref a_terms, .ref a_names, .ref a_reader, .ref a_paper, .ref a_register, .ref a_became, .ref a_node, .ref a_marked, .ref a_markedRegister, .ref a_up, .ref a_touched, .ref a_todo, .ref a_color, .int a_touches, .ref a_painted, .int a_paints]))] s.heap.size = A at hD hkn ⊢
  have hA : ∀ q : Nat, s.heap.size ≤ q → A q := fun q h => by rw [← hAe]; exact Or.inr h
  have hS : va_S A s.heap s.heap [] := va_S.rf
  have hP : va_P g classes [(a, .inr (14, [.int a_thrown, .int a_taped, .int a_place, .int a_resulted, .int a_marks, .ref a_tape, .ref a_result, .ref a_terms, .ref a_names, .ref a_reader, .ref a_paper, .ref a_register, .ref a_became, .ref a_node, .ref a_marked, .ref a_markedRegister, .ref a_up, .ref a_touched, .ref a_todo, .ref a_color, .int a_touches, .ref a_painted, .int a_paints]))] s.heap := hP
  have hl := lv_entry ([.ref a, .int code]) (n := 2) (Nat.le_of_ble_eq_true rfl)
  rw [lg_entry_eq]
  generalize (lg_sl ([.ref a, .int code]) ++ List.replicate (2 - (lg_sl ([.ref a, .int code])).length) Slot.unset).toArray = ls at hl ⊢
  have hl : lv_has ls 2 [(0, .ref a), (1, .int code)] := hl
  refine gq (fun Q hQ => ?_)
  obtain ⟨H, hH⟩ : ∃ H : Heap, H = s.heap := ⟨_, rfl⟩
  rw [← hH] at hP
  have hS : va_S A s.heap H [] := by rw [hH]; exact hS
  refine W.eqH hH ?_
  obtain ⟨locs, hlc⟩ : ∃ L : List Loc, L = [] := ⟨_, rfl⟩
  rw [← hlc] at hS ⊢
  unfold p_Mo_fail at hok
  refine lv_aload_n hx hb d_Mo_fail_0 rfl (lv_at hl 0 rfl) ?_
  refine lv_iload_n hx hb d_Mo_fail_1 rfl (lv_at hl 1 rfl) ?_
  refine va_put (D := g) (ci := 14) (v := .int code) (ty := .int) (C := R_Mo) (T := F_Mo) (N := 23) hx hb hg ul_Mo t_Mo tk_Mo n_Mo hown hK hP hD hS 0 rfl rfl 0 (by decide) (hg _ wd_776) (fun _ h9 => h9) rfl (by decide +kernel) rfl rfl (Nat.le_of_ble_eq_true rfl) d_Mo_fail_2 (fun H locs hP hD hS => ?_)
  obtain ⟨hP, hD⟩ : PD g A H [(a, .inr (14, [.int code, .int a_taped, .int a_place, .int a_resulted, .int a_marks, .ref a_tape, .ref a_result, .ref a_terms, .ref a_names, .ref a_reader, .ref a_paper, .ref a_register, .ref a_became, .ref a_node, .ref a_marked, .ref a_markedRegister, .ref a_up, .ref a_touched, .ref a_todo, .ref a_color, .int a_touches, .ref a_painted, .int a_paints]))] := ⟨hP, hD⟩
  refine lv_iconst (v := 0) hx hb d_Mo_fail_5 (by decide) ?_
  have hq := Option.some.inj hok
  obtain ⟨hq0, hq⟩ := Prod.mk.inj hq
  have hq1 := hq
  subst hq0
  subst hq1
  obtain ⟨hP9, hD9⟩ := sub2 (ws' := [(a, .inr (14, [.int code, .int a_taped, .int a_place, .int a_resulted, .int a_marks, .ref a_tape, .ref a_result, .ref a_terms, .ref a_names, .ref a_reader, .ref a_paper, .ref a_register, .ref a_became, .ref a_node, .ref a_marked, .ref a_markedRegister, .ref a_up, .ref a_touched, .ref a_todo, .ref a_color, .int a_touches, .ref a_painted, .int a_paints]))]) hP hD [0] rfl (by decide) rfl
  rw [hQ]
  exact W.iret (v := 0) hx hb hr (fun t ht hW => ⟨⟨_, (), rfl, rfl, by rw [ht]; exact hP9, hD9⟩, hS.F ht⟩) hS.2.2 d_Mo_fail_6

theorem d_Mo_four_0 : decode b_Mo_four 0 = .ok (.bipush 24, 2) := by decide +kernel
theorem d_Mo_four_2 : decode b_Mo_four 2 = .ok (.istore_n 2, 1) := by decide +kernel
theorem d_Mo_four_3 : decode b_Mo_four 3 = .ok (.iload_n 2, 1) := by decide +kernel
theorem d_Mo_four_4 : decode b_Mo_four 4 = .ok (.ifCond .lt 32, 3) := by decide +kernel
theorem d_Mo_four_7 : decode b_Mo_four 7 = .ok (.aload_n 0, 1) := by decide +kernel
theorem d_Mo_four_8 : decode b_Mo_four 8 = .ok (.getfield 13, 3) := by decide +kernel
theorem d_Mo_four_11 : decode b_Mo_four 11 = .ok (.aload_n 0, 1) := by decide +kernel
theorem d_Mo_four_12 : decode b_Mo_four 12 = .ok (.getfield 88, 3) := by decide +kernel
theorem d_Mo_four_15 : decode b_Mo_four 15 = .ok (.iload_n 1, 1) := by decide +kernel
theorem d_Mo_four_16 : decode b_Mo_four 16 = .ok (.iload_n 2, 1) := by decide +kernel
theorem d_Mo_four_17 : decode b_Mo_four 17 = .ok (.ishr, 1) := by decide +kernel
theorem d_Mo_four_18 : decode b_Mo_four 18 = .ok (.i2b, 1) := by decide +kernel
theorem d_Mo_four_19 : decode b_Mo_four 19 = .ok (.bastore, 1) := by decide +kernel
theorem d_Mo_four_20 : decode b_Mo_four 20 = .ok (.aload_n 0, 1) := by decide +kernel
theorem d_Mo_four_21 : decode b_Mo_four 21 = .ok (.dup, 1) := by decide +kernel
theorem d_Mo_four_22 : decode b_Mo_four 22 = .ok (.getfield 88, 3) := by decide +kernel
theorem d_Mo_four_25 : decode b_Mo_four 25 = .ok (.iconst 1, 1) := by decide +kernel
theorem d_Mo_four_26 : decode b_Mo_four 26 = .ok (.iadd, 1) := by decide +kernel
theorem d_Mo_four_27 : decode b_Mo_four 27 = .ok (.putfield 88, 3) := by decide +kernel
theorem d_Mo_four_30 : decode b_Mo_four 30 = .ok (.iinc 2 (-8), 3) := by decide +kernel
theorem d_Mo_four_33 : decode b_Mo_four 33 = .ok (.goto (-30), 3) := by decide +kernel
theorem d_Mo_four_36 : decode b_Mo_four 36 = .ok (.return_, 1) := by decide +kernel
def p_Mo_four_3 (n : Nat) (v : Int32) (a_tape_n : Nat) (kf1 : Nat) (x2_1 : Int32) (a_taped_1 : Int32) (a_tape_1f : Nat → Int32) : Option (Int32 × (Nat → Int32)) := match kf1 with
  | 0 => none
  | kf1 + 1 => if x2_1 < 0 then (some (a_taped_1, a_tape_1f)) else (ck (ixb a_taped_1 a_tape_n) (p_Mo_four_3 n v a_tape_n kf1 (x2_1 + (-8)) (a_taped_1 + 1) (upd a_tape_1f a_taped_1.toNatClampNeg (vp_nar .byte ((v >>> (x2_1 &&& 31)).toInt8.toInt32)))))
def p_Mo_four (n : Nat) (v : Int32) (a_thrown : Int32) (a_taped : Int32) (a_place : Int32) (a_resulted : Int32) (a_marks : Int32) (a_touches : Int32) (a_paints : Int32) (a_tape_n : Nat) (a_tape_f : Nat → Int32) : Option (Int32 × (Nat → Int32)) := p_Mo_four_3 n v a_tape_n n (24 : Int32) a_taped a_tape_f
set_option maxHeartbeats 40000000 in
set_option maxRecDepth 100000 in
theorem c_Mo_four (l : Launch) (g : va_G) (cs : Nat → ClassId) (ka : Nat → Nat) (a_result : Nat) (a_terms : Nat) (a_names : Nat) (a_reader : Nat) (a_paper : Nat) (a_register : Nat) (a_became : Nat) (a_node : Nat) (a_marked : Nat) (a_markedRegister : Nat) (a_up : Nat) (a_touched : Nat) (a_todo : Nat) (a_color : Nat) (a_painted : Nat) (a a_tape : Nat) (sz : Nat) (n : Nat) (v : Int32) (a_thrown : Int32) (a_taped : Int32) (a_place : Int32) (a_resulted : Int32) (a_marks : Int32) (a_touches : Int32) (a_paints : Int32) (a_tape_n : Nat) (a_tape_f : Nat → Int32) (o_a_taped : Int32) (o_a_tape_f : Nat → Int32) (hok : p_Mo_four n v a_thrown a_taped a_place a_resulted a_marks a_touches a_paints a_tape_n a_tape_f = some (o_a_taped, o_a_tape_f)) : Met l y_Mo_four (.code y_Mo_four b_Mo_four 3 none :: GW) { frames := 0, cells := 0, slots := 0, locals := 0 } (va_Pc [.ref a, .int v] (gP g cs ka [(a, .inr (14, [.int a_thrown, .int a_taped, .int a_place, .int a_resulted, .int a_marks, .ref a_tape, .ref a_result, .ref a_terms, .ref a_names, .ref a_reader, .ref a_paper, .ref a_register, .ref a_became, .ref a_node, .ref a_marked, .ref a_markedRegister, .ref a_up, .ref a_touched, .ref a_todo, .ref a_color, .int a_touches, .ref a_painted, .int a_paints])), (a_tape, .inl (cs 1, a_tape_n, .inl a_tape_f))] sz)) (va_Qv (fun _ : Unit => True) (fun _ t => va_P g classes [(a, .inr (14, [.int a_thrown, .int o_a_taped, .int a_place, .int a_resulted, .int a_marks, .ref a_tape, .ref a_result, .ref a_terms, .ref a_names, .ref a_reader, .ref a_paper, .ref a_register, .ref a_became, .ref a_node, .ref a_marked, .ref a_markedRegister, .ref a_up, .ref a_touched, .ref a_todo, .ref a_color, .int a_touches, .ref a_painted, .int a_paints])), (a_tape, .inl (cs 1, a_tape_n, .inl o_a_tape_f))] t.heap ∧ va_D (va_A [(a, .inr (14, [.int a_thrown, .int a_taped, .int a_place, .int a_resulted, .int a_marks, .ref a_tape, .ref a_result, .ref a_terms, .ref a_names, .ref a_reader, .ref a_paper, .ref a_register, .ref a_became, .ref a_node, .ref a_marked, .ref a_markedRegister, .ref a_up, .ref a_touched, .ref a_todo, .ref a_color, .int a_touches, .ref a_painted, .int a_paints])), (a_tape, .inl (cs 1, a_tape_n, .inl a_tape_f))] sz) [(a, .inr (14, [.int a_thrown, .int o_a_taped, .int a_place, .int a_resulted, .int a_marks, .ref a_tape, .ref a_result, .ref a_terms, .ref a_names, .ref a_reader, .ref a_paper, .ref a_register, .ref a_became, .ref a_node, .ref a_marked, .ref a_markedRegister, .ref a_up, .ref a_touched, .ref a_todo, .ref a_color, .int a_touches, .ref a_painted, .int a_paints])), (a_tape, .inl (cs 1, a_tape_n, .inl o_a_tape_f))]) (va_A [(a, .inr (14, [.int a_thrown, .int a_taped, .int a_place, .int a_resulted, .int a_marks, .ref a_tape, .ref a_result, .ref a_terms, .ref a_names, .ref a_reader, .ref a_paper, .ref a_register, .ref a_became, .ref a_node, .ref a_marked, .ref a_markedRegister, .ref a_up, .ref a_touched, .ref a_todo, .ref a_color, .int a_touches, .ref a_painted, .int a_paints])), (a_tape, .inl (cs 1, a_tape_n, .inl a_tape_f))] sz)) 0 0 (va_A [(a, .inr (14, [.int a_thrown, .int a_taped, .int a_place, .int a_resulted, .int a_marks, .ref a_tape, .ref a_result, .ref a_terms, .ref a_names, .ref a_reader, .ref a_paper, .ref a_register, .ref a_became, .ref a_node, .ref a_marked, .ref a_markedRegister, .ref a_up, .ref a_touched, .ref a_todo, .ref a_color, .int a_touches, .ref a_painted, .int a_paints])), (a_tape, .inl (cs 1, a_tape_n, .inl a_tape_f))] sz) := by
  refine Met.ofW (cc := b_Mo_four) (maxL := 3) (ret := none) (by decide) rfl ?_
  intro p e s m args below meth c s₁ B hml hv
  obtain ⟨rfl, hsz, hP, hK, hD0, hgl, hkn, hkr⟩ := hv
  have hx := B.exec
  have hb := B.bytes
  have hr := B.returns
  have hg : ∀ w ∈ GW, w.before ([.ref a, .int v] : List Value).toArray s = true := fun w hw => atoms_spec (ws := .code y_Mo_four b_Mo_four 3 none :: GW) B.pre w (List.mem_cons_of_mem _ hw)
  have hown : s.vm.findClass R_Mo = some m.cls := findClass_of_methodNamed B.named
  have hlocks := B.notSynchronized
  subst hsz
  have hD := hD0.self (sz := s.heap.size)
  generalize hAe : va_A [(a, .inr (14, [.int a_thrown, .int a_taped, .int a_place, .int a_resulted, .int a_marks, .ref a_tape, .ref a_result, .ref a_terms, .ref a_names, .ref a_reader, .ref a_paper, .ref a_register, .ref a_became, .ref a_node, .ref a_marked, .ref a_markedRegister, .ref a_up, .ref a_touched, .ref a_todo, .ref a_color, .int a_touches, .ref a_painted, .int a_paints])), (a_tape, .inl (cs 1, a_tape_n, .inl a_tape_f))] s.heap.size = A at hD hkn ⊢
  have hA : ∀ q : Nat, s.heap.size ≤ q → A q := fun q h => by rw [← hAe]; exact Or.inr h
  have hS : va_S A s.heap s.heap [] := va_S.rf
  have hP : va_P g classes [(a, .inr (14, [.int a_thrown, .int a_taped, .int a_place, .int a_resulted, .int a_marks, .ref a_tape, .ref a_result, .ref a_terms, .ref a_names, .ref a_reader, .ref a_paper, .ref a_register, .ref a_became, .ref a_node, .ref a_marked, .ref a_markedRegister, .ref a_up, .ref a_touched, .ref a_todo, .ref a_color, .int a_touches, .ref a_painted, .int a_paints])), (a_tape, .inl (cs 1, a_tape_n, .inl a_tape_f))] s.heap := hP
  have hl := lv_entry ([.ref a, .int v]) (n := 3) (Nat.le_of_ble_eq_true rfl)
  rw [lg_entry_eq]
  generalize (lg_sl ([.ref a, .int v]) ++ List.replicate (3 - (lg_sl ([.ref a, .int v])).length) Slot.unset).toArray = ls at hl ⊢
  have hl : lv_has ls 3 [(0, .ref a), (1, .int v)] := hl
  refine gq (fun Q hQ => ?_)
  obtain ⟨H, hH⟩ : ∃ H : Heap, H = s.heap := ⟨_, rfl⟩
  rw [← hH] at hP
  have hS : va_S A s.heap H [] := by rw [hH]; exact hS
  refine W.eqH hH ?_
  obtain ⟨locs, hlc⟩ : ∃ L : List Loc, L = [] := ⟨_, rfl⟩
  rw [← hlc] at hS ⊢
  unfold p_Mo_four at hok
  refine lv_bipush (v := 24) hx hb d_Mo_four_0 (by decide) ?_
  refine lv_istore_n hx hb d_Mo_four_2 rfl hl (by decide) rfl (fun ls hl => ?_)
  have hl : lv_has ls 3 [(2, .int 24), (0, .ref a), (1, .int v)] := hl
  have J1 : ∀ (kf1 : Nat) (H : Heap) (locs : List Loc) (ls : Array Slot) (x2_1 : Int32) (a_taped_1 : Int32) (a_tape_1f : Nat → Int32), lv_has ls 3 [(2, .int x2_1), (0, .ref a), (1, .int v)] → PD g A H [(a, .inr (14, [.int a_thrown, .int a_taped_1, .int a_place, .int a_resulted, .int a_marks, .ref a_tape, .ref a_result, .ref a_terms, .ref a_names, .ref a_reader, .ref a_paper, .ref a_register, .ref a_became, .ref a_node, .ref a_marked, .ref a_markedRegister, .ref a_up, .ref a_touched, .ref a_todo, .ref a_color, .int a_touches, .ref a_painted, .int a_paints])), (a_tape, .inl (cs 1, a_tape_n, .inl a_tape_1f))] → va_S A s.heap H locs → p_Mo_four_3 n v a_tape_n kf1 x2_1 a_taped_1 a_tape_1f = some (o_a_taped, o_a_tape_f) → W p l e (headSpec (.code y_Mo_four b_Mo_four 3 none :: GW) { frames := 0, cells := 0, slots := 0, locals := 0 }).room s m ([.ref a, .int v] : List Value).toArray below meth c H locs 0 0 Q (F0 m 3 ls []) := by
    intro kf1
    induction kf1 with
    | zero => intro H locs ls x2_1 a_taped_1 a_tape_1f hl ⟨hP, hD⟩ hS hok; rw [p_Mo_four_3] at hok; cases hok
    | succ kf1 ih1 =>
      intro H locs ls x2_1 a_taped_1 a_tape_1f hl ⟨hP, hD⟩ hS hok
      rw [p_Mo_four_3] at hok
      refine lv_iload_n hx hb d_Mo_four_3 rfl (lv_at hl 0 rfl) ?_
      refine lv_if_lt hx hb d_Mo_four_4 rfl (fun h2 => ?_) (fun h2 => ?_)
      · rw [if_pos h2] at hok
        have hq := Option.some.inj hok
        obtain ⟨hq0, hq⟩ := Prod.mk.inj hq
        have hq1 := hq
        subst hq0
        subst hq1
        obtain ⟨hP9, hD9⟩ := sub2 (ws' := [(a, .inr (14, [.int a_thrown, .int a_taped_1, .int a_place, .int a_resulted, .int a_marks, .ref a_tape, .ref a_result, .ref a_terms, .ref a_names, .ref a_reader, .ref a_paper, .ref a_register, .ref a_became, .ref a_node, .ref a_marked, .ref a_markedRegister, .ref a_up, .ref a_touched, .ref a_todo, .ref a_color, .int a_touches, .ref a_painted, .int a_paints])), (a_tape, .inl (cs 1, a_tape_n, .inl a_tape_1f))]) hP hD [0, 1] rfl (by decide) rfl
        rw [hQ]
        exact W.vret hx hb hr (fun t ht hW => ⟨⟨(), rfl, trivial, by rw [ht]; exact hP9, hD9⟩, hS.F ht⟩) hS.2.2 d_Mo_four_36
      · rw [if_neg h2] at hok
        refine lv_aload_n hx hb d_Mo_four_7 rfl (lv_at hl 1 rfl) ?_
        refine va_get (D := g) (ci := 14) (v := .ref a_tape) (C := R_Mo) (T := F_Mo) (N := 23) hx hb hg ul_Mo hown hK hP 0 rfl rfl 5 (by decide) (hg _ wd_777) (fun _ h9 => h9) rfl d_Mo_four_8 ?_
        refine lv_aload_n hx hb d_Mo_four_11 rfl (lv_at hl 1 rfl) ?_
        refine va_get (D := g) (ci := 14) (v := .int a_taped_1) (C := R_Mo) (T := F_Mo) (N := 23) hx hb hg ul_Mo hown hK hP 0 rfl rfl 1 (by decide) (hg _ wd_778) (fun _ h9 => h9) rfl d_Mo_four_12 ?_
        refine lv_iload_n hx hb d_Mo_four_15 rfl (lv_at hl 2 rfl) ?_
        refine lv_iload_n hx hb d_Mo_four_16 rfl (lv_at hl 0 rfl) ?_
        refine lv_ishr hx hb d_Mo_four_17 ?_
        refine lv_i2b hx hb d_Mo_four_18 rfl ?_
        obtain ⟨hi3, hok⟩ := ck_some hok
        refine va_bast hx hb hK hP hD hS 1 1 rfl rfl (ixb_in hi3) d_Mo_four_19 (fun H locs hP hD hS => ?_)
        obtain ⟨hP, hD⟩ : PD g A H [(a, .inr (14, [.int a_thrown, .int a_taped_1, .int a_place, .int a_resulted, .int a_marks, .ref a_tape, .ref a_result, .ref a_terms, .ref a_names, .ref a_reader, .ref a_paper, .ref a_register, .ref a_became, .ref a_node, .ref a_marked, .ref a_markedRegister, .ref a_up, .ref a_touched, .ref a_todo, .ref a_color, .int a_touches, .ref a_painted, .int a_paints])), (a_tape, .inl (cs 1, a_tape_n, .inl (upd a_tape_1f a_taped_1.toNatClampNeg (vp_nar .byte ((v >>> (x2_1 &&& 31)).toInt8.toInt32)))))] := ⟨hP, hD⟩
        refine lv_aload_n hx hb d_Mo_four_20 rfl (lv_at hl 1 rfl) ?_
        refine lv_dup hx hb d_Mo_four_21 rfl ?_
        refine va_get (D := g) (ci := 14) (v := .int a_taped_1) (C := R_Mo) (T := F_Mo) (N := 23) hx hb hg ul_Mo hown hK hP 0 rfl rfl 1 (by decide) (hg _ wd_778) (fun _ h9 => h9) rfl d_Mo_four_22 ?_
        refine lv_iconst (v := 1) hx hb d_Mo_four_25 (by decide) ?_
        refine lv_iadd hx hb d_Mo_four_26 ?_
        refine va_put (D := g) (ci := 14) (v := .int (a_taped_1 + 1)) (ty := .int) (C := R_Mo) (T := F_Mo) (N := 23) hx hb hg ul_Mo t_Mo tk_Mo n_Mo hown hK hP hD hS 0 rfl rfl 1 (by decide) (hg _ wd_778) (fun _ h9 => h9) rfl (by decide +kernel) rfl rfl (Nat.le_of_ble_eq_true rfl) d_Mo_four_27 (fun H locs hP hD hS => ?_)
        obtain ⟨hP, hD⟩ : PD g A H [(a, .inr (14, [.int a_thrown, .int (a_taped_1 + 1), .int a_place, .int a_resulted, .int a_marks, .ref a_tape, .ref a_result, .ref a_terms, .ref a_names, .ref a_reader, .ref a_paper, .ref a_register, .ref a_became, .ref a_node, .ref a_marked, .ref a_markedRegister, .ref a_up, .ref a_touched, .ref a_todo, .ref a_color, .int a_touches, .ref a_painted, .int a_paints])), (a_tape, .inl (cs 1, a_tape_n, .inl (upd a_tape_1f a_taped_1.toNatClampNeg (vp_nar .byte ((v >>> (x2_1 &&& 31)).toInt8.toInt32)))))] := ⟨hP, hD⟩
        refine lv_iinc (k := 0) (v := x2_1 + (-8)) hx hb d_Mo_four_30 hl rfl rfl (by decide) rfl (fun ls hl => ?_)
        have hl : lv_has ls 3 [(2, .int (x2_1 + (-8))), (0, .ref a), (1, .int v)] := hl
        refine lv_goto hx hb d_Mo_four_33 rfl ?_
        exact ih1 _ _ _ (x2_1 + (-8)) (a_taped_1 + 1) (upd a_tape_1f a_taped_1.toNatClampNeg (vp_nar .byte ((v >>> (x2_1 &&& 31)).toInt8.toInt32))) (lv_sub hl [0, 1, 2] rfl) (sub3 hP hD [0, 1] (by decide)) hS hok
  exact J1 n H locs ls (24 : Int32) a_taped a_tape_f hl ⟨hP, hD⟩ hS hok

theorem d_Mo_feed_0 : decode b_Mo_feed 0 = .ok (.aload_n 0, 1) := by decide +kernel
theorem d_Mo_feed_1 : decode b_Mo_feed 1 = .ok (.iconst 0, 1) := by decide +kernel
theorem d_Mo_feed_2 : decode b_Mo_feed 2 = .ok (.putfield 91, 3) := by decide +kernel
theorem d_Mo_feed_5 : decode b_Mo_feed 5 = .ok (.aload_n 0, 1) := by decide +kernel
theorem d_Mo_feed_6 : decode b_Mo_feed 6 = .ok (.getfield 88, 3) := by decide +kernel
theorem d_Mo_feed_9 : decode b_Mo_feed 9 = .ok (.bipush 20, 2) := by decide +kernel
theorem d_Mo_feed_11 : decode b_Mo_feed 11 = .ok (.iadd, 1) := by decide +kernel
theorem d_Mo_feed_12 : decode b_Mo_feed 12 = .ok (.sipush 4096, 3) := by decide +kernel
theorem d_Mo_feed_15 : decode b_Mo_feed 15 = .ok (.if_icmp .le 9, 3) := by decide +kernel
theorem d_Mo_feed_18 : decode b_Mo_feed 18 = .ok (.aload_n 0, 1) := by decide +kernel
theorem d_Mo_feed_19 : decode b_Mo_feed 19 = .ok (.iconst 1, 1) := by decide +kernel
theorem d_Mo_feed_20 : decode b_Mo_feed 20 = .ok (.invokevirtual 94, 3) := by decide +kernel
theorem d_Mo_feed_23 : decode b_Mo_feed 23 = .ok (.ireturn, 1) := by decide +kernel
theorem d_Mo_feed_24 : decode b_Mo_feed 24 = .ok (.aload_n 0, 1) := by decide +kernel
theorem d_Mo_feed_25 : decode b_Mo_feed 25 = .ok (.iload_n 1, 1) := by decide +kernel
theorem d_Mo_feed_26 : decode b_Mo_feed 26 = .ok (.invokevirtual 98, 3) := by decide +kernel
theorem d_Mo_feed_29 : decode b_Mo_feed 29 = .ok (.aload_n 0, 1) := by decide +kernel
theorem d_Mo_feed_30 : decode b_Mo_feed 30 = .ok (.iload_n 2, 1) := by decide +kernel
theorem d_Mo_feed_31 : decode b_Mo_feed 31 = .ok (.invokevirtual 98, 3) := by decide +kernel
theorem d_Mo_feed_34 : decode b_Mo_feed 34 = .ok (.aload_n 0, 1) := by decide +kernel
theorem d_Mo_feed_35 : decode b_Mo_feed 35 = .ok (.iload_n 3, 1) := by decide +kernel
theorem d_Mo_feed_36 : decode b_Mo_feed 36 = .ok (.invokevirtual 98, 3) := by decide +kernel
theorem d_Mo_feed_39 : decode b_Mo_feed 39 = .ok (.aload_n 0, 1) := by decide +kernel
theorem d_Mo_feed_40 : decode b_Mo_feed 40 = .ok (.iload 4, 2) := by decide +kernel
theorem d_Mo_feed_42 : decode b_Mo_feed 42 = .ok (.invokevirtual 98, 3) := by decide +kernel
theorem d_Mo_feed_45 : decode b_Mo_feed 45 = .ok (.aload_n 0, 1) := by decide +kernel
theorem d_Mo_feed_46 : decode b_Mo_feed 46 = .ok (.iload 5, 2) := by decide +kernel
theorem d_Mo_feed_48 : decode b_Mo_feed 48 = .ok (.invokevirtual 98, 3) := by decide +kernel
theorem d_Mo_feed_51 : decode b_Mo_feed 51 = .ok (.aload_n 0, 1) := by decide +kernel
theorem d_Mo_feed_52 : decode b_Mo_feed 52 = .ok (.getfield 88, 3) := by decide +kernel
theorem d_Mo_feed_55 : decode b_Mo_feed 55 = .ok (.ireturn, 1) := by decide +kernel
def p_Mo_feed (n : Nat) (v1 : Int32) (v2 : Int32) (v3 : Int32) (v4 : Int32) (v5 : Int32) (a_thrown : Int32) (a_taped : Int32) (a_place : Int32) (a_resulted : Int32) (a_marks : Int32) (a_touches : Int32) (a_paints : Int32) (a_tape_n : Nat) (a_tape_f : Nat → Int32) : Option (Int32 × Int32 × Int32 × (Nat → Int32)) := if (a_taped + 20) ≤ 4096 then ((p_Mo_four n v1 (0 : Int32) a_taped a_place a_resulted a_marks a_touches a_paints a_tape_n a_tape_f).bind (fun (a_taped_2, a_tape_f_2) => (p_Mo_four n v2 (0 : Int32) a_taped_2 a_place a_resulted a_marks a_touches a_paints a_tape_n a_tape_f_2).bind (fun (a_taped_3, a_tape_f_3) => (p_Mo_four n v3 (0 : Int32) a_taped_3 a_place a_resulted a_marks a_touches a_paints a_tape_n a_tape_f_3).bind (fun (a_taped_4, a_tape_f_4) => (p_Mo_four n v4 (0 : Int32) a_taped_4 a_place a_resulted a_marks a_touches a_paints a_tape_n a_tape_f_4).bind (fun (a_taped_5, a_tape_f_5) => (p_Mo_four n v5 (0 : Int32) a_taped_5 a_place a_resulted a_marks a_touches a_paints a_tape_n a_tape_f_5).bind (fun (a_taped_6, a_tape_f_6) => some (a_taped_6, (0 : Int32), a_taped_6, a_tape_f_6))))))) else ((p_Mo_fail (1 : Int32) (0 : Int32) a_taped a_place a_resulted a_marks a_touches a_paints).bind (fun (r7, a_thrown_7) => some (r7, a_thrown_7, a_taped, a_tape_f)))
set_option maxHeartbeats 40000000 in
set_option maxRecDepth 100000 in
theorem c_Mo_feed (l : Launch) (g : va_G) (cs : Nat → ClassId) (ka : Nat → Nat) (a_result : Nat) (a_terms : Nat) (a_names : Nat) (a_reader : Nat) (a_paper : Nat) (a_register : Nat) (a_became : Nat) (a_node : Nat) (a_marked : Nat) (a_markedRegister : Nat) (a_up : Nat) (a_touched : Nat) (a_todo : Nat) (a_color : Nat) (a_painted : Nat) (a a_tape : Nat) (sz : Nat) (n : Nat) (v1 : Int32) (v2 : Int32) (v3 : Int32) (v4 : Int32) (v5 : Int32) (a_thrown : Int32) (a_taped : Int32) (a_place : Int32) (a_resulted : Int32) (a_marks : Int32) (a_touches : Int32) (a_paints : Int32) (a_tape_n : Nat) (a_tape_f : Nat → Int32) (r : Int32) (o_a_thrown : Int32) (o_a_taped : Int32) (o_a_tape_f : Nat → Int32) (hok : p_Mo_feed n v1 v2 v3 v4 v5 a_thrown a_taped a_place a_resulted a_marks a_touches a_paints a_tape_n a_tape_f = some (r, o_a_thrown, o_a_taped, o_a_tape_f)) : Met l y_Mo_feed (.code y_Mo_feed b_Mo_feed 6 (some .int) :: GW) { frames := 1, cells := 0, slots := 0, locals := 22 } (va_Pc [.ref a, .int v1, .int v2, .int v3, .int v4, .int v5] (gP g cs ka [(a, .inr (14, [.int a_thrown, .int a_taped, .int a_place, .int a_resulted, .int a_marks, .ref a_tape, .ref a_result, .ref a_terms, .ref a_names, .ref a_reader, .ref a_paper, .ref a_register, .ref a_became, .ref a_node, .ref a_marked, .ref a_markedRegister, .ref a_up, .ref a_touched, .ref a_todo, .ref a_color, .int a_touches, .ref a_painted, .int a_paints])), (a_tape, .inl (cs 1, a_tape_n, .inl a_tape_f))] sz)) (va_Qi (fun (r' : Int32) (_ : Unit) => r = r') (fun _ t => va_P g classes [(a, .inr (14, [.int o_a_thrown, .int o_a_taped, .int a_place, .int a_resulted, .int a_marks, .ref a_tape, .ref a_result, .ref a_terms, .ref a_names, .ref a_reader, .ref a_paper, .ref a_register, .ref a_became, .ref a_node, .ref a_marked, .ref a_markedRegister, .ref a_up, .ref a_touched, .ref a_todo, .ref a_color, .int a_touches, .ref a_painted, .int a_paints])), (a_tape, .inl (cs 1, a_tape_n, .inl o_a_tape_f))] t.heap ∧ va_D (va_A [(a, .inr (14, [.int a_thrown, .int a_taped, .int a_place, .int a_resulted, .int a_marks, .ref a_tape, .ref a_result, .ref a_terms, .ref a_names, .ref a_reader, .ref a_paper, .ref a_register, .ref a_became, .ref a_node, .ref a_marked, .ref a_markedRegister, .ref a_up, .ref a_touched, .ref a_todo, .ref a_color, .int a_touches, .ref a_painted, .int a_paints])), (a_tape, .inl (cs 1, a_tape_n, .inl a_tape_f))] sz) [(a, .inr (14, [.int o_a_thrown, .int o_a_taped, .int a_place, .int a_resulted, .int a_marks, .ref a_tape, .ref a_result, .ref a_terms, .ref a_names, .ref a_reader, .ref a_paper, .ref a_register, .ref a_became, .ref a_node, .ref a_marked, .ref a_markedRegister, .ref a_up, .ref a_touched, .ref a_todo, .ref a_color, .int a_touches, .ref a_painted, .int a_paints])), (a_tape, .inl (cs 1, a_tape_n, .inl o_a_tape_f))]) (va_A [(a, .inr (14, [.int a_thrown, .int a_taped, .int a_place, .int a_resulted, .int a_marks, .ref a_tape, .ref a_result, .ref a_terms, .ref a_names, .ref a_reader, .ref a_paper, .ref a_register, .ref a_became, .ref a_node, .ref a_marked, .ref a_markedRegister, .ref a_up, .ref a_touched, .ref a_todo, .ref a_color, .int a_touches, .ref a_painted, .int a_paints])), (a_tape, .inl (cs 1, a_tape_n, .inl a_tape_f))] sz)) 0 0 (va_A [(a, .inr (14, [.int a_thrown, .int a_taped, .int a_place, .int a_resulted, .int a_marks, .ref a_tape, .ref a_result, .ref a_terms, .ref a_names, .ref a_reader, .ref a_paper, .ref a_register, .ref a_became, .ref a_node, .ref a_marked, .ref a_markedRegister, .ref a_up, .ref a_touched, .ref a_todo, .ref a_color, .int a_touches, .ref a_painted, .int a_paints])), (a_tape, .inl (cs 1, a_tape_n, .inl a_tape_f))] sz) := by
  refine Met.ofW (cc := b_Mo_feed) (maxL := 6) (ret := (some .int)) (by decide) rfl ?_
  intro p e s m args below meth c s₁ B hml hv
  obtain ⟨rfl, hsz, hP, hK, hD0, hgl, hkn, hkr⟩ := hv
  have hx := B.exec
  have hb := B.bytes
  have hr := B.returns
  have hg : ∀ w ∈ GW, w.before ([.ref a, .int v1, .int v2, .int v3, .int v4, .int v5] : List Value).toArray s = true := fun w hw => atoms_spec (ws := .code y_Mo_feed b_Mo_feed 6 (some .int) :: GW) B.pre w (List.mem_cons_of_mem _ hw)
  have hown : s.vm.findClass R_Mo = some m.cls := findClass_of_methodNamed B.named
  have hlocks := B.notSynchronized
  subst hsz
  have hD := hD0.self (sz := s.heap.size)
  generalize hAe : va_A [(a, .inr (14, [.int a_thrown, .int a_taped, .int a_place, .int a_resulted, .int a_marks, .ref a_tape, .ref a_result, .ref a_terms, .ref a_names, .ref a_reader, .ref a_paper, .ref a_register, .ref a_became, .ref a_node, .ref a_marked, .ref a_markedRegister, .ref a_up, .ref a_touched, .ref a_todo, .ref a_color, .int a_touches, .ref a_painted, .int a_paints])), (a_tape, .inl (cs 1, a_tape_n, .inl a_tape_f))] s.heap.size = A at hD hkn ⊢
  have hA : ∀ q : Nat, s.heap.size ≤ q → A q := fun q h => by rw [← hAe]; exact Or.inr h
  have hS : va_S A s.heap s.heap [] := va_S.rf
  have hP : va_P g classes [(a, .inr (14, [.int a_thrown, .int a_taped, .int a_place, .int a_resulted, .int a_marks, .ref a_tape, .ref a_result, .ref a_terms, .ref a_names, .ref a_reader, .ref a_paper, .ref a_register, .ref a_became, .ref a_node, .ref a_marked, .ref a_markedRegister, .ref a_up, .ref a_touched, .ref a_todo, .ref a_color, .int a_touches, .ref a_painted, .int a_paints])), (a_tape, .inl (cs 1, a_tape_n, .inl a_tape_f))] s.heap := hP
  have hl := lv_entry ([.ref a, .int v1, .int v2, .int v3, .int v4, .int v5]) (n := 6) (Nat.le_of_ble_eq_true rfl)
  rw [lg_entry_eq]
  generalize (lg_sl ([.ref a, .int v1, .int v2, .int v3, .int v4, .int v5]) ++ List.replicate (6 - (lg_sl ([.ref a, .int v1, .int v2, .int v3, .int v4, .int v5])).length) Slot.unset).toArray = ls at hl ⊢
  have hl : lv_has ls 6 [(0, .ref a), (1, .int v1), (2, .int v2), (3, .int v3), (4, .int v4), (5, .int v5)] := hl
  refine gq (fun Q hQ => ?_)
  obtain ⟨H, hH⟩ : ∃ H : Heap, H = s.heap := ⟨_, rfl⟩
  rw [← hH] at hP
  have hS : va_S A s.heap H [] := by rw [hH]; exact hS
  refine W.eqH hH ?_
  obtain ⟨locs, hlc⟩ : ∃ L : List Loc, L = [] := ⟨_, rfl⟩
  rw [← hlc] at hS ⊢
  unfold p_Mo_feed at hok
  refine lv_aload_n hx hb d_Mo_feed_0 rfl (lv_at hl 0 rfl) ?_
  refine lv_iconst (v := 0) hx hb d_Mo_feed_1 (by decide) ?_
  refine va_put (D := g) (ci := 14) (v := .int 0) (ty := .int) (C := R_Mo) (T := F_Mo) (N := 23) hx hb hg ul_Mo t_Mo tk_Mo n_Mo hown hK hP hD hS 0 rfl rfl 0 (by decide) (hg _ wd_776) (fun _ h9 => h9) rfl (by decide +kernel) rfl rfl (Nat.le_of_ble_eq_true rfl) d_Mo_feed_2 (fun H locs hP hD hS => ?_)
  obtain ⟨hP, hD⟩ : PD g A H [(a, .inr (14, [.int 0, .int a_taped, .int a_place, .int a_resulted, .int a_marks, .ref a_tape, .ref a_result, .ref a_terms, .ref a_names, .ref a_reader, .ref a_paper, .ref a_register, .ref a_became, .ref a_node, .ref a_marked, .ref a_markedRegister, .ref a_up, .ref a_touched, .ref a_todo, .ref a_color, .int a_touches, .ref a_painted, .int a_paints])), (a_tape, .inl (cs 1, a_tape_n, .inl a_tape_f))] := ⟨hP, hD⟩
  refine lv_aload_n hx hb d_Mo_feed_5 rfl (lv_at hl 0 rfl) ?_
  refine va_get (D := g) (ci := 14) (v := .int a_taped) (C := R_Mo) (T := F_Mo) (N := 23) hx hb hg ul_Mo hown hK hP 0 rfl rfl 1 (by decide) (hg _ wd_778) (fun _ h9 => h9) rfl d_Mo_feed_6 ?_
  refine lv_bipush (v := 20) hx hb d_Mo_feed_9 (by decide) ?_
  refine lv_iadd hx hb d_Mo_feed_11 ?_
  refine lv_sipush (v := 4096) hx hb d_Mo_feed_12 (by decide) ?_
  refine lv_icmp_le hx hb d_Mo_feed_15 rfl (fun h1 => ?_) (fun h1 => ?_)
  · rw [if_pos h1] at hok
    refine lv_aload_n hx hb d_Mo_feed_24 rfl (lv_at hl 0 rfl) ?_
    refine lv_iload_n hx hb d_Mo_feed_25 rfl (lv_at hl 1 rfl) ?_
    obtain ⟨⟨a_taped_2, a_tape_f_2⟩, hc2, hok⟩ := bd_some hok
    dsimp only at hok
    obtain ⟨hPc, hDc, hFc⟩ := cut0 (wc := [(a, .inr (14, [.int 0, .int a_taped, .int a_place, .int a_resulted, .int a_marks, .ref a_tape, .ref a_result, .ref a_terms, .ref a_names, .ref a_reader, .ref a_paper, .ref a_register, .ref a_became, .ref a_node, .ref a_marked, .ref a_markedRegister, .ref a_up, .ref a_touched, .ref a_todo, .ref a_color, .int a_touches, .ref a_painted, .int a_paints])), (a_tape, .inl (cs 1, a_tape_n, .inl a_tape_f))]) hP hD hS hA [0, 1] (by decide) rfl
    refine va_callv (va_runV (As := [.int v1]) (rest := []) ⟨hx, hb, hml, hown, hg⟩ (c_Mo_four l g cs ka a_result a_terms a_names a_reader a_paper a_register a_became a_node a_marked a_markedRegister a_up a_touched a_todo a_color a_painted a a_tape H.size n v1 (0 : Int32) a_taped a_place a_resulted a_marks a_touches a_paints a_tape_n a_tape_f a_taped_2 a_tape_f_2 hc2) (cwV (C := R_Mo) 1 hg (gw_V wd_781 wd_782 wd_783 wd_780 wd_779) rfl rfl rfl (by decide +kernel) ⟨Nat.le_of_ble_eq_true rfl, Nat.le_of_ble_eq_true rfl⟩) ⟨gP_blind, va_recv (q0 := 0) (ci := 14) (q := (R_Mo, F_Mo, 23)) hK hP rfl rfl, gP_pre hPc hDc hK hgl hkn hkr hS hFc⟩ rfl rfl hl.1 rfl (lv_room (Nat.le_of_ble_eq_true rfl)) d_Mo_feed_26 ⟨Nat.le_of_ble_eq_true rfl, Nat.le_of_ble_eq_true rfl⟩) hS (fun q _ h => hFc q h) hFc (fun u t H locs ht hvm hr2 hB hz1 hk1 hS => ?_)
    rw [ht] at hB
    obtain ⟨hP1, hD1⟩ := hB
    obtain ⟨hP, hD⟩ := jn_A hP hD [0, 1] [] rfl rfl (by decide) (by decide) hk1 hFc hP1 hD1
    obtain ⟨hP, hD⟩ : PD g A H [(a, .inr (14, [.int 0, .int a_taped_2, .int a_place, .int a_resulted, .int a_marks, .ref a_tape, .ref a_result, .ref a_terms, .ref a_names, .ref a_reader, .ref a_paper, .ref a_register, .ref a_became, .ref a_node, .ref a_marked, .ref a_markedRegister, .ref a_up, .ref a_touched, .ref a_todo, .ref a_color, .int a_touches, .ref a_painted, .int a_paints])), (a_tape, .inl (cs 1, a_tape_n, .inl a_tape_f_2))] := ⟨hP, hD⟩
    refine lv_aload_n hx hb d_Mo_feed_29 rfl (lv_at hl 0 rfl) ?_
    refine lv_iload_n hx hb d_Mo_feed_30 rfl (lv_at hl 2 rfl) ?_
    obtain ⟨⟨a_taped_3, a_tape_f_3⟩, hc3, hok⟩ := bd_some hok
    dsimp only at hok
    obtain ⟨hPc, hDc, hFc⟩ := cut0 (wc := [(a, .inr (14, [.int 0, .int a_taped_2, .int a_place, .int a_resulted, .int a_marks, .ref a_tape, .ref a_result, .ref a_terms, .ref a_names, .ref a_reader, .ref a_paper, .ref a_register, .ref a_became, .ref a_node, .ref a_marked, .ref a_markedRegister, .ref a_up, .ref a_touched, .ref a_todo, .ref a_color, .int a_touches, .ref a_painted, .int a_paints])), (a_tape, .inl (cs 1, a_tape_n, .inl a_tape_f_2))]) hP hD hS hA [0, 1] (by decide) rfl
    refine va_callv (va_runV (As := [.int v2]) (rest := []) ⟨hx, hb, hml, hown, hg⟩ (c_Mo_four l g cs ka a_result a_terms a_names a_reader a_paper a_register a_became a_node a_marked a_markedRegister a_up a_touched a_todo a_color a_painted a a_tape H.size n v2 (0 : Int32) a_taped_2 a_place a_resulted a_marks a_touches a_paints a_tape_n a_tape_f_2 a_taped_3 a_tape_f_3 hc3) (cwV (C := R_Mo) 1 hg (gw_V wd_781 wd_782 wd_783 wd_780 wd_779) rfl rfl rfl (by decide +kernel) ⟨Nat.le_of_ble_eq_true rfl, Nat.le_of_ble_eq_true rfl⟩) ⟨gP_blind, va_recv (q0 := 0) (ci := 14) (q := (R_Mo, F_Mo, 23)) hK hP rfl rfl, gP_pre hPc hDc hK hgl hkn hkr hS hFc⟩ rfl rfl hl.1 rfl (lv_room (Nat.le_of_ble_eq_true rfl)) d_Mo_feed_31 ⟨Nat.le_of_ble_eq_true rfl, Nat.le_of_ble_eq_true rfl⟩) hS (fun q _ h => hFc q h) hFc (fun u t H locs ht hvm hr3 hB hz1 hk1 hS => ?_)
    rw [ht] at hB
    obtain ⟨hP1, hD1⟩ := hB
    obtain ⟨hP, hD⟩ := jn_A hP hD [0, 1] [] rfl rfl (by decide) (by decide) hk1 hFc hP1 hD1
    obtain ⟨hP, hD⟩ : PD g A H [(a, .inr (14, [.int 0, .int a_taped_3, .int a_place, .int a_resulted, .int a_marks, .ref a_tape, .ref a_result, .ref a_terms, .ref a_names, .ref a_reader, .ref a_paper, .ref a_register, .ref a_became, .ref a_node, .ref a_marked, .ref a_markedRegister, .ref a_up, .ref a_touched, .ref a_todo, .ref a_color, .int a_touches, .ref a_painted, .int a_paints])), (a_tape, .inl (cs 1, a_tape_n, .inl a_tape_f_3))] := ⟨hP, hD⟩
    refine lv_aload_n hx hb d_Mo_feed_34 rfl (lv_at hl 0 rfl) ?_
    refine lv_iload_n hx hb d_Mo_feed_35 rfl (lv_at hl 3 rfl) ?_
    obtain ⟨⟨a_taped_4, a_tape_f_4⟩, hc4, hok⟩ := bd_some hok
    dsimp only at hok
    obtain ⟨hPc, hDc, hFc⟩ := cut0 (wc := [(a, .inr (14, [.int 0, .int a_taped_3, .int a_place, .int a_resulted, .int a_marks, .ref a_tape, .ref a_result, .ref a_terms, .ref a_names, .ref a_reader, .ref a_paper, .ref a_register, .ref a_became, .ref a_node, .ref a_marked, .ref a_markedRegister, .ref a_up, .ref a_touched, .ref a_todo, .ref a_color, .int a_touches, .ref a_painted, .int a_paints])), (a_tape, .inl (cs 1, a_tape_n, .inl a_tape_f_3))]) hP hD hS hA [0, 1] (by decide) rfl
    refine va_callv (va_runV (As := [.int v3]) (rest := []) ⟨hx, hb, hml, hown, hg⟩ (c_Mo_four l g cs ka a_result a_terms a_names a_reader a_paper a_register a_became a_node a_marked a_markedRegister a_up a_touched a_todo a_color a_painted a a_tape H.size n v3 (0 : Int32) a_taped_3 a_place a_resulted a_marks a_touches a_paints a_tape_n a_tape_f_3 a_taped_4 a_tape_f_4 hc4) (cwV (C := R_Mo) 1 hg (gw_V wd_781 wd_782 wd_783 wd_780 wd_779) rfl rfl rfl (by decide +kernel) ⟨Nat.le_of_ble_eq_true rfl, Nat.le_of_ble_eq_true rfl⟩) ⟨gP_blind, va_recv (q0 := 0) (ci := 14) (q := (R_Mo, F_Mo, 23)) hK hP rfl rfl, gP_pre hPc hDc hK hgl hkn hkr hS hFc⟩ rfl rfl hl.1 rfl (lv_room (Nat.le_of_ble_eq_true rfl)) d_Mo_feed_36 ⟨Nat.le_of_ble_eq_true rfl, Nat.le_of_ble_eq_true rfl⟩) hS (fun q _ h => hFc q h) hFc (fun u t H locs ht hvm hr4 hB hz1 hk1 hS => ?_)
    rw [ht] at hB
    obtain ⟨hP1, hD1⟩ := hB
    obtain ⟨hP, hD⟩ := jn_A hP hD [0, 1] [] rfl rfl (by decide) (by decide) hk1 hFc hP1 hD1
    obtain ⟨hP, hD⟩ : PD g A H [(a, .inr (14, [.int 0, .int a_taped_4, .int a_place, .int a_resulted, .int a_marks, .ref a_tape, .ref a_result, .ref a_terms, .ref a_names, .ref a_reader, .ref a_paper, .ref a_register, .ref a_became, .ref a_node, .ref a_marked, .ref a_markedRegister, .ref a_up, .ref a_touched, .ref a_todo, .ref a_color, .int a_touches, .ref a_painted, .int a_paints])), (a_tape, .inl (cs 1, a_tape_n, .inl a_tape_f_4))] := ⟨hP, hD⟩
    refine lv_aload_n hx hb d_Mo_feed_39 rfl (lv_at hl 0 rfl) ?_
    refine lv_iload hx hb d_Mo_feed_40 (lv_at hl 4 rfl) ?_
    obtain ⟨⟨a_taped_5, a_tape_f_5⟩, hc5, hok⟩ := bd_some hok
    dsimp only at hok
    obtain ⟨hPc, hDc, hFc⟩ := cut0 (wc := [(a, .inr (14, [.int 0, .int a_taped_4, .int a_place, .int a_resulted, .int a_marks, .ref a_tape, .ref a_result, .ref a_terms, .ref a_names, .ref a_reader, .ref a_paper, .ref a_register, .ref a_became, .ref a_node, .ref a_marked, .ref a_markedRegister, .ref a_up, .ref a_touched, .ref a_todo, .ref a_color, .int a_touches, .ref a_painted, .int a_paints])), (a_tape, .inl (cs 1, a_tape_n, .inl a_tape_f_4))]) hP hD hS hA [0, 1] (by decide) rfl
    refine va_callv (va_runV (As := [.int v4]) (rest := []) ⟨hx, hb, hml, hown, hg⟩ (c_Mo_four l g cs ka a_result a_terms a_names a_reader a_paper a_register a_became a_node a_marked a_markedRegister a_up a_touched a_todo a_color a_painted a a_tape H.size n v4 (0 : Int32) a_taped_4 a_place a_resulted a_marks a_touches a_paints a_tape_n a_tape_f_4 a_taped_5 a_tape_f_5 hc5) (cwV (C := R_Mo) 1 hg (gw_V wd_781 wd_782 wd_783 wd_780 wd_779) rfl rfl rfl (by decide +kernel) ⟨Nat.le_of_ble_eq_true rfl, Nat.le_of_ble_eq_true rfl⟩) ⟨gP_blind, va_recv (q0 := 0) (ci := 14) (q := (R_Mo, F_Mo, 23)) hK hP rfl rfl, gP_pre hPc hDc hK hgl hkn hkr hS hFc⟩ rfl rfl hl.1 rfl (lv_room (Nat.le_of_ble_eq_true rfl)) d_Mo_feed_42 ⟨Nat.le_of_ble_eq_true rfl, Nat.le_of_ble_eq_true rfl⟩) hS (fun q _ h => hFc q h) hFc (fun u t H locs ht hvm hr5 hB hz1 hk1 hS => ?_)
    rw [ht] at hB
    obtain ⟨hP1, hD1⟩ := hB
    obtain ⟨hP, hD⟩ := jn_A hP hD [0, 1] [] rfl rfl (by decide) (by decide) hk1 hFc hP1 hD1
    obtain ⟨hP, hD⟩ : PD g A H [(a, .inr (14, [.int 0, .int a_taped_5, .int a_place, .int a_resulted, .int a_marks, .ref a_tape, .ref a_result, .ref a_terms, .ref a_names, .ref a_reader, .ref a_paper, .ref a_register, .ref a_became, .ref a_node, .ref a_marked, .ref a_markedRegister, .ref a_up, .ref a_touched, .ref a_todo, .ref a_color, .int a_touches, .ref a_painted, .int a_paints])), (a_tape, .inl (cs 1, a_tape_n, .inl a_tape_f_5))] := ⟨hP, hD⟩
    refine lv_aload_n hx hb d_Mo_feed_45 rfl (lv_at hl 0 rfl) ?_
    refine lv_iload hx hb d_Mo_feed_46 (lv_at hl 5 rfl) ?_
    obtain ⟨⟨a_taped_6, a_tape_f_6⟩, hc6, hok⟩ := bd_some hok
    dsimp only at hok
    obtain ⟨hPc, hDc, hFc⟩ := cut0 (wc := [(a, .inr (14, [.int 0, .int a_taped_5, .int a_place, .int a_resulted, .int a_marks, .ref a_tape, .ref a_result, .ref a_terms, .ref a_names, .ref a_reader, .ref a_paper, .ref a_register, .ref a_became, .ref a_node, .ref a_marked, .ref a_markedRegister, .ref a_up, .ref a_touched, .ref a_todo, .ref a_color, .int a_touches, .ref a_painted, .int a_paints])), (a_tape, .inl (cs 1, a_tape_n, .inl a_tape_f_5))]) hP hD hS hA [0, 1] (by decide) rfl
    refine va_callv (va_runV (As := [.int v5]) (rest := []) ⟨hx, hb, hml, hown, hg⟩ (c_Mo_four l g cs ka a_result a_terms a_names a_reader a_paper a_register a_became a_node a_marked a_markedRegister a_up a_touched a_todo a_color a_painted a a_tape H.size n v5 (0 : Int32) a_taped_5 a_place a_resulted a_marks a_touches a_paints a_tape_n a_tape_f_5 a_taped_6 a_tape_f_6 hc6) (cwV (C := R_Mo) 1 hg (gw_V wd_781 wd_782 wd_783 wd_780 wd_779) rfl rfl rfl (by decide +kernel) ⟨Nat.le_of_ble_eq_true rfl, Nat.le_of_ble_eq_true rfl⟩) ⟨gP_blind, va_recv (q0 := 0) (ci := 14) (q := (R_Mo, F_Mo, 23)) hK hP rfl rfl, gP_pre hPc hDc hK hgl hkn hkr hS hFc⟩ rfl rfl hl.1 rfl (lv_room (Nat.le_of_ble_eq_true rfl)) d_Mo_feed_48 ⟨Nat.le_of_ble_eq_true rfl, Nat.le_of_ble_eq_true rfl⟩) hS (fun q _ h => hFc q h) hFc (fun u t H locs ht hvm hr6 hB hz1 hk1 hS => ?_)
    rw [ht] at hB
    obtain ⟨hP1, hD1⟩ := hB
    obtain ⟨hP, hD⟩ := jn_A hP hD [0, 1] [] rfl rfl (by decide) (by decide) hk1 hFc hP1 hD1
    obtain ⟨hP, hD⟩ : PD g A H [(a, .inr (14, [.int 0, .int a_taped_6, .int a_place, .int a_resulted, .int a_marks, .ref a_tape, .ref a_result, .ref a_terms, .ref a_names, .ref a_reader, .ref a_paper, .ref a_register, .ref a_became, .ref a_node, .ref a_marked, .ref a_markedRegister, .ref a_up, .ref a_touched, .ref a_todo, .ref a_color, .int a_touches, .ref a_painted, .int a_paints])), (a_tape, .inl (cs 1, a_tape_n, .inl a_tape_f_6))] := ⟨hP, hD⟩
    refine lv_aload_n hx hb d_Mo_feed_51 rfl (lv_at hl 0 rfl) ?_
    refine va_get (D := g) (ci := 14) (v := .int a_taped_6) (C := R_Mo) (T := F_Mo) (N := 23) hx hb hg ul_Mo hown hK hP 0 rfl rfl 1 (by decide) (hg _ wd_778) (fun _ h9 => h9) rfl d_Mo_feed_52 ?_
    have hq := Option.some.inj hok
    obtain ⟨hq0, hq⟩ := Prod.mk.inj hq
    obtain ⟨hq1, hq⟩ := Prod.mk.inj hq
    obtain ⟨hq2, hq⟩ := Prod.mk.inj hq
    have hq3 := hq
    subst hq0
    subst hq1
    subst hq2
    subst hq3
    obtain ⟨hP9, hD9⟩ := sub2 (ws' := [(a, .inr (14, [.int 0, .int a_taped_6, .int a_place, .int a_resulted, .int a_marks, .ref a_tape, .ref a_result, .ref a_terms, .ref a_names, .ref a_reader, .ref a_paper, .ref a_register, .ref a_became, .ref a_node, .ref a_marked, .ref a_markedRegister, .ref a_up, .ref a_touched, .ref a_todo, .ref a_color, .int a_touches, .ref a_painted, .int a_paints])), (a_tape, .inl (cs 1, a_tape_n, .inl a_tape_f_6))]) hP hD [0, 1] rfl (by decide) rfl
    rw [hQ]
    exact W.iret (v := a_taped_6) hx hb hr (fun t ht hW => ⟨⟨_, (), rfl, rfl, by rw [ht]; exact hP9, hD9⟩, hS.F ht⟩) hS.2.2 d_Mo_feed_55
  · rw [if_neg h1] at hok
    refine lv_aload_n hx hb d_Mo_feed_18 rfl (lv_at hl 0 rfl) ?_
    refine lv_iconst (v := 1) hx hb d_Mo_feed_19 (by decide) ?_
    obtain ⟨⟨r7, a_thrown_7⟩, hc7, hok⟩ := bd_some hok
    dsimp only at hok
    obtain ⟨hPc, hDc, hFc⟩ := cut0 (wc := [(a, .inr (14, [.int 0, .int a_taped, .int a_place, .int a_resulted, .int a_marks, .ref a_tape, .ref a_result, .ref a_terms, .ref a_names, .ref a_reader, .ref a_paper, .ref a_register, .ref a_became, .ref a_node, .ref a_marked, .ref a_markedRegister, .ref a_up, .ref a_touched, .ref a_todo, .ref a_color, .int a_touches, .ref a_painted, .int a_paints]))]) hP hD hS hA [0] (by decide) rfl
    refine va_calli (va_runV (As := [.int 1]) (rest := []) ⟨hx, hb, hml, hown, hg⟩ (c_Mo_fail l g cs ka a_tape a_result a_terms a_names a_reader a_paper a_register a_became a_node a_marked a_markedRegister a_up a_touched a_todo a_color a_painted a H.size (1 : Int32) (0 : Int32) a_taped a_place a_resulted a_marks a_touches a_paints r7 a_thrown_7 hc7) (cwV (C := R_Mo) 1 hg (gw_V wd_785 wd_786 wd_787 wd_780 wd_784) rfl rfl rfl (by decide +kernel) ⟨Nat.le_of_ble_eq_true rfl, Nat.le_of_ble_eq_true rfl⟩) ⟨gP_blind, va_recv (q0 := 0) (ci := 14) (q := (R_Mo, F_Mo, 23)) hK hP rfl rfl, gP_pre hPc hDc hK hgl hkn hkr hS hFc⟩ rfl rfl hl.1 rfl (lv_room (Nat.le_of_ble_eq_true rfl)) d_Mo_feed_20 ⟨Nat.le_of_ble_eq_true rfl, Nat.le_of_ble_eq_true rfl⟩) hS (fun q _ h => hFc q h) hFc (fun r7' u t H locs ht hvm hr7 hB hz1 hk1 hS => ?_)
    subst hr7
    rw [ht] at hB
    obtain ⟨hP1, hD1⟩ := hB
    obtain ⟨hP, hD⟩ := jn_A hP hD [0] [1] rfl rfl (by decide) (by decide) hk1 hFc hP1 hD1
    obtain ⟨hP, hD⟩ : PD g A H [(a_tape, .inl (cs 1, a_tape_n, .inl a_tape_f)), (a, .inr (14, [.int a_thrown_7, .int a_taped, .int a_place, .int a_resulted, .int a_marks, .ref a_tape, .ref a_result, .ref a_terms, .ref a_names, .ref a_reader, .ref a_paper, .ref a_register, .ref a_became, .ref a_node, .ref a_marked, .ref a_markedRegister, .ref a_up, .ref a_touched, .ref a_todo, .ref a_color, .int a_touches, .ref a_painted, .int a_paints]))] := ⟨hP, hD⟩
    have hq := Option.some.inj hok
    obtain ⟨hq0, hq⟩ := Prod.mk.inj hq
    obtain ⟨hq1, hq⟩ := Prod.mk.inj hq
    obtain ⟨hq2, hq⟩ := Prod.mk.inj hq
    have hq3 := hq
    subst hq0
    subst hq1
    subst hq2
    subst hq3
    obtain ⟨hP9, hD9⟩ := sub2 (ws' := [(a, .inr (14, [.int a_thrown_7, .int a_taped, .int a_place, .int a_resulted, .int a_marks, .ref a_tape, .ref a_result, .ref a_terms, .ref a_names, .ref a_reader, .ref a_paper, .ref a_register, .ref a_became, .ref a_node, .ref a_marked, .ref a_markedRegister, .ref a_up, .ref a_touched, .ref a_todo, .ref a_color, .int a_touches, .ref a_painted, .int a_paints])), (a_tape, .inl (cs 1, a_tape_n, .inl a_tape_f))]) hP hD [1, 0] rfl (by decide) rfl
    rw [hQ]
    exact W.iret (v := r7) hx hb hr (fun t ht hW => ⟨⟨_, (), rfl, rfl, by rw [ht]; exact hP9, hD9⟩, hS.F ht⟩) hS.2.2 d_Mo_feed_23

theorem d_Mo_end_0 : decode b_Mo_end 0 = .ok (.aload_n 0, 1) := by decide +kernel
theorem d_Mo_end_1 : decode b_Mo_end 1 = .ok (.iconst 0, 1) := by decide +kernel
theorem d_Mo_end_2 : decode b_Mo_end 2 = .ok (.putfield 91, 3) := by decide +kernel
theorem d_Mo_end_5 : decode b_Mo_end 5 = .ok (.iload_n 1, 1) := by decide +kernel
theorem d_Mo_end_6 : decode b_Mo_end 6 = .ok (.ifCond .lt 11, 3) := by decide +kernel
theorem d_Mo_end_9 : decode b_Mo_end 9 = .ok (.iload_n 1, 1) := by decide +kernel
theorem d_Mo_end_10 : decode b_Mo_end 10 = .ok (.aload_n 0, 1) := by decide +kernel
theorem d_Mo_end_11 : decode b_Mo_end 11 = .ok (.getfield 88, 3) := by decide +kernel
theorem d_Mo_end_14 : decode b_Mo_end 14 = .ok (.if_icmp .le 9, 3) := by decide +kernel
theorem d_Mo_end_17 : decode b_Mo_end 17 = .ok (.aload_n 0, 1) := by decide +kernel
theorem d_Mo_end_18 : decode b_Mo_end 18 = .ok (.iconst 1, 1) := by decide +kernel
theorem d_Mo_end_19 : decode b_Mo_end 19 = .ok (.invokevirtual 94, 3) := by decide +kernel
theorem d_Mo_end_22 : decode b_Mo_end 22 = .ok (.ireturn, 1) := by decide +kernel
theorem d_Mo_end_23 : decode b_Mo_end 23 = .ok (.aload_n 0, 1) := by decide +kernel
theorem d_Mo_end_24 : decode b_Mo_end 24 = .ok (.iload_n 1, 1) := by decide +kernel
theorem d_Mo_end_25 : decode b_Mo_end 25 = .ok (.putfield 88, 3) := by decide +kernel
theorem d_Mo_end_28 : decode b_Mo_end 28 = .ok (.iload_n 1, 1) := by decide +kernel
theorem d_Mo_end_29 : decode b_Mo_end 29 = .ok (.ireturn, 1) := by decide +kernel
def p_Mo_end (nn : Int32) (a_thrown : Int32) (a_taped : Int32) (a_place : Int32) (a_resulted : Int32) (a_marks : Int32) (a_touches : Int32) (a_paints : Int32) : Option (Int32 × Int32 × Int32) := if nn < 0 then ((p_Mo_fail (1 : Int32) (0 : Int32) a_taped a_place a_resulted a_marks a_touches a_paints).bind (fun (r2, a_thrown_2) => some (r2, a_thrown_2, a_taped))) else (if nn ≤ a_taped then (some (nn, (0 : Int32), nn)) else ((p_Mo_fail (1 : Int32) (0 : Int32) a_taped a_place a_resulted a_marks a_touches a_paints).bind (fun (r4, a_thrown_4) => some (r4, a_thrown_4, a_taped))))
set_option maxHeartbeats 40000000 in
set_option maxRecDepth 100000 in
theorem c_Mo_end (l : Launch) (g : va_G) (cs : Nat → ClassId) (ka : Nat → Nat) (a_tape : Nat) (a_result : Nat) (a_terms : Nat) (a_names : Nat) (a_reader : Nat) (a_paper : Nat) (a_register : Nat) (a_became : Nat) (a_node : Nat) (a_marked : Nat) (a_markedRegister : Nat) (a_up : Nat) (a_touched : Nat) (a_todo : Nat) (a_color : Nat) (a_painted : Nat) (a : Nat) (sz : Nat) (nn : Int32) (a_thrown : Int32) (a_taped : Int32) (a_place : Int32) (a_resulted : Int32) (a_marks : Int32) (a_touches : Int32) (a_paints : Int32) (r : Int32) (o_a_thrown : Int32) (o_a_taped : Int32) (hok : p_Mo_end nn a_thrown a_taped a_place a_resulted a_marks a_touches a_paints = some (r, o_a_thrown, o_a_taped)) : Met l y_Mo_end (.code y_Mo_end b_Mo_end 2 (some .int) :: GW) { frames := 1, cells := 0, slots := 0, locals := 21 } (va_Pc [.ref a, .int nn] (gP g cs ka [(a, .inr (14, [.int a_thrown, .int a_taped, .int a_place, .int a_resulted, .int a_marks, .ref a_tape, .ref a_result, .ref a_terms, .ref a_names, .ref a_reader, .ref a_paper, .ref a_register, .ref a_became, .ref a_node, .ref a_marked, .ref a_markedRegister, .ref a_up, .ref a_touched, .ref a_todo, .ref a_color, .int a_touches, .ref a_painted, .int a_paints]))] sz)) (va_Qi (fun (r' : Int32) (_ : Unit) => r = r') (fun _ t => va_P g classes [(a, .inr (14, [.int o_a_thrown, .int o_a_taped, .int a_place, .int a_resulted, .int a_marks, .ref a_tape, .ref a_result, .ref a_terms, .ref a_names, .ref a_reader, .ref a_paper, .ref a_register, .ref a_became, .ref a_node, .ref a_marked, .ref a_markedRegister, .ref a_up, .ref a_touched, .ref a_todo, .ref a_color, .int a_touches, .ref a_painted, .int a_paints]))] t.heap ∧ va_D (va_A [(a, .inr (14, [.int a_thrown, .int a_taped, .int a_place, .int a_resulted, .int a_marks, .ref a_tape, .ref a_result, .ref a_terms, .ref a_names, .ref a_reader, .ref a_paper, .ref a_register, .ref a_became, .ref a_node, .ref a_marked, .ref a_markedRegister, .ref a_up, .ref a_touched, .ref a_todo, .ref a_color, .int a_touches, .ref a_painted, .int a_paints]))] sz) [(a, .inr (14, [.int o_a_thrown, .int o_a_taped, .int a_place, .int a_resulted, .int a_marks, .ref a_tape, .ref a_result, .ref a_terms, .ref a_names, .ref a_reader, .ref a_paper, .ref a_register, .ref a_became, .ref a_node, .ref a_marked, .ref a_markedRegister, .ref a_up, .ref a_touched, .ref a_todo, .ref a_color, .int a_touches, .ref a_painted, .int a_paints]))]) (va_A [(a, .inr (14, [.int a_thrown, .int a_taped, .int a_place, .int a_resulted, .int a_marks, .ref a_tape, .ref a_result, .ref a_terms, .ref a_names, .ref a_reader, .ref a_paper, .ref a_register, .ref a_became, .ref a_node, .ref a_marked, .ref a_markedRegister, .ref a_up, .ref a_touched, .ref a_todo, .ref a_color, .int a_touches, .ref a_painted, .int a_paints]))] sz)) 0 0 (va_A [(a, .inr (14, [.int a_thrown, .int a_taped, .int a_place, .int a_resulted, .int a_marks, .ref a_tape, .ref a_result, .ref a_terms, .ref a_names, .ref a_reader, .ref a_paper, .ref a_register, .ref a_became, .ref a_node, .ref a_marked, .ref a_markedRegister, .ref a_up, .ref a_touched, .ref a_todo, .ref a_color, .int a_touches, .ref a_painted, .int a_paints]))] sz) := by
  refine Met.ofW (cc := b_Mo_end) (maxL := 2) (ret := (some .int)) (by decide) rfl ?_
  intro p e s m args below meth c s₁ B hml hv
  obtain ⟨rfl, hsz, hP, hK, hD0, hgl, hkn, hkr⟩ := hv
  have hx := B.exec
  have hb := B.bytes
  have hr := B.returns
  have hg : ∀ w ∈ GW, w.before ([.ref a, .int nn] : List Value).toArray s = true := fun w hw => atoms_spec (ws := .code y_Mo_end b_Mo_end 2 (some .int) :: GW) B.pre w (List.mem_cons_of_mem _ hw)
  have hown : s.vm.findClass R_Mo = some m.cls := findClass_of_methodNamed B.named
  have hlocks := B.notSynchronized
  subst hsz
  have hD := hD0.self (sz := s.heap.size)
  generalize hAe : va_A [(a, .inr (14, [.int a_thrown, .int a_taped, .int a_place, .int a_resulted, .int a_marks, .ref a_tape, .ref a_result, .ref a_terms, .ref a_names, .ref a_reader, .ref a_paper, .ref a_register, .ref a_became, .ref a_node, .ref a_marked, .ref a_markedRegister, .ref a_up, .ref a_touched, .ref a_todo, .ref a_color, .int a_touches, .ref a_painted, .int a_paints]))] s.heap.size = A at hD hkn ⊢
  have hA : ∀ q : Nat, s.heap.size ≤ q → A q := fun q h => by rw [← hAe]; exact Or.inr h
  have hS : va_S A s.heap s.heap [] := va_S.rf
  have hP : va_P g classes [(a, .inr (14, [.int a_thrown, .int a_taped, .int a_place, .int a_resulted, .int a_marks, .ref a_tape, .ref a_result, .ref a_terms, .ref a_names, .ref a_reader, .ref a_paper, .ref a_register, .ref a_became, .ref a_node, .ref a_marked, .ref a_markedRegister, .ref a_up, .ref a_touched, .ref a_todo, .ref a_color, .int a_touches, .ref a_painted, .int a_paints]))] s.heap := hP
  have hl := lv_entry ([.ref a, .int nn]) (n := 2) (Nat.le_of_ble_eq_true rfl)
  rw [lg_entry_eq]
  generalize (lg_sl ([.ref a, .int nn]) ++ List.replicate (2 - (lg_sl ([.ref a, .int nn])).length) Slot.unset).toArray = ls at hl ⊢
  have hl : lv_has ls 2 [(0, .ref a), (1, .int nn)] := hl
  refine gq (fun Q hQ => ?_)
  obtain ⟨H, hH⟩ : ∃ H : Heap, H = s.heap := ⟨_, rfl⟩
  rw [← hH] at hP
  have hS : va_S A s.heap H [] := by rw [hH]; exact hS
  refine W.eqH hH ?_
  obtain ⟨locs, hlc⟩ : ∃ L : List Loc, L = [] := ⟨_, rfl⟩
  rw [← hlc] at hS ⊢
  unfold p_Mo_end at hok
  refine lv_aload_n hx hb d_Mo_end_0 rfl (lv_at hl 0 rfl) ?_
  refine lv_iconst (v := 0) hx hb d_Mo_end_1 (by decide) ?_
  refine va_put (D := g) (ci := 14) (v := .int 0) (ty := .int) (C := R_Mo) (T := F_Mo) (N := 23) hx hb hg ul_Mo t_Mo tk_Mo n_Mo hown hK hP hD hS 0 rfl rfl 0 (by decide) (hg _ wd_776) (fun _ h9 => h9) rfl (by decide +kernel) rfl rfl (Nat.le_of_ble_eq_true rfl) d_Mo_end_2 (fun H locs hP hD hS => ?_)
  obtain ⟨hP, hD⟩ : PD g A H [(a, .inr (14, [.int 0, .int a_taped, .int a_place, .int a_resulted, .int a_marks, .ref a_tape, .ref a_result, .ref a_terms, .ref a_names, .ref a_reader, .ref a_paper, .ref a_register, .ref a_became, .ref a_node, .ref a_marked, .ref a_markedRegister, .ref a_up, .ref a_touched, .ref a_todo, .ref a_color, .int a_touches, .ref a_painted, .int a_paints]))] := ⟨hP, hD⟩
  refine lv_iload_n hx hb d_Mo_end_5 rfl (lv_at hl 1 rfl) ?_
  refine lv_if_lt hx hb d_Mo_end_6 rfl (fun h1 => ?_) (fun h1 => ?_)
  · rw [if_pos h1] at hok
    refine lv_aload_n hx hb d_Mo_end_17 rfl (lv_at hl 0 rfl) ?_
    refine lv_iconst (v := 1) hx hb d_Mo_end_18 (by decide) ?_
    obtain ⟨⟨r2, a_thrown_2⟩, hc2, hok⟩ := bd_some hok
    dsimp only at hok
    obtain ⟨hPc, hDc, hFc⟩ := cut0 (wc := [(a, .inr (14, [.int 0, .int a_taped, .int a_place, .int a_resulted, .int a_marks, .ref a_tape, .ref a_result, .ref a_terms, .ref a_names, .ref a_reader, .ref a_paper, .ref a_register, .ref a_became, .ref a_node, .ref a_marked, .ref a_markedRegister, .ref a_up, .ref a_touched, .ref a_todo, .ref a_color, .int a_touches, .ref a_painted, .int a_paints]))]) hP hD hS hA [0] (by decide) rfl
    refine va_calli (va_runV (As := [.int 1]) (rest := []) ⟨hx, hb, hml, hown, hg⟩ (c_Mo_fail l g cs ka a_tape a_result a_terms a_names a_reader a_paper a_register a_became a_node a_marked a_markedRegister a_up a_touched a_todo a_color a_painted a H.size (1 : Int32) (0 : Int32) a_taped a_place a_resulted a_marks a_touches a_paints r2 a_thrown_2 hc2) (cwV (C := R_Mo) 1 hg (gw_V wd_785 wd_786 wd_787 wd_780 wd_784) rfl rfl rfl (by decide +kernel) ⟨Nat.le_of_ble_eq_true rfl, Nat.le_of_ble_eq_true rfl⟩) ⟨gP_blind, va_recv (q0 := 0) (ci := 14) (q := (R_Mo, F_Mo, 23)) hK hP rfl rfl, gP_pre hPc hDc hK hgl hkn hkr hS hFc⟩ rfl rfl hl.1 rfl (lv_room (Nat.le_of_ble_eq_true rfl)) d_Mo_end_19 ⟨Nat.le_of_ble_eq_true rfl, Nat.le_of_ble_eq_true rfl⟩) hS (fun q _ h => hFc q h) hFc (fun r2' u t H locs ht hvm hr2 hB hz1 hk1 hS => ?_)
    subst hr2
    rw [ht] at hB
    obtain ⟨hP1, hD1⟩ := hB
    obtain ⟨hP, hD⟩ := jn_A hP hD [0] [] rfl rfl (by decide) (by decide) hk1 hFc hP1 hD1
    obtain ⟨hP, hD⟩ : PD g A H [(a, .inr (14, [.int a_thrown_2, .int a_taped, .int a_place, .int a_resulted, .int a_marks, .ref a_tape, .ref a_result, .ref a_terms, .ref a_names, .ref a_reader, .ref a_paper, .ref a_register, .ref a_became, .ref a_node, .ref a_marked, .ref a_markedRegister, .ref a_up, .ref a_touched, .ref a_todo, .ref a_color, .int a_touches, .ref a_painted, .int a_paints]))] := ⟨hP, hD⟩
    have hq := Option.some.inj hok
    obtain ⟨hq0, hq⟩ := Prod.mk.inj hq
    obtain ⟨hq1, hq⟩ := Prod.mk.inj hq
    have hq2 := hq
    subst hq0
    subst hq1
    subst hq2
    obtain ⟨hP9, hD9⟩ := sub2 (ws' := [(a, .inr (14, [.int a_thrown_2, .int a_taped, .int a_place, .int a_resulted, .int a_marks, .ref a_tape, .ref a_result, .ref a_terms, .ref a_names, .ref a_reader, .ref a_paper, .ref a_register, .ref a_became, .ref a_node, .ref a_marked, .ref a_markedRegister, .ref a_up, .ref a_touched, .ref a_todo, .ref a_color, .int a_touches, .ref a_painted, .int a_paints]))]) hP hD [0] rfl (by decide) rfl
    rw [hQ]
    exact W.iret (v := r2) hx hb hr (fun t ht hW => ⟨⟨_, (), rfl, rfl, by rw [ht]; exact hP9, hD9⟩, hS.F ht⟩) hS.2.2 d_Mo_end_22
  · rw [if_neg h1] at hok
    refine lv_iload_n hx hb d_Mo_end_9 rfl (lv_at hl 1 rfl) ?_
    refine lv_aload_n hx hb d_Mo_end_10 rfl (lv_at hl 0 rfl) ?_
    refine va_get (D := g) (ci := 14) (v := .int a_taped) (C := R_Mo) (T := F_Mo) (N := 23) hx hb hg ul_Mo hown hK hP 0 rfl rfl 1 (by decide) (hg _ wd_778) (fun _ h9 => h9) rfl d_Mo_end_11 ?_
    refine lv_icmp_le hx hb d_Mo_end_14 rfl (fun h3 => ?_) (fun h3 => ?_)
    · rw [if_pos h3] at hok
      refine lv_aload_n hx hb d_Mo_end_23 rfl (lv_at hl 0 rfl) ?_
      refine lv_iload_n hx hb d_Mo_end_24 rfl (lv_at hl 1 rfl) ?_
      refine va_put (D := g) (ci := 14) (v := .int nn) (ty := .int) (C := R_Mo) (T := F_Mo) (N := 23) hx hb hg ul_Mo t_Mo tk_Mo n_Mo hown hK hP hD hS 0 rfl rfl 1 (by decide) (hg _ wd_778) (fun _ h9 => h9) rfl (by decide +kernel) rfl rfl (Nat.le_of_ble_eq_true rfl) d_Mo_end_25 (fun H locs hP hD hS => ?_)
      obtain ⟨hP, hD⟩ : PD g A H [(a, .inr (14, [.int 0, .int nn, .int a_place, .int a_resulted, .int a_marks, .ref a_tape, .ref a_result, .ref a_terms, .ref a_names, .ref a_reader, .ref a_paper, .ref a_register, .ref a_became, .ref a_node, .ref a_marked, .ref a_markedRegister, .ref a_up, .ref a_touched, .ref a_todo, .ref a_color, .int a_touches, .ref a_painted, .int a_paints]))] := ⟨hP, hD⟩
      refine lv_iload_n hx hb d_Mo_end_28 rfl (lv_at hl 1 rfl) ?_
      have hq := Option.some.inj hok
      obtain ⟨hq0, hq⟩ := Prod.mk.inj hq
      obtain ⟨hq1, hq⟩ := Prod.mk.inj hq
      have hq2 := hq
      subst hq0
      subst hq1
      subst hq2
      obtain ⟨hP9, hD9⟩ := sub2 (ws' := [(a, .inr (14, [.int 0, .int nn, .int a_place, .int a_resulted, .int a_marks, .ref a_tape, .ref a_result, .ref a_terms, .ref a_names, .ref a_reader, .ref a_paper, .ref a_register, .ref a_became, .ref a_node, .ref a_marked, .ref a_markedRegister, .ref a_up, .ref a_touched, .ref a_todo, .ref a_color, .int a_touches, .ref a_painted, .int a_paints]))]) hP hD [0] rfl (by decide) rfl
      rw [hQ]
      exact W.iret (v := nn) hx hb hr (fun t ht hW => ⟨⟨_, (), rfl, rfl, by rw [ht]; exact hP9, hD9⟩, hS.F ht⟩) hS.2.2 d_Mo_end_29
    · rw [if_neg h3] at hok
      refine lv_aload_n hx hb d_Mo_end_17 rfl (lv_at hl 0 rfl) ?_
      refine lv_iconst (v := 1) hx hb d_Mo_end_18 (by decide) ?_
      obtain ⟨⟨r4, a_thrown_4⟩, hc4, hok⟩ := bd_some hok
      dsimp only at hok
      obtain ⟨hPc, hDc, hFc⟩ := cut0 (wc := [(a, .inr (14, [.int 0, .int a_taped, .int a_place, .int a_resulted, .int a_marks, .ref a_tape, .ref a_result, .ref a_terms, .ref a_names, .ref a_reader, .ref a_paper, .ref a_register, .ref a_became, .ref a_node, .ref a_marked, .ref a_markedRegister, .ref a_up, .ref a_touched, .ref a_todo, .ref a_color, .int a_touches, .ref a_painted, .int a_paints]))]) hP hD hS hA [0] (by decide) rfl
      refine va_calli (va_runV (As := [.int 1]) (rest := []) ⟨hx, hb, hml, hown, hg⟩ (c_Mo_fail l g cs ka a_tape a_result a_terms a_names a_reader a_paper a_register a_became a_node a_marked a_markedRegister a_up a_touched a_todo a_color a_painted a H.size (1 : Int32) (0 : Int32) a_taped a_place a_resulted a_marks a_touches a_paints r4 a_thrown_4 hc4) (cwV (C := R_Mo) 1 hg (gw_V wd_785 wd_786 wd_787 wd_780 wd_784) rfl rfl rfl (by decide +kernel) ⟨Nat.le_of_ble_eq_true rfl, Nat.le_of_ble_eq_true rfl⟩) ⟨gP_blind, va_recv (q0 := 0) (ci := 14) (q := (R_Mo, F_Mo, 23)) hK hP rfl rfl, gP_pre hPc hDc hK hgl hkn hkr hS hFc⟩ rfl rfl hl.1 rfl (lv_room (Nat.le_of_ble_eq_true rfl)) d_Mo_end_19 ⟨Nat.le_of_ble_eq_true rfl, Nat.le_of_ble_eq_true rfl⟩) hS (fun q _ h => hFc q h) hFc (fun r4' u t H locs ht hvm hr4 hB hz1 hk1 hS => ?_)
      subst hr4
      rw [ht] at hB
      obtain ⟨hP1, hD1⟩ := hB
      obtain ⟨hP, hD⟩ := jn_A hP hD [0] [] rfl rfl (by decide) (by decide) hk1 hFc hP1 hD1
      obtain ⟨hP, hD⟩ : PD g A H [(a, .inr (14, [.int a_thrown_4, .int a_taped, .int a_place, .int a_resulted, .int a_marks, .ref a_tape, .ref a_result, .ref a_terms, .ref a_names, .ref a_reader, .ref a_paper, .ref a_register, .ref a_became, .ref a_node, .ref a_marked, .ref a_markedRegister, .ref a_up, .ref a_touched, .ref a_todo, .ref a_color, .int a_touches, .ref a_painted, .int a_paints]))] := ⟨hP, hD⟩
      have hq := Option.some.inj hok
      obtain ⟨hq0, hq⟩ := Prod.mk.inj hq
      obtain ⟨hq1, hq⟩ := Prod.mk.inj hq
      have hq2 := hq
      subst hq0
      subst hq1
      subst hq2
      obtain ⟨hP9, hD9⟩ := sub2 (ws' := [(a, .inr (14, [.int a_thrown_4, .int a_taped, .int a_place, .int a_resulted, .int a_marks, .ref a_tape, .ref a_result, .ref a_terms, .ref a_names, .ref a_reader, .ref a_paper, .ref a_register, .ref a_became, .ref a_node, .ref a_marked, .ref a_markedRegister, .ref a_up, .ref a_touched, .ref a_todo, .ref a_color, .int a_touches, .ref a_painted, .int a_paints]))]) hP hD [0] rfl (by decide) rfl
      rw [hQ]
      exact W.iret (v := r4) hx hb hr (fun t ht hW => ⟨⟨_, (), rfl, rfl, by rw [ht]; exact hP9, hD9⟩, hS.F ht⟩) hS.2.2 d_Mo_end_22

theorem d_Mo_none_0 : decode b_Mo_none 0 = .ok (.iload_n 0, 1) := by decide +kernel
theorem d_Mo_none_1 : decode b_Mo_none 1 = .ok (.ifCond .lt 9, 3) := by decide +kernel
theorem d_Mo_none_4 : decode b_Mo_none 4 = .ok (.iload_n 0, 1) := by decide +kernel
theorem d_Mo_none_5 : decode b_Mo_none 5 = .ok (.bipush 7, 2) := by decide +kernel
theorem d_Mo_none_7 : decode b_Mo_none 7 = .ok (.if_icmp .le 7, 3) := by decide +kernel
theorem d_Mo_none_10 : decode b_Mo_none 10 = .ok (.iconst 1, 1) := by decide +kernel
theorem d_Mo_none_11 : decode b_Mo_none 11 = .ok (.goto 4, 3) := by decide +kernel
theorem d_Mo_none_14 : decode b_Mo_none 14 = .ok (.iconst 0, 1) := by decide +kernel
theorem d_Mo_none_15 : decode b_Mo_none 15 = .ok (.ireturn, 1) := by decide +kernel
def p_Mo_none (rr : Int32) : Option Int32 := if rr < 0 then (some (1 : Int32)) else (if rr ≤ 7 then (some (0 : Int32)) else (some (1 : Int32)))
set_option maxHeartbeats 40000000 in
set_option maxRecDepth 100000 in
theorem c_Mo_none (l : Launch) (g : va_G) (cs : Nat → ClassId) (ka : Nat → Nat) (sz : Nat) (rr : Int32) (r : Int32) (hok : p_Mo_none rr = some r) : Met l y_Mo_none (.code y_Mo_none b_Mo_none 1 (some .boolean) :: GW) { frames := 0, cells := 0, slots := 0, locals := 0 } (va_Pc [.int rr] (gP g cs ka [] sz)) (va_Qi (fun (r' : Int32) (_ : Unit) => r = r') (fun _ t => va_P g classes [] t.heap ∧ va_D (va_A [] sz) []) (va_A [] sz)) 0 0 (va_A [] sz) := by
  refine Met.ofW (cc := b_Mo_none) (maxL := 1) (ret := (some .boolean)) (by decide) rfl ?_
  intro p e s m args below meth c s₁ B hml hv
  obtain ⟨rfl, hsz, hP, hK, hD0, hgl, hkn, hkr⟩ := hv
  have hx := B.exec
  have hb := B.bytes
  have hr := B.returns
  have hg : ∀ w ∈ GW, w.before ([.int rr] : List Value).toArray s = true := fun w hw => atoms_spec (ws := .code y_Mo_none b_Mo_none 1 (some .boolean) :: GW) B.pre w (List.mem_cons_of_mem _ hw)
  have hown : s.vm.findClass R_Mo = some m.cls := findClass_of_methodNamed B.named
  have hlocks := B.notSynchronized
  subst hsz
  have hD := hD0.self (sz := s.heap.size)
  generalize hAe : va_A [] s.heap.size = A at hD hkn ⊢
  have hA : ∀ q : Nat, s.heap.size ≤ q → A q := fun q h => by rw [← hAe]; exact Or.inr h
  have hS : va_S A s.heap s.heap [] := va_S.rf
  have hP : va_P g classes [] s.heap := hP
  have hl := lv_entry ([.int rr]) (n := 1) (Nat.le_of_ble_eq_true rfl)
  rw [lg_entry_eq]
  generalize (lg_sl ([.int rr]) ++ List.replicate (1 - (lg_sl ([.int rr])).length) Slot.unset).toArray = ls at hl ⊢
  have hl : lv_has ls 1 [(0, .int rr)] := hl
  refine gq (fun Q hQ => ?_)
  obtain ⟨H, hH⟩ : ∃ H : Heap, H = s.heap := ⟨_, rfl⟩
  rw [← hH] at hP
  have hS : va_S A s.heap H [] := by rw [hH]; exact hS
  refine W.eqH hH ?_
  obtain ⟨locs, hlc⟩ : ∃ L : List Loc, L = [] := ⟨_, rfl⟩
  rw [← hlc] at hS ⊢
  unfold p_Mo_none at hok
  refine lv_iload_n hx hb d_Mo_none_0 rfl (lv_at hl 0 rfl) ?_
  refine lv_if_lt hx hb d_Mo_none_1 rfl (fun h1 => ?_) (fun h1 => ?_)
  · rw [if_pos h1] at hok
    refine lv_iconst (v := 1) hx hb d_Mo_none_10 (by decide) ?_
    refine lv_goto hx hb d_Mo_none_11 rfl ?_
    have hq := Option.some.inj hok
    have hq0 := hq
    subst hq0
    obtain ⟨hP9, hD9⟩ := sub2 (ws' := []) hP hD [] rfl (by decide) rfl
    rw [hQ]
    exact W.zret (v := 1) hx hb hr rfl (fun t ht hW => ⟨⟨_, (), rfl, rfl, by rw [ht]; exact hP9, hD9⟩, hS.F ht⟩) hS.2.2 d_Mo_none_15
  · rw [if_neg h1] at hok
    refine lv_iload_n hx hb d_Mo_none_4 rfl (lv_at hl 0 rfl) ?_
    refine lv_bipush (v := 7) hx hb d_Mo_none_5 (by decide) ?_
    refine lv_icmp_le hx hb d_Mo_none_7 rfl (fun h2 => ?_) (fun h2 => ?_)
    · rw [if_pos h2] at hok
      refine lv_iconst (v := 0) hx hb d_Mo_none_14 (by decide) ?_
      have hq := Option.some.inj hok
      have hq0 := hq
      subst hq0
      obtain ⟨hP9, hD9⟩ := sub2 (ws' := []) hP hD [] rfl (by decide) rfl
      rw [hQ]
      exact W.zret (v := 0) hx hb hr rfl (fun t ht hW => ⟨⟨_, (), rfl, rfl, by rw [ht]; exact hP9, hD9⟩, hS.F ht⟩) hS.2.2 d_Mo_none_15
    · rw [if_neg h2] at hok
      refine lv_iconst (v := 1) hx hb d_Mo_none_10 (by decide) ?_
      refine lv_goto hx hb d_Mo_none_11 rfl ?_
      have hq := Option.some.inj hok
      have hq0 := hq
      subst hq0
      obtain ⟨hP9, hD9⟩ := sub2 (ws' := []) hP hD [] rfl (by decide) rfl
      rw [hQ]
      exact W.zret (v := 1) hx hb hr rfl (fun t ht hW => ⟨⟨_, (), rfl, rfl, by rw [ht]; exact hP9, hD9⟩, hS.F ht⟩) hS.2.2 d_Mo_none_15

theorem d_Mo_meant_0 : decode b_Mo_meant 0 = .ok (.iload_n 1, 1) := by decide +kernel
theorem d_Mo_meant_1 : decode b_Mo_meant 1 = .ok (.istore_n 2, 1) := by decide +kernel
theorem d_Mo_meant_2 : decode b_Mo_meant 2 = .ok (.aload_n 0, 1) := by decide +kernel
theorem d_Mo_meant_3 : decode b_Mo_meant 3 = .ok (.getfield 23, 3) := by decide +kernel
theorem d_Mo_meant_6 : decode b_Mo_meant 6 = .ok (.getfield 133, 3) := by decide +kernel
theorem d_Mo_meant_9 : decode b_Mo_meant 9 = .ok (.iload_n 2, 1) := by decide +kernel
theorem d_Mo_meant_10 : decode b_Mo_meant 10 = .ok (.iaload, 1) := by decide +kernel
theorem d_Mo_meant_11 : decode b_Mo_meant 11 = .ok (.ifCond .ne 40, 3) := by decide +kernel
theorem d_Mo_meant_14 : decode b_Mo_meant 14 = .ok (.aload_n 0, 1) := by decide +kernel
theorem d_Mo_meant_15 : decode b_Mo_meant 15 = .ok (.getfield 23, 3) := by decide +kernel
theorem d_Mo_meant_18 : decode b_Mo_meant 18 = .ok (.getfield 136, 3) := by decide +kernel
theorem d_Mo_meant_21 : decode b_Mo_meant 21 = .ok (.iload_n 2, 1) := by decide +kernel
theorem d_Mo_meant_22 : decode b_Mo_meant 22 = .ok (.iaload, 1) := by decide +kernel
theorem d_Mo_meant_23 : decode b_Mo_meant 23 = .ok (.istore_n 3, 1) := by decide +kernel
theorem d_Mo_meant_24 : decode b_Mo_meant 24 = .ok (.aload_n 0, 1) := by decide +kernel
theorem d_Mo_meant_25 : decode b_Mo_meant 25 = .ok (.getfield 54, 3) := by decide +kernel
theorem d_Mo_meant_28 : decode b_Mo_meant 28 = .ok (.iload_n 3, 1) := by decide +kernel
theorem d_Mo_meant_29 : decode b_Mo_meant 29 = .ok (.iaload, 1) := by decide +kernel
theorem d_Mo_meant_30 : decode b_Mo_meant 30 = .ok (.iconst (-1), 1) := by decide +kernel
theorem d_Mo_meant_31 : decode b_Mo_meant 31 = .ok (.if_icmp .ne 10, 3) := by decide +kernel
theorem d_Mo_meant_34 : decode b_Mo_meant 34 = .ok (.aload_n 0, 1) := by decide +kernel
theorem d_Mo_meant_35 : decode b_Mo_meant 35 = .ok (.getfield 57, 3) := by decide +kernel
theorem d_Mo_meant_38 : decode b_Mo_meant 38 = .ok (.iload_n 3, 1) := by decide +kernel
theorem d_Mo_meant_39 : decode b_Mo_meant 39 = .ok (.iaload, 1) := by decide +kernel
theorem d_Mo_meant_40 : decode b_Mo_meant 40 = .ok (.ireturn, 1) := by decide +kernel
theorem d_Mo_meant_41 : decode b_Mo_meant 41 = .ok (.aload_n 0, 1) := by decide +kernel
theorem d_Mo_meant_42 : decode b_Mo_meant 42 = .ok (.getfield 54, 3) := by decide +kernel
theorem d_Mo_meant_45 : decode b_Mo_meant 45 = .ok (.iload_n 3, 1) := by decide +kernel
theorem d_Mo_meant_46 : decode b_Mo_meant 46 = .ok (.iaload, 1) := by decide +kernel
theorem d_Mo_meant_47 : decode b_Mo_meant 47 = .ok (.istore_n 2, 1) := by decide +kernel
theorem d_Mo_meant_48 : decode b_Mo_meant 48 = .ok (.goto (-46), 3) := by decide +kernel
theorem d_Mo_meant_51 : decode b_Mo_meant 51 = .ok (.iload_n 2, 1) := by decide +kernel
theorem d_Mo_meant_52 : decode b_Mo_meant 52 = .ok (.ireturn, 1) := by decide +kernel
def p_Mo_meant_2 (n : Nat) (a_terms_kind_n : Nat) (a_terms_kind_f : Nat → Int32) (a_terms_name_n : Nat) (a_terms_name_f : Nat → Int32) (a_became_n : Nat) (a_became_f : Nat → Int32) (a_node_n : Nat) (a_node_f : Nat → Int32) (kf1 : Nat) (x2_1 : Int32) : Option Int32 := match kf1 with
  | 0 => none
  | kf1 + 1 => ck (ixb x2_1 a_terms_kind_n) (if (a_terms_kind_f x2_1.toNatClampNeg) = 0 then (ck (ixb x2_1 a_terms_name_n) (ck (ixb (a_terms_name_f x2_1.toNatClampNeg) a_became_n) (if (a_became_f (a_terms_name_f x2_1.toNatClampNeg).toNatClampNeg) = (-1) then (ck (ixb (a_terms_name_f x2_1.toNatClampNeg) a_node_n) (some (a_node_f (a_terms_name_f x2_1.toNatClampNeg).toNatClampNeg))) else (ck (ixb (a_terms_name_f x2_1.toNatClampNeg) a_became_n) (p_Mo_meant_2 n a_terms_kind_n a_terms_kind_f a_terms_name_n a_terms_name_f a_became_n a_became_f a_node_n a_node_f kf1 (a_became_f (a_terms_name_f x2_1.toNatClampNeg).toNatClampNeg)))))) else (some x2_1))
def p_Mo_meant (n : Nat) (tm : Int32) (a_thrown : Int32) (a_taped : Int32) (a_place : Int32) (a_resulted : Int32) (a_marks : Int32) (a_touches : Int32) (a_paints : Int32) (a_terms_size : Int32) (a_terms_parts : Int32) (a_terms_kind_n : Nat) (a_terms_kind_f : Nat → Int32) (a_terms_name_n : Nat) (a_terms_name_f : Nat → Int32) (a_became_n : Nat) (a_became_f : Nat → Int32) (a_node_n : Nat) (a_node_f : Nat → Int32) : Option Int32 := p_Mo_meant_2 n a_terms_kind_n a_terms_kind_f a_terms_name_n a_terms_name_f a_became_n a_became_f a_node_n a_node_f n tm
set_option maxHeartbeats 40000000 in
set_option maxRecDepth 100000 in
theorem c_Mo_meant (l : Launch) (g : va_G) (cs : Nat → ClassId) (ka : Nat → Nat) (a_tape : Nat) (a_result : Nat) (a_names : Nat) (a_reader : Nat) (a_paper : Nat) (a_register : Nat) (a_marked : Nat) (a_markedRegister : Nat) (a_up : Nat) (a_touched : Nat) (a_todo : Nat) (a_color : Nat) (a_painted : Nat) (a_terms_first : Nat) (a_terms_many : Nat) (a_terms_part : Nat) (a_terms_number : Nat) (a a_terms a_terms_kind a_terms_name a_became a_node : Nat) (sz : Nat) (n : Nat) (tm : Int32) (a_thrown : Int32) (a_taped : Int32) (a_place : Int32) (a_resulted : Int32) (a_marks : Int32) (a_touches : Int32) (a_paints : Int32) (a_terms_size : Int32) (a_terms_parts : Int32) (a_terms_kind_n : Nat) (a_terms_kind_f : Nat → Int32) (a_terms_name_n : Nat) (a_terms_name_f : Nat → Int32) (a_became_n : Nat) (a_became_f : Nat → Int32) (a_node_n : Nat) (a_node_f : Nat → Int32) (r : Int32) (hok : p_Mo_meant n tm a_thrown a_taped a_place a_resulted a_marks a_touches a_paints a_terms_size a_terms_parts a_terms_kind_n a_terms_kind_f a_terms_name_n a_terms_name_f a_became_n a_became_f a_node_n a_node_f = some r) : Met l y_Mo_meant (.code y_Mo_meant b_Mo_meant 4 (some .int) :: GW) { frames := 0, cells := 0, slots := 0, locals := 0 } (va_Pc [.ref a, .int tm] (gP g cs ka [(a, .inr (14, [.int a_thrown, .int a_taped, .int a_place, .int a_resulted, .int a_marks, .ref a_tape, .ref a_result, .ref a_terms, .ref a_names, .ref a_reader, .ref a_paper, .ref a_register, .ref a_became, .ref a_node, .ref a_marked, .ref a_markedRegister, .ref a_up, .ref a_touched, .ref a_todo, .ref a_color, .int a_touches, .ref a_painted, .int a_paints])), (a_terms, .inr (11, [.ref a_terms_kind, .ref a_terms_name, .ref a_terms_first, .ref a_terms_many, .ref a_terms_part, .ref a_terms_number, .int a_terms_size, .int a_terms_parts])), (a_terms_kind, .inl (cs 0, a_terms_kind_n, .inl a_terms_kind_f)), (a_terms_name, .inl (cs 0, a_terms_name_n, .inl a_terms_name_f)), (a_became, .inl (cs 0, a_became_n, .inl a_became_f)), (a_node, .inl (cs 0, a_node_n, .inl a_node_f))] sz)) (va_Qi (fun (r' : Int32) (_ : Unit) => r = r') (fun _ t => va_P g classes [(a, .inr (14, [.int a_thrown, .int a_taped, .int a_place, .int a_resulted, .int a_marks, .ref a_tape, .ref a_result, .ref a_terms, .ref a_names, .ref a_reader, .ref a_paper, .ref a_register, .ref a_became, .ref a_node, .ref a_marked, .ref a_markedRegister, .ref a_up, .ref a_touched, .ref a_todo, .ref a_color, .int a_touches, .ref a_painted, .int a_paints])), (a_terms, .inr (11, [.ref a_terms_kind, .ref a_terms_name, .ref a_terms_first, .ref a_terms_many, .ref a_terms_part, .ref a_terms_number, .int a_terms_size, .int a_terms_parts])), (a_terms_kind, .inl (cs 0, a_terms_kind_n, .inl a_terms_kind_f)), (a_terms_name, .inl (cs 0, a_terms_name_n, .inl a_terms_name_f)), (a_became, .inl (cs 0, a_became_n, .inl a_became_f)), (a_node, .inl (cs 0, a_node_n, .inl a_node_f))] t.heap ∧ va_D (va_A [(a, .inr (14, [.int a_thrown, .int a_taped, .int a_place, .int a_resulted, .int a_marks, .ref a_tape, .ref a_result, .ref a_terms, .ref a_names, .ref a_reader, .ref a_paper, .ref a_register, .ref a_became, .ref a_node, .ref a_marked, .ref a_markedRegister, .ref a_up, .ref a_touched, .ref a_todo, .ref a_color, .int a_touches, .ref a_painted, .int a_paints])), (a_terms, .inr (11, [.ref a_terms_kind, .ref a_terms_name, .ref a_terms_first, .ref a_terms_many, .ref a_terms_part, .ref a_terms_number, .int a_terms_size, .int a_terms_parts])), (a_terms_kind, .inl (cs 0, a_terms_kind_n, .inl a_terms_kind_f)), (a_terms_name, .inl (cs 0, a_terms_name_n, .inl a_terms_name_f)), (a_became, .inl (cs 0, a_became_n, .inl a_became_f)), (a_node, .inl (cs 0, a_node_n, .inl a_node_f))] sz) [(a, .inr (14, [.int a_thrown, .int a_taped, .int a_place, .int a_resulted, .int a_marks, .ref a_tape, .ref a_result, .ref a_terms, .ref a_names, .ref a_reader, .ref a_paper, .ref a_register, .ref a_became, .ref a_node, .ref a_marked, .ref a_markedRegister, .ref a_up, .ref a_touched, .ref a_todo, .ref a_color, .int a_touches, .ref a_painted, .int a_paints])), (a_terms, .inr (11, [.ref a_terms_kind, .ref a_terms_name, .ref a_terms_first, .ref a_terms_many, .ref a_terms_part, .ref a_terms_number, .int a_terms_size, .int a_terms_parts])), (a_terms_kind, .inl (cs 0, a_terms_kind_n, .inl a_terms_kind_f)), (a_terms_name, .inl (cs 0, a_terms_name_n, .inl a_terms_name_f)), (a_became, .inl (cs 0, a_became_n, .inl a_became_f)), (a_node, .inl (cs 0, a_node_n, .inl a_node_f))]) (va_A [(a, .inr (14, [.int a_thrown, .int a_taped, .int a_place, .int a_resulted, .int a_marks, .ref a_tape, .ref a_result, .ref a_terms, .ref a_names, .ref a_reader, .ref a_paper, .ref a_register, .ref a_became, .ref a_node, .ref a_marked, .ref a_markedRegister, .ref a_up, .ref a_touched, .ref a_todo, .ref a_color, .int a_touches, .ref a_painted, .int a_paints])), (a_terms, .inr (11, [.ref a_terms_kind, .ref a_terms_name, .ref a_terms_first, .ref a_terms_many, .ref a_terms_part, .ref a_terms_number, .int a_terms_size, .int a_terms_parts])), (a_terms_kind, .inl (cs 0, a_terms_kind_n, .inl a_terms_kind_f)), (a_terms_name, .inl (cs 0, a_terms_name_n, .inl a_terms_name_f)), (a_became, .inl (cs 0, a_became_n, .inl a_became_f)), (a_node, .inl (cs 0, a_node_n, .inl a_node_f))] sz)) 0 0 (va_A [(a, .inr (14, [.int a_thrown, .int a_taped, .int a_place, .int a_resulted, .int a_marks, .ref a_tape, .ref a_result, .ref a_terms, .ref a_names, .ref a_reader, .ref a_paper, .ref a_register, .ref a_became, .ref a_node, .ref a_marked, .ref a_markedRegister, .ref a_up, .ref a_touched, .ref a_todo, .ref a_color, .int a_touches, .ref a_painted, .int a_paints])), (a_terms, .inr (11, [.ref a_terms_kind, .ref a_terms_name, .ref a_terms_first, .ref a_terms_many, .ref a_terms_part, .ref a_terms_number, .int a_terms_size, .int a_terms_parts])), (a_terms_kind, .inl (cs 0, a_terms_kind_n, .inl a_terms_kind_f)), (a_terms_name, .inl (cs 0, a_terms_name_n, .inl a_terms_name_f)), (a_became, .inl (cs 0, a_became_n, .inl a_became_f)), (a_node, .inl (cs 0, a_node_n, .inl a_node_f))] sz) := by
  refine Met.ofW (cc := b_Mo_meant) (maxL := 4) (ret := (some .int)) (by decide) rfl ?_
  intro p e s m args below meth c s₁ B hml hv
  obtain ⟨rfl, hsz, hP, hK, hD0, hgl, hkn, hkr⟩ := hv
  have hx := B.exec
  have hb := B.bytes
  have hr := B.returns
  have hg : ∀ w ∈ GW, w.before ([.ref a, .int tm] : List Value).toArray s = true := fun w hw => atoms_spec (ws := .code y_Mo_meant b_Mo_meant 4 (some .int) :: GW) B.pre w (List.mem_cons_of_mem _ hw)
  have hown : s.vm.findClass R_Mo = some m.cls := findClass_of_methodNamed B.named
  have hlocks := B.notSynchronized
  subst hsz
  have hD := hD0.self (sz := s.heap.size)
  generalize hAe : va_A [(a, .inr (14, [.int a_thrown, .int a_taped, .int a_place, .int a_resulted, .int a_marks, .ref a_tape, .ref a_result, .ref a_terms, .ref a_names, .ref a_reader, .ref a_paper, .ref a_register, .ref a_became, .ref a_node, .ref a_marked, .ref a_markedRegister, .ref a_up, .ref a_touched, .ref a_todo, .ref a_color, .int a_touches, .ref a_painted, .int a_paints])), (a_terms, .inr (11, [.ref a_terms_kind, .ref a_terms_name, .ref a_terms_first, .ref a_terms_many, .ref a_terms_part, .ref a_terms_number, .int a_terms_size, .int a_terms_parts])), (a_terms_kind, .inl (cs 0, a_terms_kind_n, .inl a_terms_kind_f)), (a_terms_name, .inl (cs 0, a_terms_name_n, .inl a_terms_name_f)), (a_became, .inl (cs 0, a_became_n, .inl a_became_f)), (a_node, .inl (cs 0, a_node_n, .inl a_node_f))] s.heap.size = A at hD hkn ⊢
  have hA : ∀ q : Nat, s.heap.size ≤ q → A q := fun q h => by rw [← hAe]; exact Or.inr h
  have hS : va_S A s.heap s.heap [] := va_S.rf
  have hP : va_P g classes [(a, .inr (14, [.int a_thrown, .int a_taped, .int a_place, .int a_resulted, .int a_marks, .ref a_tape, .ref a_result, .ref a_terms, .ref a_names, .ref a_reader, .ref a_paper, .ref a_register, .ref a_became, .ref a_node, .ref a_marked, .ref a_markedRegister, .ref a_up, .ref a_touched, .ref a_todo, .ref a_color, .int a_touches, .ref a_painted, .int a_paints])), (a_terms, .inr (11, [.ref a_terms_kind, .ref a_terms_name, .ref a_terms_first, .ref a_terms_many, .ref a_terms_part, .ref a_terms_number, .int a_terms_size, .int a_terms_parts])), (a_terms_kind, .inl (cs 0, a_terms_kind_n, .inl a_terms_kind_f)), (a_terms_name, .inl (cs 0, a_terms_name_n, .inl a_terms_name_f)), (a_became, .inl (cs 0, a_became_n, .inl a_became_f)), (a_node, .inl (cs 0, a_node_n, .inl a_node_f))] s.heap := hP
  have hl := lv_entry ([.ref a, .int tm]) (n := 4) (Nat.le_of_ble_eq_true rfl)
  rw [lg_entry_eq]
  generalize (lg_sl ([.ref a, .int tm]) ++ List.replicate (4 - (lg_sl ([.ref a, .int tm])).length) Slot.unset).toArray = ls at hl ⊢
  have hl : lv_has ls 4 [(0, .ref a), (1, .int tm)] := hl
  refine gq (fun Q hQ => ?_)
  obtain ⟨H, hH⟩ : ∃ H : Heap, H = s.heap := ⟨_, rfl⟩
  rw [← hH] at hP
  have hS : va_S A s.heap H [] := by rw [hH]; exact hS
  refine W.eqH hH ?_
  obtain ⟨locs, hlc⟩ : ∃ L : List Loc, L = [] := ⟨_, rfl⟩
  rw [← hlc] at hS ⊢
  unfold p_Mo_meant at hok
  refine lv_iload_n hx hb d_Mo_meant_0 rfl (lv_at hl 1 rfl) ?_
  refine lv_istore_n hx hb d_Mo_meant_1 rfl hl (by decide) rfl (fun ls hl => ?_)
  have hl : lv_has ls 4 [(2, .int tm), (0, .ref a), (1, .int tm)] := hl
  have J1 : ∀ (kf1 : Nat) (H : Heap) (locs : List Loc) (ls : Array Slot) (x2_1 : Int32), lv_has ls 4 [(2, .int x2_1), (0, .ref a), (1, .int tm)] → PD g A H [(a, .inr (14, [.int a_thrown, .int a_taped, .int a_place, .int a_resulted, .int a_marks, .ref a_tape, .ref a_result, .ref a_terms, .ref a_names, .ref a_reader, .ref a_paper, .ref a_register, .ref a_became, .ref a_node, .ref a_marked, .ref a_markedRegister, .ref a_up, .ref a_touched, .ref a_todo, .ref a_color, .int a_touches, .ref a_painted, .int a_paints])), (a_terms, .inr (11, [.ref a_terms_kind, .ref a_terms_name, .ref a_terms_first, .ref a_terms_many, .ref a_terms_part, .ref a_terms_number, .int a_terms_size, .int a_terms_parts])), (a_terms_kind, .inl (cs 0, a_terms_kind_n, .inl a_terms_kind_f)), (a_terms_name, .inl (cs 0, a_terms_name_n, .inl a_terms_name_f)), (a_became, .inl (cs 0, a_became_n, .inl a_became_f)), (a_node, .inl (cs 0, a_node_n, .inl a_node_f))] → va_S A s.heap H locs → p_Mo_meant_2 n a_terms_kind_n a_terms_kind_f a_terms_name_n a_terms_name_f a_became_n a_became_f a_node_n a_node_f kf1 x2_1 = some r → W p l e (headSpec (.code y_Mo_meant b_Mo_meant 4 (some .int) :: GW) { frames := 0, cells := 0, slots := 0, locals := 0 }).room s m ([.ref a, .int tm] : List Value).toArray below meth c H locs 0 0 Q (F0 m 2 ls []) := by
    intro kf1
    induction kf1 with
    | zero => intro H locs ls x2_1 hl ⟨hP, hD⟩ hS hok; rw [p_Mo_meant_2] at hok; cases hok
    | succ kf1 ih1 =>
      intro H locs ls x2_1 hl ⟨hP, hD⟩ hS hok
      rw [p_Mo_meant_2] at hok
      refine lv_aload_n hx hb d_Mo_meant_2 rfl (lv_at hl 1 rfl) ?_
      refine va_get (D := g) (ci := 14) (v := .ref a_terms) (C := R_Mo) (T := F_Mo) (N := 23) hx hb hg ul_Mo hown hK hP 0 rfl rfl 7 (by decide) (hg _ wd_788) (fun _ h9 => h9) rfl d_Mo_meant_3 ?_
      refine va_get (D := g) (ci := 11) (v := .ref a_terms_kind) (C := R_MoTerms) (T := F_MoTerms) (N := 8) hx hb hg ul_MoTerms hown hK hP 1 rfl rfl 0 (by decide) (hg _ wd_789) (fun _ h9 => h9) rfl d_Mo_meant_6 ?_
      refine lv_iload_n hx hb d_Mo_meant_9 rfl (lv_at hl 0 rfl) ?_
      obtain ⟨hi2, hok⟩ := ck_some hok
      refine va_iald hx hb hK hP 2 0 rfl rfl (ixb_in hi2) d_Mo_meant_10 ?_
      refine lv_if_ne hx hb d_Mo_meant_11 rfl (fun h3 => ?_) (fun h3 => ?_)
      · rw [if_neg h3] at hok
        refine lv_iload_n hx hb d_Mo_meant_51 rfl (lv_at hl 0 rfl) ?_
        have hq := Option.some.inj hok
        have hq0 := hq
        subst hq0
        obtain ⟨hP9, hD9⟩ := sub2 (ws' := [(a, .inr (14, [.int a_thrown, .int a_taped, .int a_place, .int a_resulted, .int a_marks, .ref a_tape, .ref a_result, .ref a_terms, .ref a_names, .ref a_reader, .ref a_paper, .ref a_register, .ref a_became, .ref a_node, .ref a_marked, .ref a_markedRegister, .ref a_up, .ref a_touched, .ref a_todo, .ref a_color, .int a_touches, .ref a_painted, .int a_paints])), (a_terms, .inr (11, [.ref a_terms_kind, .ref a_terms_name, .ref a_terms_first, .ref a_terms_many, .ref a_terms_part, .ref a_terms_number, .int a_terms_size, .int a_terms_parts])), (a_terms_kind, .inl (cs 0, a_terms_kind_n, .inl a_terms_kind_f)), (a_terms_name, .inl (cs 0, a_terms_name_n, .inl a_terms_name_f)), (a_became, .inl (cs 0, a_became_n, .inl a_became_f)), (a_node, .inl (cs 0, a_node_n, .inl a_node_f))]) hP hD [0, 1, 2, 3, 4, 5] rfl (by decide) rfl
        rw [hQ]
        exact W.iret (v := x2_1) hx hb hr (fun t ht hW => ⟨⟨_, (), rfl, rfl, by rw [ht]; exact hP9, hD9⟩, hS.F ht⟩) hS.2.2 d_Mo_meant_52
      · rw [if_pos h3] at hok
        refine lv_aload_n hx hb d_Mo_meant_14 rfl (lv_at hl 1 rfl) ?_
        refine va_get (D := g) (ci := 14) (v := .ref a_terms) (C := R_Mo) (T := F_Mo) (N := 23) hx hb hg ul_Mo hown hK hP 0 rfl rfl 7 (by decide) (hg _ wd_788) (fun _ h9 => h9) rfl d_Mo_meant_15 ?_
        refine va_get (D := g) (ci := 11) (v := .ref a_terms_name) (C := R_MoTerms) (T := F_MoTerms) (N := 8) hx hb hg ul_MoTerms hown hK hP 1 rfl rfl 1 (by decide) (hg _ wd_790) (fun _ h9 => h9) rfl d_Mo_meant_18 ?_
        refine lv_iload_n hx hb d_Mo_meant_21 rfl (lv_at hl 0 rfl) ?_
        obtain ⟨hi4, hok⟩ := ck_some hok
        refine va_iald hx hb hK hP 3 0 rfl rfl (ixb_in hi4) d_Mo_meant_22 ?_
        refine lv_istore_n hx hb d_Mo_meant_23 rfl hl (by decide) rfl (fun ls hl => ?_)
        have hl : lv_has ls 4 [(3, .int (a_terms_name_f x2_1.toNatClampNeg)), (2, .int x2_1), (0, .ref a), (1, .int tm)] := hl
        refine lv_aload_n hx hb d_Mo_meant_24 rfl (lv_at hl 2 rfl) ?_
        refine va_get (D := g) (ci := 14) (v := .ref a_became) (C := R_Mo) (T := F_Mo) (N := 23) hx hb hg ul_Mo hown hK hP 0 rfl rfl 12 (by decide) (hg _ wd_791) (fun _ h9 => h9) rfl d_Mo_meant_25 ?_
        refine lv_iload_n hx hb d_Mo_meant_28 rfl (lv_at hl 0 rfl) ?_
        obtain ⟨hi5, hok⟩ := ck_some hok
        refine va_iald hx hb hK hP 4 0 rfl rfl (ixb_in hi5) d_Mo_meant_29 ?_
        refine lv_iconst (v := (-1)) hx hb d_Mo_meant_30 (by decide) ?_
        refine lv_icmp_ne hx hb d_Mo_meant_31 rfl (fun h6 => ?_) (fun h6 => ?_)
        · rw [if_neg h6] at hok
          refine lv_aload_n hx hb d_Mo_meant_41 rfl (lv_at hl 2 rfl) ?_
          refine va_get (D := g) (ci := 14) (v := .ref a_became) (C := R_Mo) (T := F_Mo) (N := 23) hx hb hg ul_Mo hown hK hP 0 rfl rfl 12 (by decide) (hg _ wd_791) (fun _ h9 => h9) rfl d_Mo_meant_42 ?_
          refine lv_iload_n hx hb d_Mo_meant_45 rfl (lv_at hl 0 rfl) ?_
          obtain ⟨hi7, hok⟩ := ck_some hok
          refine va_iald hx hb hK hP 4 0 rfl rfl (ixb_in hi7) d_Mo_meant_46 ?_
          refine lv_istore_n hx hb d_Mo_meant_47 rfl hl (by decide) rfl (fun ls hl => ?_)
          have hl : lv_has ls 4 [(2, .int (a_became_f (a_terms_name_f x2_1.toNatClampNeg).toNatClampNeg)), (3, .int (a_terms_name_f x2_1.toNatClampNeg)), (0, .ref a), (1, .int tm)] := hl
          refine lv_goto hx hb d_Mo_meant_48 rfl ?_
          exact ih1 _ _ _ (a_became_f (a_terms_name_f x2_1.toNatClampNeg).toNatClampNeg) (lv_sub hl [0, 2, 3] rfl) (sub3 hP hD [0, 1, 2, 3, 4, 5] (by decide)) hS hok
        · rw [if_pos h6] at hok
          refine lv_aload_n hx hb d_Mo_meant_34 rfl (lv_at hl 2 rfl) ?_
          refine va_get (D := g) (ci := 14) (v := .ref a_node) (C := R_Mo) (T := F_Mo) (N := 23) hx hb hg ul_Mo hown hK hP 0 rfl rfl 13 (by decide) (hg _ wd_792) (fun _ h9 => h9) rfl d_Mo_meant_35 ?_
          refine lv_iload_n hx hb d_Mo_meant_38 rfl (lv_at hl 0 rfl) ?_
          obtain ⟨hi8, hok⟩ := ck_some hok
          refine va_iald hx hb hK hP 5 0 rfl rfl (ixb_in hi8) d_Mo_meant_39 ?_
          have hq := Option.some.inj hok
          have hq0 := hq
          subst hq0
          obtain ⟨hP9, hD9⟩ := sub2 (ws' := [(a, .inr (14, [.int a_thrown, .int a_taped, .int a_place, .int a_resulted, .int a_marks, .ref a_tape, .ref a_result, .ref a_terms, .ref a_names, .ref a_reader, .ref a_paper, .ref a_register, .ref a_became, .ref a_node, .ref a_marked, .ref a_markedRegister, .ref a_up, .ref a_touched, .ref a_todo, .ref a_color, .int a_touches, .ref a_painted, .int a_paints])), (a_terms, .inr (11, [.ref a_terms_kind, .ref a_terms_name, .ref a_terms_first, .ref a_terms_many, .ref a_terms_part, .ref a_terms_number, .int a_terms_size, .int a_terms_parts])), (a_terms_kind, .inl (cs 0, a_terms_kind_n, .inl a_terms_kind_f)), (a_terms_name, .inl (cs 0, a_terms_name_n, .inl a_terms_name_f)), (a_became, .inl (cs 0, a_became_n, .inl a_became_f)), (a_node, .inl (cs 0, a_node_n, .inl a_node_f))]) hP hD [0, 1, 2, 3, 4, 5] rfl (by decide) rfl
          rw [hQ]
          exact W.iret (v := a_node_f (a_terms_name_f x2_1.toNatClampNeg).toNatClampNeg) hx hb hr (fun t ht hW => ⟨⟨_, (), rfl, rfl, by rw [ht]; exact hP9, hD9⟩, hS.F ht⟩) hS.2.2 d_Mo_meant_40
  exact J1 n H locs ls tm hl ⟨hP, hD⟩ hS hok

theorem d_Mo_root_0 : decode b_Mo_root 0 = .ok (.aload_n 0, 1) := by decide +kernel
theorem d_Mo_root_1 : decode b_Mo_root 1 = .ok (.iload_n 1, 1) := by decide +kernel
theorem d_Mo_root_2 : decode b_Mo_root 2 = .ok (.invokevirtual 139, 3) := by decide +kernel
theorem d_Mo_root_5 : decode b_Mo_root 5 = .ok (.istore_n 2, 1) := by decide +kernel
theorem d_Mo_root_6 : decode b_Mo_root 6 = .ok (.aload_n 0, 1) := by decide +kernel
theorem d_Mo_root_7 : decode b_Mo_root 7 = .ok (.getfield 69, 3) := by decide +kernel
theorem d_Mo_root_10 : decode b_Mo_root 10 = .ok (.iload_n 2, 1) := by decide +kernel
theorem d_Mo_root_11 : decode b_Mo_root 11 = .ok (.iaload, 1) := by decide +kernel
theorem d_Mo_root_12 : decode b_Mo_root 12 = .ok (.iconst (-1), 1) := by decide +kernel
theorem d_Mo_root_13 : decode b_Mo_root 13 = .ok (.if_icmp .eq 17, 3) := by decide +kernel
theorem d_Mo_root_16 : decode b_Mo_root 16 = .ok (.aload_n 0, 1) := by decide +kernel
theorem d_Mo_root_17 : decode b_Mo_root 17 = .ok (.aload_n 0, 1) := by decide +kernel
theorem d_Mo_root_18 : decode b_Mo_root 18 = .ok (.getfield 69, 3) := by decide +kernel
theorem d_Mo_root_21 : decode b_Mo_root 21 = .ok (.iload_n 2, 1) := by decide +kernel
theorem d_Mo_root_22 : decode b_Mo_root 22 = .ok (.iaload, 1) := by decide +kernel
theorem d_Mo_root_23 : decode b_Mo_root 23 = .ok (.invokevirtual 139, 3) := by decide +kernel
theorem d_Mo_root_26 : decode b_Mo_root 26 = .ok (.istore_n 2, 1) := by decide +kernel
theorem d_Mo_root_27 : decode b_Mo_root 27 = .ok (.goto (-21), 3) := by decide +kernel
theorem d_Mo_root_30 : decode b_Mo_root 30 = .ok (.iload_n 2, 1) := by decide +kernel
theorem d_Mo_root_31 : decode b_Mo_root 31 = .ok (.ireturn, 1) := by decide +kernel
def p_Mo_root_6 (n : Nat) (a_thrown : Int32) (a_taped : Int32) (a_place : Int32) (a_resulted : Int32) (a_marks : Int32) (a_touches : Int32) (a_paints : Int32) (a_terms_size : Int32) (a_terms_parts : Int32) (a_terms_kind_n : Nat) (a_terms_kind_f : Nat → Int32) (a_terms_name_n : Nat) (a_terms_name_f : Nat → Int32) (a_became_n : Nat) (a_became_f : Nat → Int32) (a_node_n : Nat) (a_node_f : Nat → Int32) (a_up_n : Nat) (a_up_f : Nat → Int32) (kf2 : Nat) (x2_2 : Int32) : Option Int32 := match kf2 with
  | 0 => none
  | kf2 + 1 => ck (ixb x2_2 a_up_n) (if (a_up_f x2_2.toNatClampNeg) = (-1) then (some x2_2) else (ck (ixb x2_2 a_up_n) ((p_Mo_meant n (a_up_f x2_2.toNatClampNeg) a_thrown a_taped a_place a_resulted a_marks a_touches a_paints a_terms_size a_terms_parts a_terms_kind_n a_terms_kind_f a_terms_name_n a_terms_name_f a_became_n a_became_f a_node_n a_node_f).bind (fun r6 => p_Mo_root_6 n a_thrown a_taped a_place a_resulted a_marks a_touches a_paints a_terms_size a_terms_parts a_terms_kind_n a_terms_kind_f a_terms_name_n a_terms_name_f a_became_n a_became_f a_node_n a_node_f a_up_n a_up_f kf2 r6))))
def p_Mo_root (n : Nat) (tm : Int32) (a_thrown : Int32) (a_taped : Int32) (a_place : Int32) (a_resulted : Int32) (a_marks : Int32) (a_touches : Int32) (a_paints : Int32) (a_terms_size : Int32) (a_terms_parts : Int32) (a_terms_kind_n : Nat) (a_terms_kind_f : Nat → Int32) (a_terms_name_n : Nat) (a_terms_name_f : Nat → Int32) (a_became_n : Nat) (a_became_f : Nat → Int32) (a_node_n : Nat) (a_node_f : Nat → Int32) (a_up_n : Nat) (a_up_f : Nat → Int32) : Option Int32 := (p_Mo_meant n tm a_thrown a_taped a_place a_resulted a_marks a_touches a_paints a_terms_size a_terms_parts a_terms_kind_n a_terms_kind_f a_terms_name_n a_terms_name_f a_became_n a_became_f a_node_n a_node_f).bind (fun r1 => p_Mo_root_6 n a_thrown a_taped a_place a_resulted a_marks a_touches a_paints a_terms_size a_terms_parts a_terms_kind_n a_terms_kind_f a_terms_name_n a_terms_name_f a_became_n a_became_f a_node_n a_node_f a_up_n a_up_f n r1)
set_option maxHeartbeats 40000000 in
set_option maxRecDepth 100000 in
theorem c_Mo_root (l : Launch) (g : va_G) (cs : Nat → ClassId) (ka : Nat → Nat) (a_tape : Nat) (a_result : Nat) (a_names : Nat) (a_reader : Nat) (a_paper : Nat) (a_register : Nat) (a_marked : Nat) (a_markedRegister : Nat) (a_touched : Nat) (a_todo : Nat) (a_color : Nat) (a_painted : Nat) (a_terms_first : Nat) (a_terms_many : Nat) (a_terms_part : Nat) (a_terms_number : Nat) (a a_terms a_terms_kind a_terms_name a_became a_node a_up : Nat) (sz : Nat) (n : Nat) (tm : Int32) (a_thrown : Int32) (a_taped : Int32) (a_place : Int32) (a_resulted : Int32) (a_marks : Int32) (a_touches : Int32) (a_paints : Int32) (a_terms_size : Int32) (a_terms_parts : Int32) (a_terms_kind_n : Nat) (a_terms_kind_f : Nat → Int32) (a_terms_name_n : Nat) (a_terms_name_f : Nat → Int32) (a_became_n : Nat) (a_became_f : Nat → Int32) (a_node_n : Nat) (a_node_f : Nat → Int32) (a_up_n : Nat) (a_up_f : Nat → Int32) (r : Int32) (hok : p_Mo_root n tm a_thrown a_taped a_place a_resulted a_marks a_touches a_paints a_terms_size a_terms_parts a_terms_kind_n a_terms_kind_f a_terms_name_n a_terms_name_f a_became_n a_became_f a_node_n a_node_f a_up_n a_up_f = some r) : Met l y_Mo_root (.code y_Mo_root b_Mo_root 3 (some .int) :: GW) { frames := 1, cells := 0, slots := 0, locals := 23 } (va_Pc [.ref a, .int tm] (gP g cs ka [(a, .inr (14, [.int a_thrown, .int a_taped, .int a_place, .int a_resulted, .int a_marks, .ref a_tape, .ref a_result, .ref a_terms, .ref a_names, .ref a_reader, .ref a_paper, .ref a_register, .ref a_became, .ref a_node, .ref a_marked, .ref a_markedRegister, .ref a_up, .ref a_touched, .ref a_todo, .ref a_color, .int a_touches, .ref a_painted, .int a_paints])), (a_terms, .inr (11, [.ref a_terms_kind, .ref a_terms_name, .ref a_terms_first, .ref a_terms_many, .ref a_terms_part, .ref a_terms_number, .int a_terms_size, .int a_terms_parts])), (a_terms_kind, .inl (cs 0, a_terms_kind_n, .inl a_terms_kind_f)), (a_terms_name, .inl (cs 0, a_terms_name_n, .inl a_terms_name_f)), (a_became, .inl (cs 0, a_became_n, .inl a_became_f)), (a_node, .inl (cs 0, a_node_n, .inl a_node_f)), (a_up, .inl (cs 0, a_up_n, .inl a_up_f))] sz)) (va_Qi (fun (r' : Int32) (_ : Unit) => r = r') (fun _ t => va_P g classes [(a, .inr (14, [.int a_thrown, .int a_taped, .int a_place, .int a_resulted, .int a_marks, .ref a_tape, .ref a_result, .ref a_terms, .ref a_names, .ref a_reader, .ref a_paper, .ref a_register, .ref a_became, .ref a_node, .ref a_marked, .ref a_markedRegister, .ref a_up, .ref a_touched, .ref a_todo, .ref a_color, .int a_touches, .ref a_painted, .int a_paints])), (a_terms, .inr (11, [.ref a_terms_kind, .ref a_terms_name, .ref a_terms_first, .ref a_terms_many, .ref a_terms_part, .ref a_terms_number, .int a_terms_size, .int a_terms_parts])), (a_terms_kind, .inl (cs 0, a_terms_kind_n, .inl a_terms_kind_f)), (a_terms_name, .inl (cs 0, a_terms_name_n, .inl a_terms_name_f)), (a_became, .inl (cs 0, a_became_n, .inl a_became_f)), (a_node, .inl (cs 0, a_node_n, .inl a_node_f)), (a_up, .inl (cs 0, a_up_n, .inl a_up_f))] t.heap ∧ va_D (va_A [(a, .inr (14, [.int a_thrown, .int a_taped, .int a_place, .int a_resulted, .int a_marks, .ref a_tape, .ref a_result, .ref a_terms, .ref a_names, .ref a_reader, .ref a_paper, .ref a_register, .ref a_became, .ref a_node, .ref a_marked, .ref a_markedRegister, .ref a_up, .ref a_touched, .ref a_todo, .ref a_color, .int a_touches, .ref a_painted, .int a_paints])), (a_terms, .inr (11, [.ref a_terms_kind, .ref a_terms_name, .ref a_terms_first, .ref a_terms_many, .ref a_terms_part, .ref a_terms_number, .int a_terms_size, .int a_terms_parts])), (a_terms_kind, .inl (cs 0, a_terms_kind_n, .inl a_terms_kind_f)), (a_terms_name, .inl (cs 0, a_terms_name_n, .inl a_terms_name_f)), (a_became, .inl (cs 0, a_became_n, .inl a_became_f)), (a_node, .inl (cs 0, a_node_n, .inl a_node_f)), (a_up, .inl (cs 0, a_up_n, .inl a_up_f))] sz) [(a, .inr (14, [.int a_thrown, .int a_taped, .int a_place, .int a_resulted, .int a_marks, .ref a_tape, .ref a_result, .ref a_terms, .ref a_names, .ref a_reader, .ref a_paper, .ref a_register, .ref a_became, .ref a_node, .ref a_marked, .ref a_markedRegister, .ref a_up, .ref a_touched, .ref a_todo, .ref a_color, .int a_touches, .ref a_painted, .int a_paints])), (a_terms, .inr (11, [.ref a_terms_kind, .ref a_terms_name, .ref a_terms_first, .ref a_terms_many, .ref a_terms_part, .ref a_terms_number, .int a_terms_size, .int a_terms_parts])), (a_terms_kind, .inl (cs 0, a_terms_kind_n, .inl a_terms_kind_f)), (a_terms_name, .inl (cs 0, a_terms_name_n, .inl a_terms_name_f)), (a_became, .inl (cs 0, a_became_n, .inl a_became_f)), (a_node, .inl (cs 0, a_node_n, .inl a_node_f)), (a_up, .inl (cs 0, a_up_n, .inl a_up_f))]) (va_A [(a, .inr (14, [.int a_thrown, .int a_taped, .int a_place, .int a_resulted, .int a_marks, .ref a_tape, .ref a_result, .ref a_terms, .ref a_names, .ref a_reader, .ref a_paper, .ref a_register, .ref a_became, .ref a_node, .ref a_marked, .ref a_markedRegister, .ref a_up, .ref a_touched, .ref a_todo, .ref a_color, .int a_touches, .ref a_painted, .int a_paints])), (a_terms, .inr (11, [.ref a_terms_kind, .ref a_terms_name, .ref a_terms_first, .ref a_terms_many, .ref a_terms_part, .ref a_terms_number, .int a_terms_size, .int a_terms_parts])), (a_terms_kind, .inl (cs 0, a_terms_kind_n, .inl a_terms_kind_f)), (a_terms_name, .inl (cs 0, a_terms_name_n, .inl a_terms_name_f)), (a_became, .inl (cs 0, a_became_n, .inl a_became_f)), (a_node, .inl (cs 0, a_node_n, .inl a_node_f)), (a_up, .inl (cs 0, a_up_n, .inl a_up_f))] sz)) 0 0 (va_A [(a, .inr (14, [.int a_thrown, .int a_taped, .int a_place, .int a_resulted, .int a_marks, .ref a_tape, .ref a_result, .ref a_terms, .ref a_names, .ref a_reader, .ref a_paper, .ref a_register, .ref a_became, .ref a_node, .ref a_marked, .ref a_markedRegister, .ref a_up, .ref a_touched, .ref a_todo, .ref a_color, .int a_touches, .ref a_painted, .int a_paints])), (a_terms, .inr (11, [.ref a_terms_kind, .ref a_terms_name, .ref a_terms_first, .ref a_terms_many, .ref a_terms_part, .ref a_terms_number, .int a_terms_size, .int a_terms_parts])), (a_terms_kind, .inl (cs 0, a_terms_kind_n, .inl a_terms_kind_f)), (a_terms_name, .inl (cs 0, a_terms_name_n, .inl a_terms_name_f)), (a_became, .inl (cs 0, a_became_n, .inl a_became_f)), (a_node, .inl (cs 0, a_node_n, .inl a_node_f)), (a_up, .inl (cs 0, a_up_n, .inl a_up_f))] sz) := by
  refine Met.ofW (cc := b_Mo_root) (maxL := 3) (ret := (some .int)) (by decide) rfl ?_
  intro p e s m args below meth c s₁ B hml hv
  obtain ⟨rfl, hsz, hP, hK, hD0, hgl, hkn, hkr⟩ := hv
  have hx := B.exec
  have hb := B.bytes
  have hr := B.returns
  have hg : ∀ w ∈ GW, w.before ([.ref a, .int tm] : List Value).toArray s = true := fun w hw => atoms_spec (ws := .code y_Mo_root b_Mo_root 3 (some .int) :: GW) B.pre w (List.mem_cons_of_mem _ hw)
  have hown : s.vm.findClass R_Mo = some m.cls := findClass_of_methodNamed B.named
  have hlocks := B.notSynchronized
  subst hsz
  have hD := hD0.self (sz := s.heap.size)
  generalize hAe : va_A [(a, .inr (14, [.int a_thrown, .int a_taped, .int a_place, .int a_resulted, .int a_marks, .ref a_tape, .ref a_result, .ref a_terms, .ref a_names, .ref a_reader, .ref a_paper, .ref a_register, .ref a_became, .ref a_node, .ref a_marked, .ref a_markedRegister, .ref a_up, .ref a_touched, .ref a_todo, .ref a_color, .int a_touches, .ref a_painted, .int a_paints])), (a_terms, .inr (11, [.ref a_terms_kind, .ref a_terms_name, .ref a_terms_first, .ref a_terms_many, .ref a_terms_part, .ref a_terms_number, .int a_terms_size, .int a_terms_parts])), (a_terms_kind, .inl (cs 0, a_terms_kind_n, .inl a_terms_kind_f)), (a_terms_name, .inl (cs 0, a_terms_name_n, .inl a_terms_name_f)), (a_became, .inl (cs 0, a_became_n, .inl a_became_f)), (a_node, .inl (cs 0, a_node_n, .inl a_node_f)), (a_up, .inl (cs 0, a_up_n, .inl a_up_f))] s.heap.size = A at hD hkn ⊢
  have hA : ∀ q : Nat, s.heap.size ≤ q → A q := fun q h => by rw [← hAe]; exact Or.inr h
  have hS : va_S A s.heap s.heap [] := va_S.rf
  have hP : va_P g classes [(a, .inr (14, [.int a_thrown, .int a_taped, .int a_place, .int a_resulted, .int a_marks, .ref a_tape, .ref a_result, .ref a_terms, .ref a_names, .ref a_reader, .ref a_paper, .ref a_register, .ref a_became, .ref a_node, .ref a_marked, .ref a_markedRegister, .ref a_up, .ref a_touched, .ref a_todo, .ref a_color, .int a_touches, .ref a_painted, .int a_paints])), (a_terms, .inr (11, [.ref a_terms_kind, .ref a_terms_name, .ref a_terms_first, .ref a_terms_many, .ref a_terms_part, .ref a_terms_number, .int a_terms_size, .int a_terms_parts])), (a_terms_kind, .inl (cs 0, a_terms_kind_n, .inl a_terms_kind_f)), (a_terms_name, .inl (cs 0, a_terms_name_n, .inl a_terms_name_f)), (a_became, .inl (cs 0, a_became_n, .inl a_became_f)), (a_node, .inl (cs 0, a_node_n, .inl a_node_f)), (a_up, .inl (cs 0, a_up_n, .inl a_up_f))] s.heap := hP
  have hl := lv_entry ([.ref a, .int tm]) (n := 3) (Nat.le_of_ble_eq_true rfl)
  rw [lg_entry_eq]
  generalize (lg_sl ([.ref a, .int tm]) ++ List.replicate (3 - (lg_sl ([.ref a, .int tm])).length) Slot.unset).toArray = ls at hl ⊢
  have hl : lv_has ls 3 [(0, .ref a), (1, .int tm)] := hl
  refine gq (fun Q hQ => ?_)
  obtain ⟨H, hH⟩ : ∃ H : Heap, H = s.heap := ⟨_, rfl⟩
  rw [← hH] at hP
  have hS : va_S A s.heap H [] := by rw [hH]; exact hS
  refine W.eqH hH ?_
  obtain ⟨locs, hlc⟩ : ∃ L : List Loc, L = [] := ⟨_, rfl⟩
  rw [← hlc] at hS ⊢
  unfold p_Mo_root at hok
  refine lv_aload_n hx hb d_Mo_root_0 rfl (lv_at hl 0 rfl) ?_
  refine lv_iload_n hx hb d_Mo_root_1 rfl (lv_at hl 1 rfl) ?_
  obtain ⟨r1, hc1, hok⟩ := bd_some hok
  obtain ⟨hPc, hDc, hFc⟩ := cut0 (wc := [(a, .inr (14, [.int a_thrown, .int a_taped, .int a_place, .int a_resulted, .int a_marks, .ref a_tape, .ref a_result, .ref a_terms, .ref a_names, .ref a_reader, .ref a_paper, .ref a_register, .ref a_became, .ref a_node, .ref a_marked, .ref a_markedRegister, .ref a_up, .ref a_touched, .ref a_todo, .ref a_color, .int a_touches, .ref a_painted, .int a_paints])), (a_terms, .inr (11, [.ref a_terms_kind, .ref a_terms_name, .ref a_terms_first, .ref a_terms_many, .ref a_terms_part, .ref a_terms_number, .int a_terms_size, .int a_terms_parts])), (a_terms_kind, .inl (cs 0, a_terms_kind_n, .inl a_terms_kind_f)), (a_terms_name, .inl (cs 0, a_terms_name_n, .inl a_terms_name_f)), (a_became, .inl (cs 0, a_became_n, .inl a_became_f)), (a_node, .inl (cs 0, a_node_n, .inl a_node_f))]) hP hD hS hA [0, 1, 2, 3, 4, 5] (by decide) rfl
  refine va_calli (va_runV (As := [.int tm]) (rest := []) ⟨hx, hb, hml, hown, hg⟩ (c_Mo_meant l g cs ka a_tape a_result a_names a_reader a_paper a_register a_marked a_markedRegister a_up a_touched a_todo a_color a_painted a_terms_first a_terms_many a_terms_part a_terms_number a a_terms a_terms_kind a_terms_name a_became a_node H.size n tm a_thrown a_taped a_place a_resulted a_marks a_touches a_paints a_terms_size a_terms_parts a_terms_kind_n a_terms_kind_f a_terms_name_n a_terms_name_f a_became_n a_became_f a_node_n a_node_f r1 hc1) (cwV (C := R_Mo) 1 hg (gw_V wd_794 wd_795 wd_796 wd_780 wd_793) rfl rfl rfl (by decide +kernel) ⟨Nat.le_of_ble_eq_true rfl, Nat.le_of_ble_eq_true rfl⟩) ⟨gP_blind, va_recv (q0 := 0) (ci := 14) (q := (R_Mo, F_Mo, 23)) hK hP rfl rfl, gP_pre hPc hDc hK hgl hkn hkr hS hFc⟩ rfl rfl hl.1 rfl (lv_room (Nat.le_of_ble_eq_true rfl)) d_Mo_root_2 ⟨Nat.le_of_ble_eq_true rfl, Nat.le_of_ble_eq_true rfl⟩) hS (fun q _ h => hFc q h) hFc (fun r1' u t H locs ht hvm hr1 hB hz1 hk1 hS => ?_)
  subst hr1
  rw [ht] at hB
  obtain ⟨hP1, hD1⟩ := hB
  obtain ⟨hP, hD⟩ := jn_A hP hD [0, 1, 2, 3, 4, 5] [6] rfl rfl (by decide) (by decide) hk1 hFc hP1 hD1
  obtain ⟨hP, hD⟩ : PD g A H [(a_up, .inl (cs 0, a_up_n, .inl a_up_f)), (a, .inr (14, [.int a_thrown, .int a_taped, .int a_place, .int a_resulted, .int a_marks, .ref a_tape, .ref a_result, .ref a_terms, .ref a_names, .ref a_reader, .ref a_paper, .ref a_register, .ref a_became, .ref a_node, .ref a_marked, .ref a_markedRegister, .ref a_up, .ref a_touched, .ref a_todo, .ref a_color, .int a_touches, .ref a_painted, .int a_paints])), (a_terms, .inr (11, [.ref a_terms_kind, .ref a_terms_name, .ref a_terms_first, .ref a_terms_many, .ref a_terms_part, .ref a_terms_number, .int a_terms_size, .int a_terms_parts])), (a_terms_kind, .inl (cs 0, a_terms_kind_n, .inl a_terms_kind_f)), (a_terms_name, .inl (cs 0, a_terms_name_n, .inl a_terms_name_f)), (a_became, .inl (cs 0, a_became_n, .inl a_became_f)), (a_node, .inl (cs 0, a_node_n, .inl a_node_f))] := ⟨hP, hD⟩
  refine lv_istore_n hx hb d_Mo_root_5 rfl hl (by decide) rfl (fun ls hl => ?_)
  have hl : lv_has ls 3 [(2, .int r1), (0, .ref a), (1, .int tm)] := hl
  have J2 : ∀ (kf2 : Nat) (H : Heap) (locs : List Loc) (ls : Array Slot) (x2_2 : Int32), lv_has ls 3 [(2, .int x2_2), (0, .ref a), (1, .int tm)] → PD g A H [(a_up, .inl (cs 0, a_up_n, .inl a_up_f)), (a, .inr (14, [.int a_thrown, .int a_taped, .int a_place, .int a_resulted, .int a_marks, .ref a_tape, .ref a_result, .ref a_terms, .ref a_names, .ref a_reader, .ref a_paper, .ref a_register, .ref a_became, .ref a_node, .ref a_marked, .ref a_markedRegister, .ref a_up, .ref a_touched, .ref a_todo, .ref a_color, .int a_touches, .ref a_painted, .int a_paints])), (a_terms, .inr (11, [.ref a_terms_kind, .ref a_terms_name, .ref a_terms_first, .ref a_terms_many, .ref a_terms_part, .ref a_terms_number, .int a_terms_size, .int a_terms_parts])), (a_terms_kind, .inl (cs 0, a_terms_kind_n, .inl a_terms_kind_f)), (a_terms_name, .inl (cs 0, a_terms_name_n, .inl a_terms_name_f)), (a_became, .inl (cs 0, a_became_n, .inl a_became_f)), (a_node, .inl (cs 0, a_node_n, .inl a_node_f))] → va_S A s.heap H locs → p_Mo_root_6 n a_thrown a_taped a_place a_resulted a_marks a_touches a_paints a_terms_size a_terms_parts a_terms_kind_n a_terms_kind_f a_terms_name_n a_terms_name_f a_became_n a_became_f a_node_n a_node_f a_up_n a_up_f kf2 x2_2 = some r → W p l e (headSpec (.code y_Mo_root b_Mo_root 3 (some .int) :: GW) { frames := 1, cells := 0, slots := 0, locals := 23 }).room s m ([.ref a, .int tm] : List Value).toArray below meth c H locs 0 0 Q (F0 m 6 ls []) := by
    intro kf2
    induction kf2 with
    | zero => intro H locs ls x2_2 hl ⟨hP, hD⟩ hS hok; rw [p_Mo_root_6] at hok; cases hok
    | succ kf2 ih2 =>
      intro H locs ls x2_2 hl ⟨hP, hD⟩ hS hok
      rw [p_Mo_root_6] at hok
      refine lv_aload_n hx hb d_Mo_root_6 rfl (lv_at hl 1 rfl) ?_
      refine va_get (D := g) (ci := 14) (v := .ref a_up) (C := R_Mo) (T := F_Mo) (N := 23) hx hb hg ul_Mo hown hK hP 1 rfl rfl 16 (by decide) (hg _ wd_797) (fun _ h9 => h9) rfl d_Mo_root_7 ?_
      refine lv_iload_n hx hb d_Mo_root_10 rfl (lv_at hl 0 rfl) ?_
      obtain ⟨hi3, hok⟩ := ck_some hok
      refine va_iald hx hb hK hP 0 0 rfl rfl (ixb_in hi3) d_Mo_root_11 ?_
      refine lv_iconst (v := (-1)) hx hb d_Mo_root_12 (by decide) ?_
      refine lv_icmp_eq hx hb d_Mo_root_13 rfl (fun h4 => ?_) (fun h4 => ?_)
      · rw [if_pos h4] at hok
        refine lv_iload_n hx hb d_Mo_root_30 rfl (lv_at hl 0 rfl) ?_
        have hq := Option.some.inj hok
        have hq0 := hq
        subst hq0
        obtain ⟨hP9, hD9⟩ := sub2 (ws' := [(a, .inr (14, [.int a_thrown, .int a_taped, .int a_place, .int a_resulted, .int a_marks, .ref a_tape, .ref a_result, .ref a_terms, .ref a_names, .ref a_reader, .ref a_paper, .ref a_register, .ref a_became, .ref a_node, .ref a_marked, .ref a_markedRegister, .ref a_up, .ref a_touched, .ref a_todo, .ref a_color, .int a_touches, .ref a_painted, .int a_paints])), (a_terms, .inr (11, [.ref a_terms_kind, .ref a_terms_name, .ref a_terms_first, .ref a_terms_many, .ref a_terms_part, .ref a_terms_number, .int a_terms_size, .int a_terms_parts])), (a_terms_kind, .inl (cs 0, a_terms_kind_n, .inl a_terms_kind_f)), (a_terms_name, .inl (cs 0, a_terms_name_n, .inl a_terms_name_f)), (a_became, .inl (cs 0, a_became_n, .inl a_became_f)), (a_node, .inl (cs 0, a_node_n, .inl a_node_f)), (a_up, .inl (cs 0, a_up_n, .inl a_up_f))]) hP hD [1, 2, 3, 4, 5, 6, 0] rfl (by decide) rfl
        rw [hQ]
        exact W.iret (v := x2_2) hx hb hr (fun t ht hW => ⟨⟨_, (), rfl, rfl, by rw [ht]; exact hP9, hD9⟩, hS.F ht⟩) hS.2.2 d_Mo_root_31
      · rw [if_neg h4] at hok
        refine lv_aload_n hx hb d_Mo_root_16 rfl (lv_at hl 1 rfl) ?_
        refine lv_aload_n hx hb d_Mo_root_17 rfl (lv_at hl 1 rfl) ?_
        refine va_get (D := g) (ci := 14) (v := .ref a_up) (C := R_Mo) (T := F_Mo) (N := 23) hx hb hg ul_Mo hown hK hP 1 rfl rfl 16 (by decide) (hg _ wd_797) (fun _ h9 => h9) rfl d_Mo_root_18 ?_
        refine lv_iload_n hx hb d_Mo_root_21 rfl (lv_at hl 0 rfl) ?_
        obtain ⟨hi5, hok⟩ := ck_some hok
        refine va_iald hx hb hK hP 0 0 rfl rfl (ixb_in hi5) d_Mo_root_22 ?_
        obtain ⟨r6, hc6, hok⟩ := bd_some hok
        obtain ⟨hPc, hDc, hFc⟩ := cut0 (wc := [(a, .inr (14, [.int a_thrown, .int a_taped, .int a_place, .int a_resulted, .int a_marks, .ref a_tape, .ref a_result, .ref a_terms, .ref a_names, .ref a_reader, .ref a_paper, .ref a_register, .ref a_became, .ref a_node, .ref a_marked, .ref a_markedRegister, .ref a_up, .ref a_touched, .ref a_todo, .ref a_color, .int a_touches, .ref a_painted, .int a_paints])), (a_terms, .inr (11, [.ref a_terms_kind, .ref a_terms_name, .ref a_terms_first, .ref a_terms_many, .ref a_terms_part, .ref a_terms_number, .int a_terms_size, .int a_terms_parts])), (a_terms_kind, .inl (cs 0, a_terms_kind_n, .inl a_terms_kind_f)), (a_terms_name, .inl (cs 0, a_terms_name_n, .inl a_terms_name_f)), (a_became, .inl (cs 0, a_became_n, .inl a_became_f)), (a_node, .inl (cs 0, a_node_n, .inl a_node_f))]) hP hD hS hA [1, 2, 3, 4, 5, 6] (by decide) rfl
        refine va_calli (va_runV (As := [.int (a_up_f x2_2.toNatClampNeg)]) (rest := []) ⟨hx, hb, hml, hown, hg⟩ (c_Mo_meant l g cs ka a_tape a_result a_names a_reader a_paper a_register a_marked a_markedRegister a_up a_touched a_todo a_color a_painted a_terms_first a_terms_many a_terms_part a_terms_number a a_terms a_terms_kind a_terms_name a_became a_node H.size n (a_up_f x2_2.toNatClampNeg) a_thrown a_taped a_place a_resulted a_marks a_touches a_paints a_terms_size a_terms_parts a_terms_kind_n a_terms_kind_f a_terms_name_n a_terms_name_f a_became_n a_became_f a_node_n a_node_f r6 hc6) (cwV (C := R_Mo) 1 hg (gw_V wd_794 wd_795 wd_796 wd_780 wd_793) rfl rfl rfl (by decide +kernel) ⟨Nat.le_of_ble_eq_true rfl, Nat.le_of_ble_eq_true rfl⟩) ⟨gP_blind, va_recv (q0 := 1) (ci := 14) (q := (R_Mo, F_Mo, 23)) hK hP rfl rfl, gP_pre hPc hDc hK hgl hkn hkr hS hFc⟩ rfl rfl hl.1 rfl (lv_room (Nat.le_of_ble_eq_true rfl)) d_Mo_root_23 ⟨Nat.le_of_ble_eq_true rfl, Nat.le_of_ble_eq_true rfl⟩) hS (fun q _ h => hFc q h) hFc (fun r6' u t H locs ht hvm hr6 hB hz1 hk1 hS => ?_)
        subst hr6
        rw [ht] at hB
        obtain ⟨hP1, hD1⟩ := hB
        obtain ⟨hP, hD⟩ := jn_A hP hD [1, 2, 3, 4, 5, 6] [0] rfl rfl (by decide) (by decide) hk1 hFc hP1 hD1
        obtain ⟨hP, hD⟩ : PD g A H [(a_up, .inl (cs 0, a_up_n, .inl a_up_f)), (a, .inr (14, [.int a_thrown, .int a_taped, .int a_place, .int a_resulted, .int a_marks, .ref a_tape, .ref a_result, .ref a_terms, .ref a_names, .ref a_reader, .ref a_paper, .ref a_register, .ref a_became, .ref a_node, .ref a_marked, .ref a_markedRegister, .ref a_up, .ref a_touched, .ref a_todo, .ref a_color, .int a_touches, .ref a_painted, .int a_paints])), (a_terms, .inr (11, [.ref a_terms_kind, .ref a_terms_name, .ref a_terms_first, .ref a_terms_many, .ref a_terms_part, .ref a_terms_number, .int a_terms_size, .int a_terms_parts])), (a_terms_kind, .inl (cs 0, a_terms_kind_n, .inl a_terms_kind_f)), (a_terms_name, .inl (cs 0, a_terms_name_n, .inl a_terms_name_f)), (a_became, .inl (cs 0, a_became_n, .inl a_became_f)), (a_node, .inl (cs 0, a_node_n, .inl a_node_f))] := ⟨hP, hD⟩
        refine lv_istore_n hx hb d_Mo_root_26 rfl hl (by decide) rfl (fun ls hl => ?_)
        have hl : lv_has ls 3 [(2, .int r6), (0, .ref a), (1, .int tm)] := hl
        refine lv_goto hx hb d_Mo_root_27 rfl ?_
        exact ih2 _ _ _ r6 (lv_sub hl [0, 1, 2] rfl) (sub3 hP hD [0, 1, 2, 3, 4, 5, 6] (by decide)) hS hok
  exact J2 n H locs ls r1 hl ⟨hP, hD⟩ hS hok

theorem d_Mo_join_0 : decode b_Mo_join 0 = .ok (.aload_n 0, 1) := by decide +kernel
theorem d_Mo_join_1 : decode b_Mo_join 1 = .ok (.getfield 69, 3) := by decide +kernel
theorem d_Mo_join_4 : decode b_Mo_join 4 = .ok (.iload_n 1, 1) := by decide +kernel
theorem d_Mo_join_5 : decode b_Mo_join 5 = .ok (.iload_n 2, 1) := by decide +kernel
theorem d_Mo_join_6 : decode b_Mo_join 6 = .ok (.iastore, 1) := by decide +kernel
theorem d_Mo_join_7 : decode b_Mo_join 7 = .ok (.aload_n 0, 1) := by decide +kernel
theorem d_Mo_join_8 : decode b_Mo_join 8 = .ok (.getfield 72, 3) := by decide +kernel
theorem d_Mo_join_11 : decode b_Mo_join 11 = .ok (.aload_n 0, 1) := by decide +kernel
theorem d_Mo_join_12 : decode b_Mo_join 12 = .ok (.getfield 142, 3) := by decide +kernel
theorem d_Mo_join_15 : decode b_Mo_join 15 = .ok (.iload_n 1, 1) := by decide +kernel
theorem d_Mo_join_16 : decode b_Mo_join 16 = .ok (.iastore, 1) := by decide +kernel
theorem d_Mo_join_17 : decode b_Mo_join 17 = .ok (.aload_n 0, 1) := by decide +kernel
theorem d_Mo_join_18 : decode b_Mo_join 18 = .ok (.dup, 1) := by decide +kernel
theorem d_Mo_join_19 : decode b_Mo_join 19 = .ok (.getfield 142, 3) := by decide +kernel
theorem d_Mo_join_22 : decode b_Mo_join 22 = .ok (.iconst 1, 1) := by decide +kernel
theorem d_Mo_join_23 : decode b_Mo_join 23 = .ok (.iadd, 1) := by decide +kernel
theorem d_Mo_join_24 : decode b_Mo_join 24 = .ok (.putfield 142, 3) := by decide +kernel
theorem d_Mo_join_27 : decode b_Mo_join 27 = .ok (.return_, 1) := by decide +kernel
def p_Mo_join (x : Int32) (y : Int32) (a_thrown : Int32) (a_taped : Int32) (a_place : Int32) (a_resulted : Int32) (a_marks : Int32) (a_touches : Int32) (a_paints : Int32) (a_up_n : Nat) (a_up_f : Nat → Int32) (a_touched_n : Nat) (a_touched_f : Nat → Int32) : Option (Int32 × (Nat → Int32) × (Nat → Int32)) := ck (ixb x a_up_n) (ck (ixb a_touches a_touched_n) (some (a_touches + 1, upd a_up_f x.toNatClampNeg y, upd a_touched_f a_touches.toNatClampNeg x)))
set_option maxHeartbeats 40000000 in
set_option maxRecDepth 100000 in
theorem c_Mo_join (l : Launch) (g : va_G) (cs : Nat → ClassId) (ka : Nat → Nat) (a_tape : Nat) (a_result : Nat) (a_terms : Nat) (a_names : Nat) (a_reader : Nat) (a_paper : Nat) (a_register : Nat) (a_became : Nat) (a_node : Nat) (a_marked : Nat) (a_markedRegister : Nat) (a_todo : Nat) (a_color : Nat) (a_painted : Nat) (a a_up a_touched : Nat) (sz : Nat) (x : Int32) (y : Int32) (a_thrown : Int32) (a_taped : Int32) (a_place : Int32) (a_resulted : Int32) (a_marks : Int32) (a_touches : Int32) (a_paints : Int32) (a_up_n : Nat) (a_up_f : Nat → Int32) (a_touched_n : Nat) (a_touched_f : Nat → Int32) (o_a_touches : Int32) (o_a_up_f : Nat → Int32) (o_a_touched_f : Nat → Int32) (hok : p_Mo_join x y a_thrown a_taped a_place a_resulted a_marks a_touches a_paints a_up_n a_up_f a_touched_n a_touched_f = some (o_a_touches, o_a_up_f, o_a_touched_f)) : Met l y_Mo_join (.code y_Mo_join b_Mo_join 3 none :: GW) { frames := 0, cells := 0, slots := 0, locals := 0 } (va_Pc [.ref a, .int x, .int y] (gP g cs ka [(a, .inr (14, [.int a_thrown, .int a_taped, .int a_place, .int a_resulted, .int a_marks, .ref a_tape, .ref a_result, .ref a_terms, .ref a_names, .ref a_reader, .ref a_paper, .ref a_register, .ref a_became, .ref a_node, .ref a_marked, .ref a_markedRegister, .ref a_up, .ref a_touched, .ref a_todo, .ref a_color, .int a_touches, .ref a_painted, .int a_paints])), (a_up, .inl (cs 0, a_up_n, .inl a_up_f)), (a_touched, .inl (cs 0, a_touched_n, .inl a_touched_f))] sz)) (va_Qv (fun _ : Unit => True) (fun _ t => va_P g classes [(a, .inr (14, [.int a_thrown, .int a_taped, .int a_place, .int a_resulted, .int a_marks, .ref a_tape, .ref a_result, .ref a_terms, .ref a_names, .ref a_reader, .ref a_paper, .ref a_register, .ref a_became, .ref a_node, .ref a_marked, .ref a_markedRegister, .ref a_up, .ref a_touched, .ref a_todo, .ref a_color, .int o_a_touches, .ref a_painted, .int a_paints])), (a_up, .inl (cs 0, a_up_n, .inl o_a_up_f)), (a_touched, .inl (cs 0, a_touched_n, .inl o_a_touched_f))] t.heap ∧ va_D (va_A [(a, .inr (14, [.int a_thrown, .int a_taped, .int a_place, .int a_resulted, .int a_marks, .ref a_tape, .ref a_result, .ref a_terms, .ref a_names, .ref a_reader, .ref a_paper, .ref a_register, .ref a_became, .ref a_node, .ref a_marked, .ref a_markedRegister, .ref a_up, .ref a_touched, .ref a_todo, .ref a_color, .int a_touches, .ref a_painted, .int a_paints])), (a_up, .inl (cs 0, a_up_n, .inl a_up_f)), (a_touched, .inl (cs 0, a_touched_n, .inl a_touched_f))] sz) [(a, .inr (14, [.int a_thrown, .int a_taped, .int a_place, .int a_resulted, .int a_marks, .ref a_tape, .ref a_result, .ref a_terms, .ref a_names, .ref a_reader, .ref a_paper, .ref a_register, .ref a_became, .ref a_node, .ref a_marked, .ref a_markedRegister, .ref a_up, .ref a_touched, .ref a_todo, .ref a_color, .int o_a_touches, .ref a_painted, .int a_paints])), (a_up, .inl (cs 0, a_up_n, .inl o_a_up_f)), (a_touched, .inl (cs 0, a_touched_n, .inl o_a_touched_f))]) (va_A [(a, .inr (14, [.int a_thrown, .int a_taped, .int a_place, .int a_resulted, .int a_marks, .ref a_tape, .ref a_result, .ref a_terms, .ref a_names, .ref a_reader, .ref a_paper, .ref a_register, .ref a_became, .ref a_node, .ref a_marked, .ref a_markedRegister, .ref a_up, .ref a_touched, .ref a_todo, .ref a_color, .int a_touches, .ref a_painted, .int a_paints])), (a_up, .inl (cs 0, a_up_n, .inl a_up_f)), (a_touched, .inl (cs 0, a_touched_n, .inl a_touched_f))] sz)) 0 0 (va_A [(a, .inr (14, [.int a_thrown, .int a_taped, .int a_place, .int a_resulted, .int a_marks, .ref a_tape, .ref a_result, .ref a_terms, .ref a_names, .ref a_reader, .ref a_paper, .ref a_register, .ref a_became, .ref a_node, .ref a_marked, .ref a_markedRegister, .ref a_up, .ref a_touched, .ref a_todo, .ref a_color, .int a_touches, .ref a_painted, .int a_paints])), (a_up, .inl (cs 0, a_up_n, .inl a_up_f)), (a_touched, .inl (cs 0, a_touched_n, .inl a_touched_f))] sz) := by
  refine Met.ofW (cc := b_Mo_join) (maxL := 3) (ret := none) (by decide) rfl ?_
  intro p e s m args below meth c s₁ B hml hv
  obtain ⟨rfl, hsz, hP, hK, hD0, hgl, hkn, hkr⟩ := hv
  have hx := B.exec
  have hb := B.bytes
  have hr := B.returns
  have hg : ∀ w ∈ GW, w.before ([.ref a, .int x, .int y] : List Value).toArray s = true := fun w hw => atoms_spec (ws := .code y_Mo_join b_Mo_join 3 none :: GW) B.pre w (List.mem_cons_of_mem _ hw)
  have hown : s.vm.findClass R_Mo = some m.cls := findClass_of_methodNamed B.named
  have hlocks := B.notSynchronized
  subst hsz
  have hD := hD0.self (sz := s.heap.size)
  generalize hAe : va_A [(a, .inr (14, [.int a_thrown, .int a_taped, .int a_place, .int a_resulted, .int a_marks, .ref a_tape, .ref a_result, .ref a_terms, .ref a_names, .ref a_reader, .ref a_paper, .ref a_register, .ref a_became, .ref a_node, .ref a_marked, .ref a_markedRegister, .ref a_up, .ref a_touched, .ref a_todo, .ref a_color, .int a_touches, .ref a_painted, .int a_paints])), (a_up, .inl (cs 0, a_up_n, .inl a_up_f)), (a_touched, .inl (cs 0, a_touched_n, .inl a_touched_f))] s.heap.size = A at hD hkn ⊢
  have hA : ∀ q : Nat, s.heap.size ≤ q → A q := fun q h => by rw [← hAe]; exact Or.inr h
  have hS : va_S A s.heap s.heap [] := va_S.rf
  have hP : va_P g classes [(a, .inr (14, [.int a_thrown, .int a_taped, .int a_place, .int a_resulted, .int a_marks, .ref a_tape, .ref a_result, .ref a_terms, .ref a_names, .ref a_reader, .ref a_paper, .ref a_register, .ref a_became, .ref a_node, .ref a_marked, .ref a_markedRegister, .ref a_up, .ref a_touched, .ref a_todo, .ref a_color, .int a_touches, .ref a_painted, .int a_paints])), (a_up, .inl (cs 0, a_up_n, .inl a_up_f)), (a_touched, .inl (cs 0, a_touched_n, .inl a_touched_f))] s.heap := hP
  have hl := lv_entry ([.ref a, .int x, .int y]) (n := 3) (Nat.le_of_ble_eq_true rfl)
  rw [lg_entry_eq]
  generalize (lg_sl ([.ref a, .int x, .int y]) ++ List.replicate (3 - (lg_sl ([.ref a, .int x, .int y])).length) Slot.unset).toArray = ls at hl ⊢
  have hl : lv_has ls 3 [(0, .ref a), (1, .int x), (2, .int y)] := hl
  refine gq (fun Q hQ => ?_)
  obtain ⟨H, hH⟩ : ∃ H : Heap, H = s.heap := ⟨_, rfl⟩
  rw [← hH] at hP
  have hS : va_S A s.heap H [] := by rw [hH]; exact hS
  refine W.eqH hH ?_
  obtain ⟨locs, hlc⟩ : ∃ L : List Loc, L = [] := ⟨_, rfl⟩
  rw [← hlc] at hS ⊢
  unfold p_Mo_join at hok
  refine lv_aload_n hx hb d_Mo_join_0 rfl (lv_at hl 0 rfl) ?_
  refine va_get (D := g) (ci := 14) (v := .ref a_up) (C := R_Mo) (T := F_Mo) (N := 23) hx hb hg ul_Mo hown hK hP 0 rfl rfl 16 (by decide) (hg _ wd_797) (fun _ h9 => h9) rfl d_Mo_join_1 ?_
  refine lv_iload_n hx hb d_Mo_join_4 rfl (lv_at hl 1 rfl) ?_
  refine lv_iload_n hx hb d_Mo_join_5 rfl (lv_at hl 2 rfl) ?_
  obtain ⟨hi1, hok⟩ := ck_some hok
  refine va_iast hx hb hK hP hD hS 1 0 rfl rfl (ixb_in hi1) d_Mo_join_6 (fun H locs hP hD hS => ?_)
  obtain ⟨hP, hD⟩ : PD g A H [(a, .inr (14, [.int a_thrown, .int a_taped, .int a_place, .int a_resulted, .int a_marks, .ref a_tape, .ref a_result, .ref a_terms, .ref a_names, .ref a_reader, .ref a_paper, .ref a_register, .ref a_became, .ref a_node, .ref a_marked, .ref a_markedRegister, .ref a_up, .ref a_touched, .ref a_todo, .ref a_color, .int a_touches, .ref a_painted, .int a_paints])), (a_up, .inl (cs 0, a_up_n, .inl (upd a_up_f x.toNatClampNeg y))), (a_touched, .inl (cs 0, a_touched_n, .inl a_touched_f))] := ⟨hP, hD⟩
  refine lv_aload_n hx hb d_Mo_join_7 rfl (lv_at hl 0 rfl) ?_
  refine va_get (D := g) (ci := 14) (v := .ref a_touched) (C := R_Mo) (T := F_Mo) (N := 23) hx hb hg ul_Mo hown hK hP 0 rfl rfl 17 (by decide) (hg _ wd_798) (fun _ h9 => h9) rfl d_Mo_join_8 ?_
  refine lv_aload_n hx hb d_Mo_join_11 rfl (lv_at hl 0 rfl) ?_
  refine va_get (D := g) (ci := 14) (v := .int a_touches) (C := R_Mo) (T := F_Mo) (N := 23) hx hb hg ul_Mo hown hK hP 0 rfl rfl 20 (by decide) (hg _ wd_799) (fun _ h9 => h9) rfl d_Mo_join_12 ?_
  refine lv_iload_n hx hb d_Mo_join_15 rfl (lv_at hl 1 rfl) ?_
  obtain ⟨hi2, hok⟩ := ck_some hok
  refine va_iast hx hb hK hP hD hS 2 0 rfl rfl (ixb_in hi2) d_Mo_join_16 (fun H locs hP hD hS => ?_)
  obtain ⟨hP, hD⟩ : PD g A H [(a, .inr (14, [.int a_thrown, .int a_taped, .int a_place, .int a_resulted, .int a_marks, .ref a_tape, .ref a_result, .ref a_terms, .ref a_names, .ref a_reader, .ref a_paper, .ref a_register, .ref a_became, .ref a_node, .ref a_marked, .ref a_markedRegister, .ref a_up, .ref a_touched, .ref a_todo, .ref a_color, .int a_touches, .ref a_painted, .int a_paints])), (a_up, .inl (cs 0, a_up_n, .inl (upd a_up_f x.toNatClampNeg y))), (a_touched, .inl (cs 0, a_touched_n, .inl (upd a_touched_f a_touches.toNatClampNeg x)))] := ⟨hP, hD⟩
  refine lv_aload_n hx hb d_Mo_join_17 rfl (lv_at hl 0 rfl) ?_
  refine lv_dup hx hb d_Mo_join_18 rfl ?_
  refine va_get (D := g) (ci := 14) (v := .int a_touches) (C := R_Mo) (T := F_Mo) (N := 23) hx hb hg ul_Mo hown hK hP 0 rfl rfl 20 (by decide) (hg _ wd_799) (fun _ h9 => h9) rfl d_Mo_join_19 ?_
  refine lv_iconst (v := 1) hx hb d_Mo_join_22 (by decide) ?_
  refine lv_iadd hx hb d_Mo_join_23 ?_
  refine va_put (D := g) (ci := 14) (v := .int (a_touches + 1)) (ty := .int) (C := R_Mo) (T := F_Mo) (N := 23) hx hb hg ul_Mo t_Mo tk_Mo n_Mo hown hK hP hD hS 0 rfl rfl 20 (by decide) (hg _ wd_799) (fun _ h9 => h9) rfl (by decide +kernel) rfl rfl (Nat.le_of_ble_eq_true rfl) d_Mo_join_24 (fun H locs hP hD hS => ?_)
  obtain ⟨hP, hD⟩ : PD g A H [(a, .inr (14, [.int a_thrown, .int a_taped, .int a_place, .int a_resulted, .int a_marks, .ref a_tape, .ref a_result, .ref a_terms, .ref a_names, .ref a_reader, .ref a_paper, .ref a_register, .ref a_became, .ref a_node, .ref a_marked, .ref a_markedRegister, .ref a_up, .ref a_touched, .ref a_todo, .ref a_color, .int (a_touches + 1), .ref a_painted, .int a_paints])), (a_up, .inl (cs 0, a_up_n, .inl (upd a_up_f x.toNatClampNeg y))), (a_touched, .inl (cs 0, a_touched_n, .inl (upd a_touched_f a_touches.toNatClampNeg x)))] := ⟨hP, hD⟩
  have hq := Option.some.inj hok
  obtain ⟨hq0, hq⟩ := Prod.mk.inj hq
  obtain ⟨hq1, hq⟩ := Prod.mk.inj hq
  have hq2 := hq
  subst hq0
  subst hq1
  subst hq2
  obtain ⟨hP9, hD9⟩ := sub2 (ws' := [(a, .inr (14, [.int a_thrown, .int a_taped, .int a_place, .int a_resulted, .int a_marks, .ref a_tape, .ref a_result, .ref a_terms, .ref a_names, .ref a_reader, .ref a_paper, .ref a_register, .ref a_became, .ref a_node, .ref a_marked, .ref a_markedRegister, .ref a_up, .ref a_touched, .ref a_todo, .ref a_color, .int (a_touches + 1), .ref a_painted, .int a_paints])), (a_up, .inl (cs 0, a_up_n, .inl (upd a_up_f x.toNatClampNeg y))), (a_touched, .inl (cs 0, a_touched_n, .inl (upd a_touched_f a_touches.toNatClampNeg x)))]) hP hD [0, 1, 2] rfl (by decide) rfl
  rw [hQ]
  exact W.vret hx hb hr (fun t ht hW => ⟨⟨(), rfl, trivial, by rw [ht]; exact hP9, hD9⟩, hS.F ht⟩) hS.2.2 d_Mo_join_27

theorem d_Mo_part__0 : decode b_Mo_part_ 0 = .ok (.iconst 0, 1) := by decide +kernel
theorem d_Mo_part__1 : decode b_Mo_part_ 1 = .ok (.istore_n 1, 1) := by decide +kernel
theorem d_Mo_part__2 : decode b_Mo_part_ 2 = .ok (.iload_n 1, 1) := by decide +kernel
theorem d_Mo_part__3 : decode b_Mo_part_ 3 = .ok (.aload_n 0, 1) := by decide +kernel
theorem d_Mo_part__4 : decode b_Mo_part_ 4 = .ok (.getfield 142, 3) := by decide +kernel
theorem d_Mo_part__7 : decode b_Mo_part_ 7 = .ok (.if_icmp .ge 33, 3) := by decide +kernel
theorem d_Mo_part__10 : decode b_Mo_part_ 10 = .ok (.aload_n 0, 1) := by decide +kernel
theorem d_Mo_part__11 : decode b_Mo_part_ 11 = .ok (.getfield 69, 3) := by decide +kernel
theorem d_Mo_part__14 : decode b_Mo_part_ 14 = .ok (.aload_n 0, 1) := by decide +kernel
theorem d_Mo_part__15 : decode b_Mo_part_ 15 = .ok (.getfield 72, 3) := by decide +kernel
theorem d_Mo_part__18 : decode b_Mo_part_ 18 = .ok (.iload_n 1, 1) := by decide +kernel
theorem d_Mo_part__19 : decode b_Mo_part_ 19 = .ok (.iaload, 1) := by decide +kernel
theorem d_Mo_part__20 : decode b_Mo_part_ 20 = .ok (.iconst (-1), 1) := by decide +kernel
theorem d_Mo_part__21 : decode b_Mo_part_ 21 = .ok (.iastore, 1) := by decide +kernel
theorem d_Mo_part__22 : decode b_Mo_part_ 22 = .ok (.aload_n 0, 1) := by decide +kernel
theorem d_Mo_part__23 : decode b_Mo_part_ 23 = .ok (.getfield 79, 3) := by decide +kernel
theorem d_Mo_part__26 : decode b_Mo_part_ 26 = .ok (.aload_n 0, 1) := by decide +kernel
theorem d_Mo_part__27 : decode b_Mo_part_ 27 = .ok (.getfield 72, 3) := by decide +kernel
theorem d_Mo_part__30 : decode b_Mo_part_ 30 = .ok (.iload_n 1, 1) := by decide +kernel
theorem d_Mo_part__31 : decode b_Mo_part_ 31 = .ok (.iaload, 1) := by decide +kernel
theorem d_Mo_part__32 : decode b_Mo_part_ 32 = .ok (.iconst 0, 1) := by decide +kernel
theorem d_Mo_part__33 : decode b_Mo_part_ 33 = .ok (.bastore, 1) := by decide +kernel
theorem d_Mo_part__34 : decode b_Mo_part_ 34 = .ok (.iinc 1 1, 3) := by decide +kernel
theorem d_Mo_part__37 : decode b_Mo_part_ 37 = .ok (.goto (-35), 3) := by decide +kernel
theorem d_Mo_part__40 : decode b_Mo_part_ 40 = .ok (.aload_n 0, 1) := by decide +kernel
theorem d_Mo_part__41 : decode b_Mo_part_ 41 = .ok (.iconst 0, 1) := by decide +kernel
theorem d_Mo_part__42 : decode b_Mo_part_ 42 = .ok (.putfield 142, 3) := by decide +kernel
theorem d_Mo_part__45 : decode b_Mo_part_ 45 = .ok (.return_, 1) := by decide +kernel
def p_Mo_part__2 (n : Nat) (a_touches : Int32) (a_up_n : Nat) (a_touched_n : Nat) (a_touched_f : Nat → Int32) (a_color_n : Nat) (kf1 : Nat) (x1_1 : Int32) (a_up_1f : Nat → Int32) (a_color_1f : Nat → Int32) : Option (Int32 × (Nat → Int32) × (Nat → Int32)) := match kf1 with
  | 0 => none
  | kf1 + 1 => if a_touches ≤ x1_1 then (some ((0 : Int32), a_up_1f, a_color_1f)) else (ck (ixb x1_1 a_touched_n) (ck (ixb (a_touched_f x1_1.toNatClampNeg) a_up_n) (ck (ixb x1_1 a_touched_n) (ck (ixb (a_touched_f x1_1.toNatClampNeg) a_color_n) (p_Mo_part__2 n a_touches a_up_n a_touched_n a_touched_f a_color_n kf1 (x1_1 + 1) (upd a_up_1f (a_touched_f x1_1.toNatClampNeg).toNatClampNeg (-1)) (upd a_color_1f (a_touched_f x1_1.toNatClampNeg).toNatClampNeg (vp_nar .byte 0)))))))
def p_Mo_part_ (n : Nat) (a_thrown : Int32) (a_taped : Int32) (a_place : Int32) (a_resulted : Int32) (a_marks : Int32) (a_touches : Int32) (a_paints : Int32) (a_up_n : Nat) (a_up_f : Nat → Int32) (a_touched_n : Nat) (a_touched_f : Nat → Int32) (a_color_n : Nat) (a_color_f : Nat → Int32) : Option (Int32 × (Nat → Int32) × (Nat → Int32)) := p_Mo_part__2 n a_touches a_up_n a_touched_n a_touched_f a_color_n n (0 : Int32) a_up_f a_color_f
set_option maxHeartbeats 40000000 in
set_option maxRecDepth 100000 in
theorem c_Mo_part_ (l : Launch) (g : va_G) (cs : Nat → ClassId) (ka : Nat → Nat) (a_tape : Nat) (a_result : Nat) (a_terms : Nat) (a_names : Nat) (a_reader : Nat) (a_paper : Nat) (a_register : Nat) (a_became : Nat) (a_node : Nat) (a_marked : Nat) (a_markedRegister : Nat) (a_todo : Nat) (a_painted : Nat) (a a_up a_touched a_color : Nat) (sz : Nat) (n : Nat) (a_thrown : Int32) (a_taped : Int32) (a_place : Int32) (a_resulted : Int32) (a_marks : Int32) (a_touches : Int32) (a_paints : Int32) (a_up_n : Nat) (a_up_f : Nat → Int32) (a_touched_n : Nat) (a_touched_f : Nat → Int32) (a_color_n : Nat) (a_color_f : Nat → Int32) (o_a_touches : Int32) (o_a_up_f : Nat → Int32) (o_a_color_f : Nat → Int32) (hok : p_Mo_part_ n a_thrown a_taped a_place a_resulted a_marks a_touches a_paints a_up_n a_up_f a_touched_n a_touched_f a_color_n a_color_f = some (o_a_touches, o_a_up_f, o_a_color_f)) : Met l y_Mo_part_ (.code y_Mo_part_ b_Mo_part_ 2 none :: GW) { frames := 0, cells := 0, slots := 0, locals := 0 } (va_Pc [.ref a] (gP g cs ka [(a, .inr (14, [.int a_thrown, .int a_taped, .int a_place, .int a_resulted, .int a_marks, .ref a_tape, .ref a_result, .ref a_terms, .ref a_names, .ref a_reader, .ref a_paper, .ref a_register, .ref a_became, .ref a_node, .ref a_marked, .ref a_markedRegister, .ref a_up, .ref a_touched, .ref a_todo, .ref a_color, .int a_touches, .ref a_painted, .int a_paints])), (a_up, .inl (cs 0, a_up_n, .inl a_up_f)), (a_touched, .inl (cs 0, a_touched_n, .inl a_touched_f)), (a_color, .inl (cs 1, a_color_n, .inl a_color_f))] sz)) (va_Qv (fun _ : Unit => True) (fun _ t => va_P g classes [(a, .inr (14, [.int a_thrown, .int a_taped, .int a_place, .int a_resulted, .int a_marks, .ref a_tape, .ref a_result, .ref a_terms, .ref a_names, .ref a_reader, .ref a_paper, .ref a_register, .ref a_became, .ref a_node, .ref a_marked, .ref a_markedRegister, .ref a_up, .ref a_touched, .ref a_todo, .ref a_color, .int o_a_touches, .ref a_painted, .int a_paints])), (a_up, .inl (cs 0, a_up_n, .inl o_a_up_f)), (a_touched, .inl (cs 0, a_touched_n, .inl a_touched_f)), (a_color, .inl (cs 1, a_color_n, .inl o_a_color_f))] t.heap ∧ va_D (va_A [(a, .inr (14, [.int a_thrown, .int a_taped, .int a_place, .int a_resulted, .int a_marks, .ref a_tape, .ref a_result, .ref a_terms, .ref a_names, .ref a_reader, .ref a_paper, .ref a_register, .ref a_became, .ref a_node, .ref a_marked, .ref a_markedRegister, .ref a_up, .ref a_touched, .ref a_todo, .ref a_color, .int a_touches, .ref a_painted, .int a_paints])), (a_up, .inl (cs 0, a_up_n, .inl a_up_f)), (a_touched, .inl (cs 0, a_touched_n, .inl a_touched_f)), (a_color, .inl (cs 1, a_color_n, .inl a_color_f))] sz) [(a, .inr (14, [.int a_thrown, .int a_taped, .int a_place, .int a_resulted, .int a_marks, .ref a_tape, .ref a_result, .ref a_terms, .ref a_names, .ref a_reader, .ref a_paper, .ref a_register, .ref a_became, .ref a_node, .ref a_marked, .ref a_markedRegister, .ref a_up, .ref a_touched, .ref a_todo, .ref a_color, .int o_a_touches, .ref a_painted, .int a_paints])), (a_up, .inl (cs 0, a_up_n, .inl o_a_up_f)), (a_touched, .inl (cs 0, a_touched_n, .inl a_touched_f)), (a_color, .inl (cs 1, a_color_n, .inl o_a_color_f))]) (va_A [(a, .inr (14, [.int a_thrown, .int a_taped, .int a_place, .int a_resulted, .int a_marks, .ref a_tape, .ref a_result, .ref a_terms, .ref a_names, .ref a_reader, .ref a_paper, .ref a_register, .ref a_became, .ref a_node, .ref a_marked, .ref a_markedRegister, .ref a_up, .ref a_touched, .ref a_todo, .ref a_color, .int a_touches, .ref a_painted, .int a_paints])), (a_up, .inl (cs 0, a_up_n, .inl a_up_f)), (a_touched, .inl (cs 0, a_touched_n, .inl a_touched_f)), (a_color, .inl (cs 1, a_color_n, .inl a_color_f))] sz)) 0 0 (va_A [(a, .inr (14, [.int a_thrown, .int a_taped, .int a_place, .int a_resulted, .int a_marks, .ref a_tape, .ref a_result, .ref a_terms, .ref a_names, .ref a_reader, .ref a_paper, .ref a_register, .ref a_became, .ref a_node, .ref a_marked, .ref a_markedRegister, .ref a_up, .ref a_touched, .ref a_todo, .ref a_color, .int a_touches, .ref a_painted, .int a_paints])), (a_up, .inl (cs 0, a_up_n, .inl a_up_f)), (a_touched, .inl (cs 0, a_touched_n, .inl a_touched_f)), (a_color, .inl (cs 1, a_color_n, .inl a_color_f))] sz) := by
  refine Met.ofW (cc := b_Mo_part_) (maxL := 2) (ret := none) (by decide) rfl ?_
  intro p e s m args below meth c s₁ B hml hv
  obtain ⟨rfl, hsz, hP, hK, hD0, hgl, hkn, hkr⟩ := hv
  have hx := B.exec
  have hb := B.bytes
  have hr := B.returns
  have hg : ∀ w ∈ GW, w.before ([.ref a] : List Value).toArray s = true := fun w hw => atoms_spec (ws := .code y_Mo_part_ b_Mo_part_ 2 none :: GW) B.pre w (List.mem_cons_of_mem _ hw)
  have hown : s.vm.findClass R_Mo = some m.cls := findClass_of_methodNamed B.named
  have hlocks := B.notSynchronized
  subst hsz
  have hD := hD0.self (sz := s.heap.size)
  generalize hAe : va_A [(a, .inr (14, [.int a_thrown, .int a_taped, .int a_place, .int a_resulted, .int a_marks, .ref a_tape, .ref a_result, .ref a_terms, .ref a_names, .ref a_reader, .ref a_paper, .ref a_register, .ref a_became, .ref a_node, .ref a_marked, .ref a_markedRegister, .ref a_up, .ref a_touched, .ref a_todo, .ref a_color, .int a_touches, .ref a_painted, .int a_paints])), (a_up, .inl (cs 0, a_up_n, .inl a_up_f)), (a_touched, .inl (cs 0, a_touched_n, .inl a_touched_f)), (a_color, .inl (cs 1, a_color_n, .inl a_color_f))] s.heap.size = A at hD hkn ⊢
  have hA : ∀ q : Nat, s.heap.size ≤ q → A q := fun q h => by rw [← hAe]; exact Or.inr h
  have hS : va_S A s.heap s.heap [] := va_S.rf
  have hP : va_P g classes [(a, .inr (14, [.int a_thrown, .int a_taped, .int a_place, .int a_resulted, .int a_marks, .ref a_tape, .ref a_result, .ref a_terms, .ref a_names, .ref a_reader, .ref a_paper, .ref a_register, .ref a_became, .ref a_node, .ref a_marked, .ref a_markedRegister, .ref a_up, .ref a_touched, .ref a_todo, .ref a_color, .int a_touches, .ref a_painted, .int a_paints])), (a_up, .inl (cs 0, a_up_n, .inl a_up_f)), (a_touched, .inl (cs 0, a_touched_n, .inl a_touched_f)), (a_color, .inl (cs 1, a_color_n, .inl a_color_f))] s.heap := hP
  have hl := lv_entry ([.ref a]) (n := 2) (Nat.le_of_ble_eq_true rfl)
  rw [lg_entry_eq]
  generalize (lg_sl ([.ref a]) ++ List.replicate (2 - (lg_sl ([.ref a])).length) Slot.unset).toArray = ls at hl ⊢
  have hl : lv_has ls 2 [(0, .ref a)] := hl
  refine gq (fun Q hQ => ?_)
  obtain ⟨H, hH⟩ : ∃ H : Heap, H = s.heap := ⟨_, rfl⟩
  rw [← hH] at hP
  have hS : va_S A s.heap H [] := by rw [hH]; exact hS
  refine W.eqH hH ?_
  obtain ⟨locs, hlc⟩ : ∃ L : List Loc, L = [] := ⟨_, rfl⟩
  rw [← hlc] at hS ⊢
  unfold p_Mo_part_ at hok
  refine lv_iconst (v := 0) hx hb d_Mo_part__0 (by decide) ?_
  refine lv_istore_n hx hb d_Mo_part__1 rfl hl (by decide) rfl (fun ls hl => ?_)
  have hl : lv_has ls 2 [(1, .int 0), (0, .ref a)] := hl
  have J1 : ∀ (kf1 : Nat) (H : Heap) (locs : List Loc) (ls : Array Slot) (x1_1 : Int32) (a_up_1f : Nat → Int32) (a_color_1f : Nat → Int32), lv_has ls 2 [(1, .int x1_1), (0, .ref a)] → PD g A H [(a, .inr (14, [.int a_thrown, .int a_taped, .int a_place, .int a_resulted, .int a_marks, .ref a_tape, .ref a_result, .ref a_terms, .ref a_names, .ref a_reader, .ref a_paper, .ref a_register, .ref a_became, .ref a_node, .ref a_marked, .ref a_markedRegister, .ref a_up, .ref a_touched, .ref a_todo, .ref a_color, .int a_touches, .ref a_painted, .int a_paints])), (a_up, .inl (cs 0, a_up_n, .inl a_up_1f)), (a_touched, .inl (cs 0, a_touched_n, .inl a_touched_f)), (a_color, .inl (cs 1, a_color_n, .inl a_color_1f))] → va_S A s.heap H locs → p_Mo_part__2 n a_touches a_up_n a_touched_n a_touched_f a_color_n kf1 x1_1 a_up_1f a_color_1f = some (o_a_touches, o_a_up_f, o_a_color_f) → W p l e (headSpec (.code y_Mo_part_ b_Mo_part_ 2 none :: GW) { frames := 0, cells := 0, slots := 0, locals := 0 }).room s m ([.ref a] : List Value).toArray below meth c H locs 0 0 Q (F0 m 2 ls []) := by
    intro kf1
    induction kf1 with
    | zero => intro H locs ls x1_1 a_up_1f a_color_1f hl ⟨hP, hD⟩ hS hok; rw [p_Mo_part__2] at hok; cases hok
    | succ kf1 ih1 =>
      intro H locs ls x1_1 a_up_1f a_color_1f hl ⟨hP, hD⟩ hS hok
      rw [p_Mo_part__2] at hok
      refine lv_iload_n hx hb d_Mo_part__2 rfl (lv_at hl 0 rfl) ?_
      refine lv_aload_n hx hb d_Mo_part__3 rfl (lv_at hl 1 rfl) ?_
      refine va_get (D := g) (ci := 14) (v := .int a_touches) (C := R_Mo) (T := F_Mo) (N := 23) hx hb hg ul_Mo hown hK hP 0 rfl rfl 20 (by decide) (hg _ wd_799) (fun _ h9 => h9) rfl d_Mo_part__4 ?_
      refine lv_icmp_ge hx hb d_Mo_part__7 rfl (fun h2 => ?_) (fun h2 => ?_)
      · rw [if_pos h2] at hok
        refine lv_aload_n hx hb d_Mo_part__40 rfl (lv_at hl 1 rfl) ?_
        refine lv_iconst (v := 0) hx hb d_Mo_part__41 (by decide) ?_
        refine va_put (D := g) (ci := 14) (v := .int 0) (ty := .int) (C := R_Mo) (T := F_Mo) (N := 23) hx hb hg ul_Mo t_Mo tk_Mo n_Mo hown hK hP hD hS 0 rfl rfl 20 (by decide) (hg _ wd_799) (fun _ h9 => h9) rfl (by decide +kernel) rfl rfl (Nat.le_of_ble_eq_true rfl) d_Mo_part__42 (fun H locs hP hD hS => ?_)
        obtain ⟨hP, hD⟩ : PD g A H [(a, .inr (14, [.int a_thrown, .int a_taped, .int a_place, .int a_resulted, .int a_marks, .ref a_tape, .ref a_result, .ref a_terms, .ref a_names, .ref a_reader, .ref a_paper, .ref a_register, .ref a_became, .ref a_node, .ref a_marked, .ref a_markedRegister, .ref a_up, .ref a_touched, .ref a_todo, .ref a_color, .int 0, .ref a_painted, .int a_paints])), (a_up, .inl (cs 0, a_up_n, .inl a_up_1f)), (a_touched, .inl (cs 0, a_touched_n, .inl a_touched_f)), (a_color, .inl (cs 1, a_color_n, .inl a_color_1f))] := ⟨hP, hD⟩
        have hq := Option.some.inj hok
        obtain ⟨hq0, hq⟩ := Prod.mk.inj hq
        obtain ⟨hq1, hq⟩ := Prod.mk.inj hq
        have hq2 := hq
        subst hq0
        subst hq1
        subst hq2
        obtain ⟨hP9, hD9⟩ := sub2 (ws' := [(a, .inr (14, [.int a_thrown, .int a_taped, .int a_place, .int a_resulted, .int a_marks, .ref a_tape, .ref a_result, .ref a_terms, .ref a_names, .ref a_reader, .ref a_paper, .ref a_register, .ref a_became, .ref a_node, .ref a_marked, .ref a_markedRegister, .ref a_up, .ref a_touched, .ref a_todo, .ref a_color, .int 0, .ref a_painted, .int a_paints])), (a_up, .inl (cs 0, a_up_n, .inl a_up_1f)), (a_touched, .inl (cs 0, a_touched_n, .inl a_touched_f)), (a_color, .inl (cs 1, a_color_n, .inl a_color_1f))]) hP hD [0, 1, 2, 3] rfl (by decide) rfl
        rw [hQ]
        exact W.vret hx hb hr (fun t ht hW => ⟨⟨(), rfl, trivial, by rw [ht]; exact hP9, hD9⟩, hS.F ht⟩) hS.2.2 d_Mo_part__45
      · rw [if_neg h2] at hok
        refine lv_aload_n hx hb d_Mo_part__10 rfl (lv_at hl 1 rfl) ?_
        refine va_get (D := g) (ci := 14) (v := .ref a_up) (C := R_Mo) (T := F_Mo) (N := 23) hx hb hg ul_Mo hown hK hP 0 rfl rfl 16 (by decide) (hg _ wd_797) (fun _ h9 => h9) rfl d_Mo_part__11 ?_
        refine lv_aload_n hx hb d_Mo_part__14 rfl (lv_at hl 1 rfl) ?_
        refine va_get (D := g) (ci := 14) (v := .ref a_touched) (C := R_Mo) (T := F_Mo) (N := 23) hx hb hg ul_Mo hown hK hP 0 rfl rfl 17 (by decide) (hg _ wd_798) (fun _ h9 => h9) rfl d_Mo_part__15 ?_
        refine lv_iload_n hx hb d_Mo_part__18 rfl (lv_at hl 0 rfl) ?_
        obtain ⟨hi3, hok⟩ := ck_some hok
        refine va_iald hx hb hK hP 2 0 rfl rfl (ixb_in hi3) d_Mo_part__19 ?_
        refine lv_iconst (v := (-1)) hx hb d_Mo_part__20 (by decide) ?_
        obtain ⟨hi4, hok⟩ := ck_some hok
        refine va_iast hx hb hK hP hD hS 1 0 rfl rfl (ixb_in hi4) d_Mo_part__21 (fun H locs hP hD hS => ?_)
        obtain ⟨hP, hD⟩ : PD g A H [(a, .inr (14, [.int a_thrown, .int a_taped, .int a_place, .int a_resulted, .int a_marks, .ref a_tape, .ref a_result, .ref a_terms, .ref a_names, .ref a_reader, .ref a_paper, .ref a_register, .ref a_became, .ref a_node, .ref a_marked, .ref a_markedRegister, .ref a_up, .ref a_touched, .ref a_todo, .ref a_color, .int a_touches, .ref a_painted, .int a_paints])), (a_up, .inl (cs 0, a_up_n, .inl (upd a_up_1f (a_touched_f x1_1.toNatClampNeg).toNatClampNeg (-1)))), (a_touched, .inl (cs 0, a_touched_n, .inl a_touched_f)), (a_color, .inl (cs 1, a_color_n, .inl a_color_1f))] := ⟨hP, hD⟩
        refine lv_aload_n hx hb d_Mo_part__22 rfl (lv_at hl 1 rfl) ?_
        refine va_get (D := g) (ci := 14) (v := .ref a_color) (C := R_Mo) (T := F_Mo) (N := 23) hx hb hg ul_Mo hown hK hP 0 rfl rfl 19 (by decide) (hg _ wd_800) (fun _ h9 => h9) rfl d_Mo_part__23 ?_
        refine lv_aload_n hx hb d_Mo_part__26 rfl (lv_at hl 1 rfl) ?_
        refine va_get (D := g) (ci := 14) (v := .ref a_touched) (C := R_Mo) (T := F_Mo) (N := 23) hx hb hg ul_Mo hown hK hP 0 rfl rfl 17 (by decide) (hg _ wd_798) (fun _ h9 => h9) rfl d_Mo_part__27 ?_
        refine lv_iload_n hx hb d_Mo_part__30 rfl (lv_at hl 0 rfl) ?_
        obtain ⟨hi5, hok⟩ := ck_some hok
        refine va_iald hx hb hK hP 2 0 rfl rfl (ixb_in hi5) d_Mo_part__31 ?_
        refine lv_iconst (v := 0) hx hb d_Mo_part__32 (by decide) ?_
        obtain ⟨hi6, hok⟩ := ck_some hok
        refine va_bast hx hb hK hP hD hS 3 1 rfl rfl (ixb_in hi6) d_Mo_part__33 (fun H locs hP hD hS => ?_)
        obtain ⟨hP, hD⟩ : PD g A H [(a, .inr (14, [.int a_thrown, .int a_taped, .int a_place, .int a_resulted, .int a_marks, .ref a_tape, .ref a_result, .ref a_terms, .ref a_names, .ref a_reader, .ref a_paper, .ref a_register, .ref a_became, .ref a_node, .ref a_marked, .ref a_markedRegister, .ref a_up, .ref a_touched, .ref a_todo, .ref a_color, .int a_touches, .ref a_painted, .int a_paints])), (a_up, .inl (cs 0, a_up_n, .inl (upd a_up_1f (a_touched_f x1_1.toNatClampNeg).toNatClampNeg (-1)))), (a_touched, .inl (cs 0, a_touched_n, .inl a_touched_f)), (a_color, .inl (cs 1, a_color_n, .inl (upd a_color_1f (a_touched_f x1_1.toNatClampNeg).toNatClampNeg (vp_nar .byte 0))))] := ⟨hP, hD⟩
        refine lv_iinc (k := 0) (v := x1_1 + 1) hx hb d_Mo_part__34 hl rfl rfl (by decide) rfl (fun ls hl => ?_)
        have hl : lv_has ls 2 [(1, .int (x1_1 + 1)), (0, .ref a)] := hl
        refine lv_goto hx hb d_Mo_part__37 rfl ?_
        exact ih1 _ _ _ (x1_1 + 1) (upd a_up_1f (a_touched_f x1_1.toNatClampNeg).toNatClampNeg (-1)) (upd a_color_1f (a_touched_f x1_1.toNatClampNeg).toNatClampNeg (vp_nar .byte 0)) (lv_sub hl [0, 1] rfl) (sub3 hP hD [0, 1, 2, 3] (by decide)) hS hok
  exact J1 n H locs ls (0 : Int32) a_up_f a_color_f hl ⟨hP, hD⟩ hS hok

theorem d_Mo_paint_0 : decode b_Mo_paint 0 = .ok (.aload_n 0, 1) := by decide +kernel
theorem d_Mo_paint_1 : decode b_Mo_paint 1 = .ok (.getfield 79, 3) := by decide +kernel
theorem d_Mo_paint_4 : decode b_Mo_paint 4 = .ok (.iload_n 1, 1) := by decide +kernel
theorem d_Mo_paint_5 : decode b_Mo_paint 5 = .ok (.iload_n 2, 1) := by decide +kernel
theorem d_Mo_paint_6 : decode b_Mo_paint 6 = .ok (.i2b, 1) := by decide +kernel
theorem d_Mo_paint_7 : decode b_Mo_paint 7 = .ok (.bastore, 1) := by decide +kernel
theorem d_Mo_paint_8 : decode b_Mo_paint 8 = .ok (.aload_n 0, 1) := by decide +kernel
theorem d_Mo_paint_9 : decode b_Mo_paint 9 = .ok (.getfield 82, 3) := by decide +kernel
theorem d_Mo_paint_12 : decode b_Mo_paint 12 = .ok (.aload_n 0, 1) := by decide +kernel
theorem d_Mo_paint_13 : decode b_Mo_paint 13 = .ok (.getfield 166, 3) := by decide +kernel
theorem d_Mo_paint_16 : decode b_Mo_paint 16 = .ok (.iload_n 1, 1) := by decide +kernel
theorem d_Mo_paint_17 : decode b_Mo_paint 17 = .ok (.iastore, 1) := by decide +kernel
theorem d_Mo_paint_18 : decode b_Mo_paint 18 = .ok (.aload_n 0, 1) := by decide +kernel
theorem d_Mo_paint_19 : decode b_Mo_paint 19 = .ok (.dup, 1) := by decide +kernel
theorem d_Mo_paint_20 : decode b_Mo_paint 20 = .ok (.getfield 166, 3) := by decide +kernel
theorem d_Mo_paint_23 : decode b_Mo_paint 23 = .ok (.iconst 1, 1) := by decide +kernel
theorem d_Mo_paint_24 : decode b_Mo_paint 24 = .ok (.iadd, 1) := by decide +kernel
theorem d_Mo_paint_25 : decode b_Mo_paint 25 = .ok (.putfield 166, 3) := by decide +kernel
theorem d_Mo_paint_28 : decode b_Mo_paint 28 = .ok (.return_, 1) := by decide +kernel
def p_Mo_paint (x : Int32) (cl : Int32) (a_thrown : Int32) (a_taped : Int32) (a_place : Int32) (a_resulted : Int32) (a_marks : Int32) (a_touches : Int32) (a_paints : Int32) (a_color_n : Nat) (a_color_f : Nat → Int32) (a_painted_n : Nat) (a_painted_f : Nat → Int32) : Option (Int32 × (Nat → Int32) × (Nat → Int32)) := ck (ixb x a_color_n) (ck (ixb a_paints a_painted_n) (some (a_paints + 1, upd a_color_f x.toNatClampNeg (vp_nar .byte cl.toInt8.toInt32), upd a_painted_f a_paints.toNatClampNeg x)))
set_option maxHeartbeats 40000000 in
set_option maxRecDepth 100000 in
theorem c_Mo_paint (l : Launch) (g : va_G) (cs : Nat → ClassId) (ka : Nat → Nat) (a_tape : Nat) (a_result : Nat) (a_terms : Nat) (a_names : Nat) (a_reader : Nat) (a_paper : Nat) (a_register : Nat) (a_became : Nat) (a_node : Nat) (a_marked : Nat) (a_markedRegister : Nat) (a_up : Nat) (a_touched : Nat) (a_todo : Nat) (a a_color a_painted : Nat) (sz : Nat) (x : Int32) (cl : Int32) (a_thrown : Int32) (a_taped : Int32) (a_place : Int32) (a_resulted : Int32) (a_marks : Int32) (a_touches : Int32) (a_paints : Int32) (a_color_n : Nat) (a_color_f : Nat → Int32) (a_painted_n : Nat) (a_painted_f : Nat → Int32) (o_a_paints : Int32) (o_a_color_f : Nat → Int32) (o_a_painted_f : Nat → Int32) (hok : p_Mo_paint x cl a_thrown a_taped a_place a_resulted a_marks a_touches a_paints a_color_n a_color_f a_painted_n a_painted_f = some (o_a_paints, o_a_color_f, o_a_painted_f)) : Met l y_Mo_paint (.code y_Mo_paint b_Mo_paint 3 none :: GW) { frames := 0, cells := 0, slots := 0, locals := 0 } (va_Pc [.ref a, .int x, .int cl] (gP g cs ka [(a, .inr (14, [.int a_thrown, .int a_taped, .int a_place, .int a_resulted, .int a_marks, .ref a_tape, .ref a_result, .ref a_terms, .ref a_names, .ref a_reader, .ref a_paper, .ref a_register, .ref a_became, .ref a_node, .ref a_marked, .ref a_markedRegister, .ref a_up, .ref a_touched, .ref a_todo, .ref a_color, .int a_touches, .ref a_painted, .int a_paints])), (a_color, .inl (cs 1, a_color_n, .inl a_color_f)), (a_painted, .inl (cs 0, a_painted_n, .inl a_painted_f))] sz)) (va_Qv (fun _ : Unit => True) (fun _ t => va_P g classes [(a, .inr (14, [.int a_thrown, .int a_taped, .int a_place, .int a_resulted, .int a_marks, .ref a_tape, .ref a_result, .ref a_terms, .ref a_names, .ref a_reader, .ref a_paper, .ref a_register, .ref a_became, .ref a_node, .ref a_marked, .ref a_markedRegister, .ref a_up, .ref a_touched, .ref a_todo, .ref a_color, .int a_touches, .ref a_painted, .int o_a_paints])), (a_color, .inl (cs 1, a_color_n, .inl o_a_color_f)), (a_painted, .inl (cs 0, a_painted_n, .inl o_a_painted_f))] t.heap ∧ va_D (va_A [(a, .inr (14, [.int a_thrown, .int a_taped, .int a_place, .int a_resulted, .int a_marks, .ref a_tape, .ref a_result, .ref a_terms, .ref a_names, .ref a_reader, .ref a_paper, .ref a_register, .ref a_became, .ref a_node, .ref a_marked, .ref a_markedRegister, .ref a_up, .ref a_touched, .ref a_todo, .ref a_color, .int a_touches, .ref a_painted, .int a_paints])), (a_color, .inl (cs 1, a_color_n, .inl a_color_f)), (a_painted, .inl (cs 0, a_painted_n, .inl a_painted_f))] sz) [(a, .inr (14, [.int a_thrown, .int a_taped, .int a_place, .int a_resulted, .int a_marks, .ref a_tape, .ref a_result, .ref a_terms, .ref a_names, .ref a_reader, .ref a_paper, .ref a_register, .ref a_became, .ref a_node, .ref a_marked, .ref a_markedRegister, .ref a_up, .ref a_touched, .ref a_todo, .ref a_color, .int a_touches, .ref a_painted, .int o_a_paints])), (a_color, .inl (cs 1, a_color_n, .inl o_a_color_f)), (a_painted, .inl (cs 0, a_painted_n, .inl o_a_painted_f))]) (va_A [(a, .inr (14, [.int a_thrown, .int a_taped, .int a_place, .int a_resulted, .int a_marks, .ref a_tape, .ref a_result, .ref a_terms, .ref a_names, .ref a_reader, .ref a_paper, .ref a_register, .ref a_became, .ref a_node, .ref a_marked, .ref a_markedRegister, .ref a_up, .ref a_touched, .ref a_todo, .ref a_color, .int a_touches, .ref a_painted, .int a_paints])), (a_color, .inl (cs 1, a_color_n, .inl a_color_f)), (a_painted, .inl (cs 0, a_painted_n, .inl a_painted_f))] sz)) 0 0 (va_A [(a, .inr (14, [.int a_thrown, .int a_taped, .int a_place, .int a_resulted, .int a_marks, .ref a_tape, .ref a_result, .ref a_terms, .ref a_names, .ref a_reader, .ref a_paper, .ref a_register, .ref a_became, .ref a_node, .ref a_marked, .ref a_markedRegister, .ref a_up, .ref a_touched, .ref a_todo, .ref a_color, .int a_touches, .ref a_painted, .int a_paints])), (a_color, .inl (cs 1, a_color_n, .inl a_color_f)), (a_painted, .inl (cs 0, a_painted_n, .inl a_painted_f))] sz) := by
  refine Met.ofW (cc := b_Mo_paint) (maxL := 3) (ret := none) (by decide) rfl ?_
  intro p e s m args below meth c s₁ B hml hv
  obtain ⟨rfl, hsz, hP, hK, hD0, hgl, hkn, hkr⟩ := hv
  have hx := B.exec
  have hb := B.bytes
  have hr := B.returns
  have hg : ∀ w ∈ GW, w.before ([.ref a, .int x, .int cl] : List Value).toArray s = true := fun w hw => atoms_spec (ws := .code y_Mo_paint b_Mo_paint 3 none :: GW) B.pre w (List.mem_cons_of_mem _ hw)
  have hown : s.vm.findClass R_Mo = some m.cls := findClass_of_methodNamed B.named
  have hlocks := B.notSynchronized
  subst hsz
  have hD := hD0.self (sz := s.heap.size)
  generalize hAe : va_A [(a, .inr (14, [.int a_thrown, .int a_taped, .int a_place, .int a_resulted, .int a_marks, .ref a_tape, .ref a_result, .ref a_terms, .ref a_names, .ref a_reader, .ref a_paper, .ref a_register, .ref a_became, .ref a_node, .ref a_marked, .ref a_markedRegister, .ref a_up, .ref a_touched, .ref a_todo, .ref a_color, .int a_touches, .ref a_painted, .int a_paints])), (a_color, .inl (cs 1, a_color_n, .inl a_color_f)), (a_painted, .inl (cs 0, a_painted_n, .inl a_painted_f))] s.heap.size = A at hD hkn ⊢
  have hA : ∀ q : Nat, s.heap.size ≤ q → A q := fun q h => by rw [← hAe]; exact Or.inr h
  have hS : va_S A s.heap s.heap [] := va_S.rf
  have hP : va_P g classes [(a, .inr (14, [.int a_thrown, .int a_taped, .int a_place, .int a_resulted, .int a_marks, .ref a_tape, .ref a_result, .ref a_terms, .ref a_names, .ref a_reader, .ref a_paper, .ref a_register, .ref a_became, .ref a_node, .ref a_marked, .ref a_markedRegister, .ref a_up, .ref a_touched, .ref a_todo, .ref a_color, .int a_touches, .ref a_painted, .int a_paints])), (a_color, .inl (cs 1, a_color_n, .inl a_color_f)), (a_painted, .inl (cs 0, a_painted_n, .inl a_painted_f))] s.heap := hP
  have hl := lv_entry ([.ref a, .int x, .int cl]) (n := 3) (Nat.le_of_ble_eq_true rfl)
  rw [lg_entry_eq]
  generalize (lg_sl ([.ref a, .int x, .int cl]) ++ List.replicate (3 - (lg_sl ([.ref a, .int x, .int cl])).length) Slot.unset).toArray = ls at hl ⊢
  have hl : lv_has ls 3 [(0, .ref a), (1, .int x), (2, .int cl)] := hl
  refine gq (fun Q hQ => ?_)
  obtain ⟨H, hH⟩ : ∃ H : Heap, H = s.heap := ⟨_, rfl⟩
  rw [← hH] at hP
  have hS : va_S A s.heap H [] := by rw [hH]; exact hS
  refine W.eqH hH ?_
  obtain ⟨locs, hlc⟩ : ∃ L : List Loc, L = [] := ⟨_, rfl⟩
  rw [← hlc] at hS ⊢
  unfold p_Mo_paint at hok
  refine lv_aload_n hx hb d_Mo_paint_0 rfl (lv_at hl 0 rfl) ?_
  refine va_get (D := g) (ci := 14) (v := .ref a_color) (C := R_Mo) (T := F_Mo) (N := 23) hx hb hg ul_Mo hown hK hP 0 rfl rfl 19 (by decide) (hg _ wd_800) (fun _ h9 => h9) rfl d_Mo_paint_1 ?_
  refine lv_iload_n hx hb d_Mo_paint_4 rfl (lv_at hl 1 rfl) ?_
  refine lv_iload_n hx hb d_Mo_paint_5 rfl (lv_at hl 2 rfl) ?_
  refine lv_i2b hx hb d_Mo_paint_6 rfl ?_
  obtain ⟨hi1, hok⟩ := ck_some hok
  refine va_bast hx hb hK hP hD hS 1 1 rfl rfl (ixb_in hi1) d_Mo_paint_7 (fun H locs hP hD hS => ?_)
  obtain ⟨hP, hD⟩ : PD g A H [(a, .inr (14, [.int a_thrown, .int a_taped, .int a_place, .int a_resulted, .int a_marks, .ref a_tape, .ref a_result, .ref a_terms, .ref a_names, .ref a_reader, .ref a_paper, .ref a_register, .ref a_became, .ref a_node, .ref a_marked, .ref a_markedRegister, .ref a_up, .ref a_touched, .ref a_todo, .ref a_color, .int a_touches, .ref a_painted, .int a_paints])), (a_color, .inl (cs 1, a_color_n, .inl (upd a_color_f x.toNatClampNeg (vp_nar .byte cl.toInt8.toInt32)))), (a_painted, .inl (cs 0, a_painted_n, .inl a_painted_f))] := ⟨hP, hD⟩
  refine lv_aload_n hx hb d_Mo_paint_8 rfl (lv_at hl 0 rfl) ?_
  refine va_get (D := g) (ci := 14) (v := .ref a_painted) (C := R_Mo) (T := F_Mo) (N := 23) hx hb hg ul_Mo hown hK hP 0 rfl rfl 21 (by decide) (hg _ wd_801) (fun _ h9 => h9) rfl d_Mo_paint_9 ?_
  refine lv_aload_n hx hb d_Mo_paint_12 rfl (lv_at hl 0 rfl) ?_
  refine va_get (D := g) (ci := 14) (v := .int a_paints) (C := R_Mo) (T := F_Mo) (N := 23) hx hb hg ul_Mo hown hK hP 0 rfl rfl 22 (by decide) (hg _ wd_802) (fun _ h9 => h9) rfl d_Mo_paint_13 ?_
  refine lv_iload_n hx hb d_Mo_paint_16 rfl (lv_at hl 1 rfl) ?_
  obtain ⟨hi2, hok⟩ := ck_some hok
  refine va_iast hx hb hK hP hD hS 2 0 rfl rfl (ixb_in hi2) d_Mo_paint_17 (fun H locs hP hD hS => ?_)
  obtain ⟨hP, hD⟩ : PD g A H [(a, .inr (14, [.int a_thrown, .int a_taped, .int a_place, .int a_resulted, .int a_marks, .ref a_tape, .ref a_result, .ref a_terms, .ref a_names, .ref a_reader, .ref a_paper, .ref a_register, .ref a_became, .ref a_node, .ref a_marked, .ref a_markedRegister, .ref a_up, .ref a_touched, .ref a_todo, .ref a_color, .int a_touches, .ref a_painted, .int a_paints])), (a_color, .inl (cs 1, a_color_n, .inl (upd a_color_f x.toNatClampNeg (vp_nar .byte cl.toInt8.toInt32)))), (a_painted, .inl (cs 0, a_painted_n, .inl (upd a_painted_f a_paints.toNatClampNeg x)))] := ⟨hP, hD⟩
  refine lv_aload_n hx hb d_Mo_paint_18 rfl (lv_at hl 0 rfl) ?_
  refine lv_dup hx hb d_Mo_paint_19 rfl ?_
  refine va_get (D := g) (ci := 14) (v := .int a_paints) (C := R_Mo) (T := F_Mo) (N := 23) hx hb hg ul_Mo hown hK hP 0 rfl rfl 22 (by decide) (hg _ wd_802) (fun _ h9 => h9) rfl d_Mo_paint_20 ?_
  refine lv_iconst (v := 1) hx hb d_Mo_paint_23 (by decide) ?_
  refine lv_iadd hx hb d_Mo_paint_24 ?_
  refine va_put (D := g) (ci := 14) (v := .int (a_paints + 1)) (ty := .int) (C := R_Mo) (T := F_Mo) (N := 23) hx hb hg ul_Mo t_Mo tk_Mo n_Mo hown hK hP hD hS 0 rfl rfl 22 (by decide) (hg _ wd_802) (fun _ h9 => h9) rfl (by decide +kernel) rfl rfl (Nat.le_of_ble_eq_true rfl) d_Mo_paint_25 (fun H locs hP hD hS => ?_)
  obtain ⟨hP, hD⟩ : PD g A H [(a, .inr (14, [.int a_thrown, .int a_taped, .int a_place, .int a_resulted, .int a_marks, .ref a_tape, .ref a_result, .ref a_terms, .ref a_names, .ref a_reader, .ref a_paper, .ref a_register, .ref a_became, .ref a_node, .ref a_marked, .ref a_markedRegister, .ref a_up, .ref a_touched, .ref a_todo, .ref a_color, .int a_touches, .ref a_painted, .int (a_paints + 1)])), (a_color, .inl (cs 1, a_color_n, .inl (upd a_color_f x.toNatClampNeg (vp_nar .byte cl.toInt8.toInt32)))), (a_painted, .inl (cs 0, a_painted_n, .inl (upd a_painted_f a_paints.toNatClampNeg x)))] := ⟨hP, hD⟩
  have hq := Option.some.inj hok
  obtain ⟨hq0, hq⟩ := Prod.mk.inj hq
  obtain ⟨hq1, hq⟩ := Prod.mk.inj hq
  have hq2 := hq
  subst hq0
  subst hq1
  subst hq2
  obtain ⟨hP9, hD9⟩ := sub2 (ws' := [(a, .inr (14, [.int a_thrown, .int a_taped, .int a_place, .int a_resulted, .int a_marks, .ref a_tape, .ref a_result, .ref a_terms, .ref a_names, .ref a_reader, .ref a_paper, .ref a_register, .ref a_became, .ref a_node, .ref a_marked, .ref a_markedRegister, .ref a_up, .ref a_touched, .ref a_todo, .ref a_color, .int a_touches, .ref a_painted, .int (a_paints + 1)])), (a_color, .inl (cs 1, a_color_n, .inl (upd a_color_f x.toNatClampNeg (vp_nar .byte cl.toInt8.toInt32)))), (a_painted, .inl (cs 0, a_painted_n, .inl (upd a_painted_f a_paints.toNatClampNeg x)))]) hP hD [0, 1, 2] rfl (by decide) rfl
  rw [hQ]
  exact W.vret hx hb hr (fun t ht hW => ⟨⟨(), rfl, trivial, by rw [ht]; exact hP9, hD9⟩, hS.F ht⟩) hS.2.2 d_Mo_paint_28

theorem d_Mo_classes_0 : decode b_Mo_classes 0 = .ok (.iconst 0, 1) := by decide +kernel
theorem d_Mo_classes_1 : decode b_Mo_classes 1 = .ok (.istore 4, 2) := by decide +kernel
theorem d_Mo_classes_3 : decode b_Mo_classes 3 = .ok (.aload_n 0, 1) := by decide +kernel
theorem d_Mo_classes_4 : decode b_Mo_classes 4 = .ok (.getfield 76, 3) := by decide +kernel
theorem d_Mo_classes_7 : decode b_Mo_classes 7 = .ok (.iload 4, 2) := by decide +kernel
theorem d_Mo_classes_9 : decode b_Mo_classes 9 = .ok (.iinc 4 1, 3) := by decide +kernel
theorem d_Mo_classes_12 : decode b_Mo_classes 12 = .ok (.iload_n 1, 1) := by decide +kernel
theorem d_Mo_classes_13 : decode b_Mo_classes 13 = .ok (.iastore, 1) := by decide +kernel
theorem d_Mo_classes_14 : decode b_Mo_classes 14 = .ok (.aload_n 0, 1) := by decide +kernel
theorem d_Mo_classes_15 : decode b_Mo_classes 15 = .ok (.getfield 76, 3) := by decide +kernel
theorem d_Mo_classes_18 : decode b_Mo_classes 18 = .ok (.iload 4, 2) := by decide +kernel
theorem d_Mo_classes_20 : decode b_Mo_classes 20 = .ok (.iinc 4 1, 3) := by decide +kernel
theorem d_Mo_classes_23 : decode b_Mo_classes 23 = .ok (.iload_n 2, 1) := by decide +kernel
theorem d_Mo_classes_24 : decode b_Mo_classes 24 = .ok (.iastore, 1) := by decide +kernel
theorem d_Mo_classes_25 : decode b_Mo_classes 25 = .ok (.iload 4, 2) := by decide +kernel
theorem d_Mo_classes_27 : decode b_Mo_classes 27 = .ok (.ifCond .le 324, 3) := by decide +kernel
theorem d_Mo_classes_30 : decode b_Mo_classes 30 = .ok (.aload_n 0, 1) := by decide +kernel
theorem d_Mo_classes_31 : decode b_Mo_classes 31 = .ok (.aload_n 0, 1) := by decide +kernel
theorem d_Mo_classes_32 : decode b_Mo_classes 32 = .ok (.getfield 76, 3) := by decide +kernel
theorem d_Mo_classes_35 : decode b_Mo_classes 35 = .ok (.iinc 4 (-1), 3) := by decide +kernel
theorem d_Mo_classes_38 : decode b_Mo_classes 38 = .ok (.iload 4, 2) := by decide +kernel
theorem d_Mo_classes_40 : decode b_Mo_classes 40 = .ok (.iaload, 1) := by decide +kernel
theorem d_Mo_classes_41 : decode b_Mo_classes 41 = .ok (.invokevirtual 145, 3) := by decide +kernel
theorem d_Mo_classes_44 : decode b_Mo_classes 44 = .ok (.istore 5, 2) := by decide +kernel
theorem d_Mo_classes_46 : decode b_Mo_classes 46 = .ok (.aload_n 0, 1) := by decide +kernel
theorem d_Mo_classes_47 : decode b_Mo_classes 47 = .ok (.aload_n 0, 1) := by decide +kernel
theorem d_Mo_classes_48 : decode b_Mo_classes 48 = .ok (.getfield 76, 3) := by decide +kernel
theorem d_Mo_classes_51 : decode b_Mo_classes 51 = .ok (.iinc 4 (-1), 3) := by decide +kernel
theorem d_Mo_classes_54 : decode b_Mo_classes 54 = .ok (.iload 4, 2) := by decide +kernel
theorem d_Mo_classes_56 : decode b_Mo_classes 56 = .ok (.iaload, 1) := by decide +kernel
theorem d_Mo_classes_57 : decode b_Mo_classes 57 = .ok (.invokevirtual 145, 3) := by decide +kernel
theorem d_Mo_classes_60 : decode b_Mo_classes 60 = .ok (.istore 6, 2) := by decide +kernel
theorem d_Mo_classes_62 : decode b_Mo_classes 62 = .ok (.iload 6, 2) := by decide +kernel
theorem d_Mo_classes_64 : decode b_Mo_classes 64 = .ok (.iload 5, 2) := by decide +kernel
theorem d_Mo_classes_66 : decode b_Mo_classes 66 = .ok (.if_icmp .ne 6, 3) := by decide +kernel
theorem d_Mo_classes_69 : decode b_Mo_classes 69 = .ok (.goto (-44), 3) := by decide +kernel
theorem d_Mo_classes_72 : decode b_Mo_classes 72 = .ok (.aload_n 0, 1) := by decide +kernel
theorem d_Mo_classes_73 : decode b_Mo_classes 73 = .ok (.getfield 23, 3) := by decide +kernel
theorem d_Mo_classes_76 : decode b_Mo_classes 76 = .ok (.getfield 133, 3) := by decide +kernel
theorem d_Mo_classes_79 : decode b_Mo_classes 79 = .ok (.iload 6, 2) := by decide +kernel
theorem d_Mo_classes_81 : decode b_Mo_classes 81 = .ok (.iaload, 1) := by decide +kernel
theorem d_Mo_classes_82 : decode b_Mo_classes 82 = .ok (.ifCond .ne 7, 3) := by decide +kernel
theorem d_Mo_classes_85 : decode b_Mo_classes 85 = .ok (.iconst 1, 1) := by decide +kernel
theorem d_Mo_classes_86 : decode b_Mo_classes 86 = .ok (.goto 4, 3) := by decide +kernel
theorem d_Mo_classes_89 : decode b_Mo_classes 89 = .ok (.iconst 0, 1) := by decide +kernel
theorem d_Mo_classes_90 : decode b_Mo_classes 90 = .ok (.istore 7, 2) := by decide +kernel
theorem d_Mo_classes_92 : decode b_Mo_classes 92 = .ok (.aload_n 0, 1) := by decide +kernel
theorem d_Mo_classes_93 : decode b_Mo_classes 93 = .ok (.getfield 23, 3) := by decide +kernel
theorem d_Mo_classes_96 : decode b_Mo_classes 96 = .ok (.getfield 133, 3) := by decide +kernel
theorem d_Mo_classes_99 : decode b_Mo_classes 99 = .ok (.iload 5, 2) := by decide +kernel
theorem d_Mo_classes_101 : decode b_Mo_classes 101 = .ok (.iaload, 1) := by decide +kernel
theorem d_Mo_classes_102 : decode b_Mo_classes 102 = .ok (.ifCond .ne 7, 3) := by decide +kernel
theorem d_Mo_classes_105 : decode b_Mo_classes 105 = .ok (.iconst 1, 1) := by decide +kernel
theorem d_Mo_classes_106 : decode b_Mo_classes 106 = .ok (.goto 4, 3) := by decide +kernel
theorem d_Mo_classes_109 : decode b_Mo_classes 109 = .ok (.iconst 0, 1) := by decide +kernel
theorem d_Mo_classes_110 : decode b_Mo_classes 110 = .ok (.istore 8, 2) := by decide +kernel
theorem d_Mo_classes_112 : decode b_Mo_classes 112 = .ok (.iload_n 3, 1) := by decide +kernel
theorem d_Mo_classes_113 : decode b_Mo_classes 113 = .ok (.ifCond .eq 15, 3) := by decide +kernel
theorem d_Mo_classes_116 : decode b_Mo_classes 116 = .ok (.iload 7, 2) := by decide +kernel
theorem d_Mo_classes_118 : decode b_Mo_classes 118 = .ok (.ifCond .ne 8, 3) := by decide +kernel
theorem d_Mo_classes_121 : decode b_Mo_classes 121 = .ok (.iload 8, 2) := by decide +kernel
theorem d_Mo_classes_123 : decode b_Mo_classes 123 = .ok (.ifCond .eq 5, 3) := by decide +kernel
theorem d_Mo_classes_126 : decode b_Mo_classes 126 = .ok (.iconst 0, 1) := by decide +kernel
theorem d_Mo_classes_127 : decode b_Mo_classes 127 = .ok (.ireturn, 1) := by decide +kernel
theorem d_Mo_classes_128 : decode b_Mo_classes 128 = .ok (.iload 7, 2) := by decide +kernel
theorem d_Mo_classes_130 : decode b_Mo_classes 130 = .ok (.ifCond .eq 14, 3) := by decide +kernel
theorem d_Mo_classes_133 : decode b_Mo_classes 133 = .ok (.aload_n 0, 1) := by decide +kernel
theorem d_Mo_classes_134 : decode b_Mo_classes 134 = .ok (.iload 6, 2) := by decide +kernel
theorem d_Mo_classes_136 : decode b_Mo_classes 136 = .ok (.iload 5, 2) := by decide +kernel
theorem d_Mo_classes_138 : decode b_Mo_classes 138 = .ok (.invokevirtual 148, 3) := by decide +kernel
theorem d_Mo_classes_141 : decode b_Mo_classes 141 = .ok (.goto 207, 3) := by decide +kernel
theorem d_Mo_classes_144 : decode b_Mo_classes 144 = .ok (.iload 8, 2) := by decide +kernel
theorem d_Mo_classes_146 : decode b_Mo_classes 146 = .ok (.ifCond .eq 14, 3) := by decide +kernel
theorem d_Mo_classes_149 : decode b_Mo_classes 149 = .ok (.aload_n 0, 1) := by decide +kernel
theorem d_Mo_classes_150 : decode b_Mo_classes 150 = .ok (.iload 5, 2) := by decide +kernel
theorem d_Mo_classes_152 : decode b_Mo_classes 152 = .ok (.iload 6, 2) := by decide +kernel
theorem d_Mo_classes_154 : decode b_Mo_classes 154 = .ok (.invokevirtual 148, 3) := by decide +kernel
theorem d_Mo_classes_157 : decode b_Mo_classes 157 = .ok (.goto 191, 3) := by decide +kernel
theorem d_Mo_classes_160 : decode b_Mo_classes 160 = .ok (.aload_n 0, 1) := by decide +kernel
theorem d_Mo_classes_161 : decode b_Mo_classes 161 = .ok (.getfield 23, 3) := by decide +kernel
theorem d_Mo_classes_164 : decode b_Mo_classes 164 = .ok (.getfield 133, 3) := by decide +kernel
theorem d_Mo_classes_167 : decode b_Mo_classes 167 = .ok (.iload 6, 2) := by decide +kernel
theorem d_Mo_classes_169 : decode b_Mo_classes 169 = .ok (.iaload, 1) := by decide +kernel
theorem d_Mo_classes_170 : decode b_Mo_classes 170 = .ok (.aload_n 0, 1) := by decide +kernel
theorem d_Mo_classes_171 : decode b_Mo_classes 171 = .ok (.getfield 23, 3) := by decide +kernel
theorem d_Mo_classes_174 : decode b_Mo_classes 174 = .ok (.getfield 133, 3) := by decide +kernel
theorem d_Mo_classes_177 : decode b_Mo_classes 177 = .ok (.iload 5, 2) := by decide +kernel
theorem d_Mo_classes_179 : decode b_Mo_classes 179 = .ok (.iaload, 1) := by decide +kernel
theorem d_Mo_classes_180 : decode b_Mo_classes 180 = .ok (.if_icmp .eq 5, 3) := by decide +kernel
theorem d_Mo_classes_183 : decode b_Mo_classes 183 = .ok (.iconst 0, 1) := by decide +kernel
theorem d_Mo_classes_184 : decode b_Mo_classes 184 = .ok (.ireturn, 1) := by decide +kernel
theorem d_Mo_classes_185 : decode b_Mo_classes 185 = .ok (.aload_n 0, 1) := by decide +kernel
theorem d_Mo_classes_186 : decode b_Mo_classes 186 = .ok (.getfield 23, 3) := by decide +kernel
theorem d_Mo_classes_189 : decode b_Mo_classes 189 = .ok (.getfield 133, 3) := by decide +kernel
theorem d_Mo_classes_192 : decode b_Mo_classes 192 = .ok (.iload 6, 2) := by decide +kernel
theorem d_Mo_classes_194 : decode b_Mo_classes 194 = .ok (.iaload, 1) := by decide +kernel
theorem d_Mo_classes_195 : decode b_Mo_classes 195 = .ok (.iconst 1, 1) := by decide +kernel
theorem d_Mo_classes_196 : decode b_Mo_classes 196 = .ok (.if_icmp .ne 29, 3) := by decide +kernel
theorem d_Mo_classes_199 : decode b_Mo_classes 199 = .ok (.aload_n 0, 1) := by decide +kernel
theorem d_Mo_classes_200 : decode b_Mo_classes 200 = .ok (.getfield 23, 3) := by decide +kernel
theorem d_Mo_classes_203 : decode b_Mo_classes 203 = .ok (.getfield 152, 3) := by decide +kernel
theorem d_Mo_classes_206 : decode b_Mo_classes 206 = .ok (.iload 6, 2) := by decide +kernel
theorem d_Mo_classes_208 : decode b_Mo_classes 208 = .ok (.laload, 1) := by decide +kernel
theorem d_Mo_classes_209 : decode b_Mo_classes 209 = .ok (.aload_n 0, 1) := by decide +kernel
theorem d_Mo_classes_210 : decode b_Mo_classes 210 = .ok (.getfield 23, 3) := by decide +kernel
theorem d_Mo_classes_213 : decode b_Mo_classes 213 = .ok (.getfield 152, 3) := by decide +kernel
theorem d_Mo_classes_216 : decode b_Mo_classes 216 = .ok (.iload 5, 2) := by decide +kernel
theorem d_Mo_classes_218 : decode b_Mo_classes 218 = .ok (.laload, 1) := by decide +kernel
theorem d_Mo_classes_219 : decode b_Mo_classes 219 = .ok (.lcmp, 1) := by decide +kernel
theorem d_Mo_classes_220 : decode b_Mo_classes 220 = .ok (.ifCond .eq (-195), 3) := by decide +kernel
theorem d_Mo_classes_223 : decode b_Mo_classes 223 = .ok (.iconst 0, 1) := by decide +kernel
theorem d_Mo_classes_224 : decode b_Mo_classes 224 = .ok (.ireturn, 1) := by decide +kernel
theorem d_Mo_classes_225 : decode b_Mo_classes 225 = .ok (.aload_n 0, 1) := by decide +kernel
theorem d_Mo_classes_226 : decode b_Mo_classes 226 = .ok (.getfield 23, 3) := by decide +kernel
theorem d_Mo_classes_229 : decode b_Mo_classes 229 = .ok (.getfield 136, 3) := by decide +kernel
theorem d_Mo_classes_232 : decode b_Mo_classes 232 = .ok (.iload 6, 2) := by decide +kernel
theorem d_Mo_classes_234 : decode b_Mo_classes 234 = .ok (.iaload, 1) := by decide +kernel
theorem d_Mo_classes_235 : decode b_Mo_classes 235 = .ok (.aload_n 0, 1) := by decide +kernel
theorem d_Mo_classes_236 : decode b_Mo_classes 236 = .ok (.getfield 23, 3) := by decide +kernel
theorem d_Mo_classes_239 : decode b_Mo_classes 239 = .ok (.getfield 136, 3) := by decide +kernel
theorem d_Mo_classes_242 : decode b_Mo_classes 242 = .ok (.iload 5, 2) := by decide +kernel
theorem d_Mo_classes_244 : decode b_Mo_classes 244 = .ok (.iaload, 1) := by decide +kernel
theorem d_Mo_classes_245 : decode b_Mo_classes 245 = .ok (.if_icmp .ne 26, 3) := by decide +kernel
theorem d_Mo_classes_248 : decode b_Mo_classes 248 = .ok (.aload_n 0, 1) := by decide +kernel
theorem d_Mo_classes_249 : decode b_Mo_classes 249 = .ok (.getfield 23, 3) := by decide +kernel
theorem d_Mo_classes_252 : decode b_Mo_classes 252 = .ok (.getfield 156, 3) := by decide +kernel
theorem d_Mo_classes_255 : decode b_Mo_classes 255 = .ok (.iload 6, 2) := by decide +kernel
theorem d_Mo_classes_257 : decode b_Mo_classes 257 = .ok (.iaload, 1) := by decide +kernel
theorem d_Mo_classes_258 : decode b_Mo_classes 258 = .ok (.aload_n 0, 1) := by decide +kernel
theorem d_Mo_classes_259 : decode b_Mo_classes 259 = .ok (.getfield 23, 3) := by decide +kernel
theorem d_Mo_classes_262 : decode b_Mo_classes 262 = .ok (.getfield 156, 3) := by decide +kernel
theorem d_Mo_classes_265 : decode b_Mo_classes 265 = .ok (.iload 5, 2) := by decide +kernel
theorem d_Mo_classes_267 : decode b_Mo_classes 267 = .ok (.iaload, 1) := by decide +kernel
theorem d_Mo_classes_268 : decode b_Mo_classes 268 = .ok (.if_icmp .eq 5, 3) := by decide +kernel
theorem d_Mo_classes_271 : decode b_Mo_classes 271 = .ok (.iconst 0, 1) := by decide +kernel
theorem d_Mo_classes_272 : decode b_Mo_classes 272 = .ok (.ireturn, 1) := by decide +kernel
theorem d_Mo_classes_273 : decode b_Mo_classes 273 = .ok (.aload_n 0, 1) := by decide +kernel
theorem d_Mo_classes_274 : decode b_Mo_classes 274 = .ok (.iload 6, 2) := by decide +kernel
theorem d_Mo_classes_276 : decode b_Mo_classes 276 = .ok (.iload 5, 2) := by decide +kernel
theorem d_Mo_classes_278 : decode b_Mo_classes 278 = .ok (.invokevirtual 148, 3) := by decide +kernel
theorem d_Mo_classes_281 : decode b_Mo_classes 281 = .ok (.aload_n 0, 1) := by decide +kernel
theorem d_Mo_classes_282 : decode b_Mo_classes 282 = .ok (.getfield 23, 3) := by decide +kernel
theorem d_Mo_classes_285 : decode b_Mo_classes 285 = .ok (.getfield 156, 3) := by decide +kernel
theorem d_Mo_classes_288 : decode b_Mo_classes 288 = .ok (.iload 6, 2) := by decide +kernel
theorem d_Mo_classes_290 : decode b_Mo_classes 290 = .ok (.iaload, 1) := by decide +kernel
theorem d_Mo_classes_291 : decode b_Mo_classes 291 = .ok (.iconst 1, 1) := by decide +kernel
theorem d_Mo_classes_292 : decode b_Mo_classes 292 = .ok (.isub, 1) := by decide +kernel
theorem d_Mo_classes_293 : decode b_Mo_classes 293 = .ok (.istore 9, 2) := by decide +kernel
theorem d_Mo_classes_295 : decode b_Mo_classes 295 = .ok (.iload 9, 2) := by decide +kernel
theorem d_Mo_classes_297 : decode b_Mo_classes 297 = .ok (.ifCond .lt 51, 3) := by decide +kernel
theorem d_Mo_classes_300 : decode b_Mo_classes 300 = .ok (.aload_n 0, 1) := by decide +kernel
theorem d_Mo_classes_301 : decode b_Mo_classes 301 = .ok (.getfield 76, 3) := by decide +kernel
theorem d_Mo_classes_304 : decode b_Mo_classes 304 = .ok (.iload 4, 2) := by decide +kernel
theorem d_Mo_classes_306 : decode b_Mo_classes 306 = .ok (.iinc 4 1, 3) := by decide +kernel
theorem d_Mo_classes_309 : decode b_Mo_classes 309 = .ok (.aload_n 0, 1) := by decide +kernel
theorem d_Mo_classes_310 : decode b_Mo_classes 310 = .ok (.getfield 23, 3) := by decide +kernel
theorem d_Mo_classes_313 : decode b_Mo_classes 313 = .ok (.iload 6, 2) := by decide +kernel
theorem d_Mo_classes_315 : decode b_Mo_classes 315 = .ok (.iload 9, 2) := by decide +kernel
theorem d_Mo_classes_317 : decode b_Mo_classes 317 = .ok (.invokevirtual 159, 3) := by decide +kernel
theorem d_Mo_classes_320 : decode b_Mo_classes 320 = .ok (.iastore, 1) := by decide +kernel
theorem d_Mo_classes_321 : decode b_Mo_classes 321 = .ok (.aload_n 0, 1) := by decide +kernel
theorem d_Mo_classes_322 : decode b_Mo_classes 322 = .ok (.getfield 76, 3) := by decide +kernel
theorem d_Mo_classes_325 : decode b_Mo_classes 325 = .ok (.iload 4, 2) := by decide +kernel
theorem d_Mo_classes_327 : decode b_Mo_classes 327 = .ok (.iinc 4 1, 3) := by decide +kernel
theorem d_Mo_classes_330 : decode b_Mo_classes 330 = .ok (.aload_n 0, 1) := by decide +kernel
theorem d_Mo_classes_331 : decode b_Mo_classes 331 = .ok (.getfield 23, 3) := by decide +kernel
theorem d_Mo_classes_334 : decode b_Mo_classes 334 = .ok (.iload 5, 2) := by decide +kernel
theorem d_Mo_classes_336 : decode b_Mo_classes 336 = .ok (.iload 9, 2) := by decide +kernel
theorem d_Mo_classes_338 : decode b_Mo_classes 338 = .ok (.invokevirtual 159, 3) := by decide +kernel
theorem d_Mo_classes_341 : decode b_Mo_classes 341 = .ok (.iastore, 1) := by decide +kernel
theorem d_Mo_classes_342 : decode b_Mo_classes 342 = .ok (.iinc 9 (-1), 3) := by decide +kernel
theorem d_Mo_classes_345 : decode b_Mo_classes 345 = .ok (.goto (-50), 3) := by decide +kernel
theorem d_Mo_classes_348 : decode b_Mo_classes 348 = .ok (.goto (-323), 3) := by decide +kernel
theorem d_Mo_classes_351 : decode b_Mo_classes 351 = .ok (.iconst 1, 1) := by decide +kernel
theorem d_Mo_classes_352 : decode b_Mo_classes 352 = .ok (.ireturn, 1) := by decide +kernel
def p_Mo_classes_295 (n : Nat) (a_terms_size : Int32) (a_terms_parts : Int32) (a_terms_first_n : Nat) (a_terms_first_f : Nat → Int32) (a_terms_part_n : Nat) (a_terms_part_f : Nat → Int32) (a_todo_n : Nat) (r6 : Int32) (r8 : Int32) (a_touches_28 : Int32) (a_up_f_28 : Nat → Int32) (a_touched_f_28 : Nat → Int32) (K_3 : Int32 → Int32 → (Nat → Int32) → (Nat → Int32) → (Nat → Int32) → Option (Int32 × Int32 × (Nat → Int32) × (Nat → Int32) × (Nat → Int32))) (kf30 : Nat) (x9_30 : Int32) (x4_30 : Int32) (a_todo_30f : Nat → Int32) : Option (Int32 × Int32 × (Nat → Int32) × (Nat → Int32) × (Nat → Int32)) := match kf30 with
  | 0 => none
  | kf30 + 1 => if x9_30 < 0 then (K_3 x4_30 a_touches_28 a_up_f_28 a_touched_f_28 a_todo_30f) else ((p_MoTerms_part r8 x9_30 a_terms_size a_terms_parts a_terms_first_n a_terms_first_f a_terms_part_n a_terms_part_f).bind (fun r32 => ck (ixb x4_30 a_todo_n) ((p_MoTerms_part r6 x9_30 a_terms_size a_terms_parts a_terms_first_n a_terms_first_f a_terms_part_n a_terms_part_f).bind (fun r34 => ck (ixb (x4_30 + 1) a_todo_n) (p_Mo_classes_295 n a_terms_size a_terms_parts a_terms_first_n a_terms_first_f a_terms_part_n a_terms_part_f a_todo_n r6 r8 a_touches_28 a_up_f_28 a_touched_f_28 K_3 kf30 (x9_30 + (-1)) ((x4_30 + 1) + 1) (upd (upd a_todo_30f x4_30.toNatClampNeg r32) (x4_30 + 1).toNatClampNeg r34))))))
def p_Mo_classes_128 (n : Nat) (a_thrown : Int32) (a_taped : Int32) (a_place : Int32) (a_resulted : Int32) (a_marks : Int32) (a_paints : Int32) (a_terms_size : Int32) (a_terms_parts : Int32) (a_terms_kind_n : Nat) (a_terms_kind_f : Nat → Int32) (a_terms_name_n : Nat) (a_terms_name_f : Nat → Int32) (a_terms_first_n : Nat) (a_terms_first_f : Nat → Int32) (a_terms_many_n : Nat) (a_terms_many_f : Nat → Int32) (a_terms_part_n : Nat) (a_terms_part_f : Nat → Int32) (a_terms_number_n : Nat) (a_terms_number_f : Nat → Int64) (a_up_n : Nat) (a_touched_n : Nat) (a_todo_n : Nat) (x4_3 : Int32) (a_touches_3 : Int32) (a_up_3f : Nat → Int32) (a_touched_3f : Nat → Int32) (a_todo_3f : Nat → Int32) (r6 : Int32) (r8 : Int32) (y0_11 : Int32) (y0_13 : Int32) (K_3 : Int32 → Int32 → (Nat → Int32) → (Nat → Int32) → (Nat → Int32) → Option (Int32 × Int32 × (Nat → Int32) × (Nat → Int32) × (Nat → Int32))) : Option (Int32 × Int32 × (Nat → Int32) × (Nat → Int32) × (Nat → Int32)) := if y0_11 = 0 then (if y0_13 = 0 then (ck (ixb r8 a_terms_kind_n) (ck (ixb r6 a_terms_kind_n) (if (a_terms_kind_f r8.toNatClampNeg) = (a_terms_kind_f r6.toNatClampNeg) then (ck (ixb r8 a_terms_kind_n) (if (a_terms_kind_f r8.toNatClampNeg) = 1 then (ck (ixb r8 a_terms_number_n) (ck (ixb r6 a_terms_number_n) (if (lg_cmp (a_terms_number_f r8.toNatClampNeg) (a_terms_number_f r6.toNatClampNeg)) = 0 then (K_3 ((x4_3 + (-1)) + (-1)) a_touches_3 a_up_3f a_touched_3f a_todo_3f) else (some ((0 : Int32), a_touches_3, a_up_3f, a_touched_3f, a_todo_3f))))) else (ck (ixb r8 a_terms_name_n) (ck (ixb r6 a_terms_name_n) (if (a_terms_name_f r8.toNatClampNeg) = (a_terms_name_f r6.toNatClampNeg) then (ck (ixb r8 a_terms_many_n) (ck (ixb r6 a_terms_many_n) (if (a_terms_many_f r8.toNatClampNeg) = (a_terms_many_f r6.toNatClampNeg) then ((p_Mo_join r8 r6 a_thrown a_taped a_place a_resulted a_marks a_touches_3 a_paints a_up_n a_up_3f a_touched_n a_touched_3f).bind (fun (a_touches_28, a_up_f_28, a_touched_f_28) => ck (ixb r8 a_terms_many_n) (p_Mo_classes_295 n a_terms_size a_terms_parts a_terms_first_n a_terms_first_f a_terms_part_n a_terms_part_f a_todo_n r6 r8 a_touches_28 a_up_f_28 a_touched_f_28 (fun w0 w1 w2 w3 w4 => K_3 w0 w1 w2 w3 w4) n ((a_terms_many_f r8.toNatClampNeg) - 1) ((x4_3 + (-1)) + (-1)) a_todo_3f))) else (some ((0 : Int32), a_touches_3, a_up_3f, a_touched_3f, a_todo_3f))))) else (some ((0 : Int32), a_touches_3, a_up_3f, a_touched_3f, a_todo_3f))))))) else (some ((0 : Int32), a_touches_3, a_up_3f, a_touched_3f, a_todo_3f))))) else ((p_Mo_join r6 r8 a_thrown a_taped a_place a_resulted a_marks a_touches_3 a_paints a_up_n a_up_3f a_touched_n a_touched_3f).bind (fun (a_touches_39, a_up_f_39, a_touched_f_39) => K_3 ((x4_3 + (-1)) + (-1)) a_touches_39 a_up_f_39 a_touched_f_39 a_todo_3f))) else ((p_Mo_join r8 r6 a_thrown a_taped a_place a_resulted a_marks a_touches_3 a_paints a_up_n a_up_3f a_touched_n a_touched_3f).bind (fun (a_touches_40, a_up_f_40, a_touched_f_40) => K_3 ((x4_3 + (-1)) + (-1)) a_touches_40 a_up_f_40 a_touched_f_40 a_todo_3f))
def p_Mo_classes_110 (n : Nat) (bind_ : Int32) (a_thrown : Int32) (a_taped : Int32) (a_place : Int32) (a_resulted : Int32) (a_marks : Int32) (a_paints : Int32) (a_terms_size : Int32) (a_terms_parts : Int32) (a_terms_kind_n : Nat) (a_terms_kind_f : Nat → Int32) (a_terms_name_n : Nat) (a_terms_name_f : Nat → Int32) (a_terms_first_n : Nat) (a_terms_first_f : Nat → Int32) (a_terms_many_n : Nat) (a_terms_many_f : Nat → Int32) (a_terms_part_n : Nat) (a_terms_part_f : Nat → Int32) (a_terms_number_n : Nat) (a_terms_number_f : Nat → Int64) (a_up_n : Nat) (a_touched_n : Nat) (a_todo_n : Nat) (x4_3 : Int32) (a_touches_3 : Int32) (a_up_3f : Nat → Int32) (a_touched_3f : Nat → Int32) (a_todo_3f : Nat → Int32) (r6 : Int32) (r8 : Int32) (y0_11 : Int32) (K_3 : Int32 → Int32 → (Nat → Int32) → (Nat → Int32) → (Nat → Int32) → Option (Int32 × Int32 × (Nat → Int32) × (Nat → Int32) × (Nat → Int32))) (y0_13 : Int32) : Option (Int32 × Int32 × (Nat → Int32) × (Nat → Int32) × (Nat → Int32)) := if bind_ = 0 then (p_Mo_classes_128 n a_thrown a_taped a_place a_resulted a_marks a_paints a_terms_size a_terms_parts a_terms_kind_n a_terms_kind_f a_terms_name_n a_terms_name_f a_terms_first_n a_terms_first_f a_terms_many_n a_terms_many_f a_terms_part_n a_terms_part_f a_terms_number_n a_terms_number_f a_up_n a_touched_n a_todo_n x4_3 a_touches_3 a_up_3f a_touched_3f a_todo_3f r6 r8 y0_11 y0_13 (fun w0 w1 w2 w3 w4 => K_3 w0 w1 w2 w3 w4)) else (if y0_11 = 0 then (if y0_13 = 0 then (p_Mo_classes_128 n a_thrown a_taped a_place a_resulted a_marks a_paints a_terms_size a_terms_parts a_terms_kind_n a_terms_kind_f a_terms_name_n a_terms_name_f a_terms_first_n a_terms_first_f a_terms_many_n a_terms_many_f a_terms_part_n a_terms_part_f a_terms_number_n a_terms_number_f a_up_n a_touched_n a_todo_n x4_3 a_touches_3 a_up_3f a_touched_3f a_todo_3f r6 r8 y0_11 y0_13 (fun w0 w1 w2 w3 w4 => K_3 w0 w1 w2 w3 w4)) else (some ((0 : Int32), a_touches_3, a_up_3f, a_touched_3f, a_todo_3f))) else (some ((0 : Int32), a_touches_3, a_up_3f, a_touched_3f, a_todo_3f)))
def p_Mo_classes_90 (n : Nat) (bind_ : Int32) (a_thrown : Int32) (a_taped : Int32) (a_place : Int32) (a_resulted : Int32) (a_marks : Int32) (a_paints : Int32) (a_terms_size : Int32) (a_terms_parts : Int32) (a_terms_kind_n : Nat) (a_terms_kind_f : Nat → Int32) (a_terms_name_n : Nat) (a_terms_name_f : Nat → Int32) (a_terms_first_n : Nat) (a_terms_first_f : Nat → Int32) (a_terms_many_n : Nat) (a_terms_many_f : Nat → Int32) (a_terms_part_n : Nat) (a_terms_part_f : Nat → Int32) (a_terms_number_n : Nat) (a_terms_number_f : Nat → Int64) (a_up_n : Nat) (a_touched_n : Nat) (a_todo_n : Nat) (x4_3 : Int32) (a_touches_3 : Int32) (a_up_3f : Nat → Int32) (a_touched_3f : Nat → Int32) (a_todo_3f : Nat → Int32) (r6 : Int32) (r8 : Int32) (K_3 : Int32 → Int32 → (Nat → Int32) → (Nat → Int32) → (Nat → Int32) → Option (Int32 × Int32 × (Nat → Int32) × (Nat → Int32) × (Nat → Int32))) (y0_11 : Int32) : Option (Int32 × Int32 × (Nat → Int32) × (Nat → Int32) × (Nat → Int32)) := ck (ixb r6 a_terms_kind_n) (if (a_terms_kind_f r6.toNatClampNeg) = 0 then (p_Mo_classes_110 n bind_ a_thrown a_taped a_place a_resulted a_marks a_paints a_terms_size a_terms_parts a_terms_kind_n a_terms_kind_f a_terms_name_n a_terms_name_f a_terms_first_n a_terms_first_f a_terms_many_n a_terms_many_f a_terms_part_n a_terms_part_f a_terms_number_n a_terms_number_f a_up_n a_touched_n a_todo_n x4_3 a_touches_3 a_up_3f a_touched_3f a_todo_3f r6 r8 y0_11 (fun w0 w1 w2 w3 w4 => K_3 w0 w1 w2 w3 w4) (1 : Int32)) else (p_Mo_classes_110 n bind_ a_thrown a_taped a_place a_resulted a_marks a_paints a_terms_size a_terms_parts a_terms_kind_n a_terms_kind_f a_terms_name_n a_terms_name_f a_terms_first_n a_terms_first_f a_terms_many_n a_terms_many_f a_terms_part_n a_terms_part_f a_terms_number_n a_terms_number_f a_up_n a_touched_n a_todo_n x4_3 a_touches_3 a_up_3f a_touched_3f a_todo_3f r6 r8 y0_11 (fun w0 w1 w2 w3 w4 => K_3 w0 w1 w2 w3 w4) (0 : Int32)))
def p_Mo_classes_25 (n : Nat) (bind_ : Int32) (a_thrown : Int32) (a_taped : Int32) (a_place : Int32) (a_resulted : Int32) (a_marks : Int32) (a_paints : Int32) (a_terms_size : Int32) (a_terms_parts : Int32) (a_terms_kind_n : Nat) (a_terms_kind_f : Nat → Int32) (a_terms_name_n : Nat) (a_terms_name_f : Nat → Int32) (a_terms_first_n : Nat) (a_terms_first_f : Nat → Int32) (a_terms_many_n : Nat) (a_terms_many_f : Nat → Int32) (a_terms_part_n : Nat) (a_terms_part_f : Nat → Int32) (a_terms_number_n : Nat) (a_terms_number_f : Nat → Int64) (a_became_n : Nat) (a_became_f : Nat → Int32) (a_node_n : Nat) (a_node_f : Nat → Int32) (a_up_n : Nat) (a_touched_n : Nat) (a_todo_n : Nat) (kf3 : Nat) (x4_3 : Int32) (a_touches_3 : Int32) (a_up_3f : Nat → Int32) (a_touched_3f : Nat → Int32) (a_todo_3f : Nat → Int32) : Option (Int32 × Int32 × (Nat → Int32) × (Nat → Int32) × (Nat → Int32)) := match kf3 with
  | 0 => none
  | kf3 + 1 => if x4_3 ≤ 0 then (some ((1 : Int32), a_touches_3, a_up_3f, a_touched_3f, a_todo_3f)) else (ck (ixb (x4_3 + (-1)) a_todo_n) ((p_Mo_root n (a_todo_3f (x4_3 + (-1)).toNatClampNeg) a_thrown a_taped a_place a_resulted a_marks a_touches_3 a_paints a_terms_size a_terms_parts a_terms_kind_n a_terms_kind_f a_terms_name_n a_terms_name_f a_became_n a_became_f a_node_n a_node_f a_up_n a_up_3f).bind (fun r6 => ck (ixb ((x4_3 + (-1)) + (-1)) a_todo_n) ((p_Mo_root n (a_todo_3f ((x4_3 + (-1)) + (-1)).toNatClampNeg) a_thrown a_taped a_place a_resulted a_marks a_touches_3 a_paints a_terms_size a_terms_parts a_terms_kind_n a_terms_kind_f a_terms_name_n a_terms_name_f a_became_n a_became_f a_node_n a_node_f a_up_n a_up_3f).bind (fun r8 => if r8 = r6 then (p_Mo_classes_25 n bind_ a_thrown a_taped a_place a_resulted a_marks a_paints a_terms_size a_terms_parts a_terms_kind_n a_terms_kind_f a_terms_name_n a_terms_name_f a_terms_first_n a_terms_first_f a_terms_many_n a_terms_many_f a_terms_part_n a_terms_part_f a_terms_number_n a_terms_number_f a_became_n a_became_f a_node_n a_node_f a_up_n a_touched_n a_todo_n kf3 ((x4_3 + (-1)) + (-1)) a_touches_3 a_up_3f a_touched_3f a_todo_3f) else (ck (ixb r8 a_terms_kind_n) (if (a_terms_kind_f r8.toNatClampNeg) = 0 then (p_Mo_classes_90 n bind_ a_thrown a_taped a_place a_resulted a_marks a_paints a_terms_size a_terms_parts a_terms_kind_n a_terms_kind_f a_terms_name_n a_terms_name_f a_terms_first_n a_terms_first_f a_terms_many_n a_terms_many_f a_terms_part_n a_terms_part_f a_terms_number_n a_terms_number_f a_up_n a_touched_n a_todo_n x4_3 a_touches_3 a_up_3f a_touched_3f a_todo_3f r6 r8 (fun w0 w1 w2 w3 w4 => p_Mo_classes_25 n bind_ a_thrown a_taped a_place a_resulted a_marks a_paints a_terms_size a_terms_parts a_terms_kind_n a_terms_kind_f a_terms_name_n a_terms_name_f a_terms_first_n a_terms_first_f a_terms_many_n a_terms_many_f a_terms_part_n a_terms_part_f a_terms_number_n a_terms_number_f a_became_n a_became_f a_node_n a_node_f a_up_n a_touched_n a_todo_n kf3 w0 w1 w2 w3 w4) (1 : Int32)) else (p_Mo_classes_90 n bind_ a_thrown a_taped a_place a_resulted a_marks a_paints a_terms_size a_terms_parts a_terms_kind_n a_terms_kind_f a_terms_name_n a_terms_name_f a_terms_first_n a_terms_first_f a_terms_many_n a_terms_many_f a_terms_part_n a_terms_part_f a_terms_number_n a_terms_number_f a_up_n a_touched_n a_todo_n x4_3 a_touches_3 a_up_3f a_touched_3f a_todo_3f r6 r8 (fun w0 w1 w2 w3 w4 => p_Mo_classes_25 n bind_ a_thrown a_taped a_place a_resulted a_marks a_paints a_terms_size a_terms_parts a_terms_kind_n a_terms_kind_f a_terms_name_n a_terms_name_f a_terms_first_n a_terms_first_f a_terms_many_n a_terms_many_f a_terms_part_n a_terms_part_f a_terms_number_n a_terms_number_f a_became_n a_became_f a_node_n a_node_f a_up_n a_touched_n a_todo_n kf3 w0 w1 w2 w3 w4) (0 : Int32)))))))))
def p_Mo_classes (n : Nat) (x : Int32) (y : Int32) (bind_ : Int32) (a_thrown : Int32) (a_taped : Int32) (a_place : Int32) (a_resulted : Int32) (a_marks : Int32) (a_touches : Int32) (a_paints : Int32) (a_terms_size : Int32) (a_terms_parts : Int32) (a_terms_kind_n : Nat) (a_terms_kind_f : Nat → Int32) (a_terms_name_n : Nat) (a_terms_name_f : Nat → Int32) (a_terms_first_n : Nat) (a_terms_first_f : Nat → Int32) (a_terms_many_n : Nat) (a_terms_many_f : Nat → Int32) (a_terms_part_n : Nat) (a_terms_part_f : Nat → Int32) (a_terms_number_n : Nat) (a_terms_number_f : Nat → Int64) (a_became_n : Nat) (a_became_f : Nat → Int32) (a_node_n : Nat) (a_node_f : Nat → Int32) (a_up_n : Nat) (a_up_f : Nat → Int32) (a_touched_n : Nat) (a_touched_f : Nat → Int32) (a_todo_n : Nat) (a_todo_f : Nat → Int32) : Option (Int32 × Int32 × (Nat → Int32) × (Nat → Int32) × (Nat → Int32)) := ck (ixb 0 a_todo_n) (ck (ixb (0 + 1) a_todo_n) (p_Mo_classes_25 n bind_ a_thrown a_taped a_place a_resulted a_marks a_paints a_terms_size a_terms_parts a_terms_kind_n a_terms_kind_f a_terms_name_n a_terms_name_f a_terms_first_n a_terms_first_f a_terms_many_n a_terms_many_f a_terms_part_n a_terms_part_f a_terms_number_n a_terms_number_f a_became_n a_became_f a_node_n a_node_f a_up_n a_touched_n a_todo_n n ((0 + 1) + 1 : Int32) a_touches a_up_f a_touched_f (upd (upd a_todo_f (0 : Int32).toNatClampNeg x) (0 + 1 : Int32).toNatClampNeg y)))
set_option maxHeartbeats 40000000 in
set_option maxRecDepth 100000 in
theorem c_Mo_classes (l : Launch) (g : va_G) (cs : Nat → ClassId) (ka : Nat → Nat) (a_tape : Nat) (a_result : Nat) (a_names : Nat) (a_reader : Nat) (a_paper : Nat) (a_register : Nat) (a_marked : Nat) (a_markedRegister : Nat) (a_color : Nat) (a_painted : Nat) (a a_terms a_terms_kind a_terms_name a_terms_first a_terms_many a_terms_part a_terms_number a_became a_node a_up a_touched a_todo : Nat) (sz : Nat) (n : Nat) (x : Int32) (y : Int32) (bind_ : Int32) (a_thrown : Int32) (a_taped : Int32) (a_place : Int32) (a_resulted : Int32) (a_marks : Int32) (a_touches : Int32) (a_paints : Int32) (a_terms_size : Int32) (a_terms_parts : Int32) (a_terms_kind_n : Nat) (a_terms_kind_f : Nat → Int32) (a_terms_name_n : Nat) (a_terms_name_f : Nat → Int32) (a_terms_first_n : Nat) (a_terms_first_f : Nat → Int32) (a_terms_many_n : Nat) (a_terms_many_f : Nat → Int32) (a_terms_part_n : Nat) (a_terms_part_f : Nat → Int32) (a_terms_number_n : Nat) (a_terms_number_f : Nat → Int64) (a_became_n : Nat) (a_became_f : Nat → Int32) (a_node_n : Nat) (a_node_f : Nat → Int32) (a_up_n : Nat) (a_up_f : Nat → Int32) (a_touched_n : Nat) (a_touched_f : Nat → Int32) (a_todo_n : Nat) (a_todo_f : Nat → Int32) (r : Int32) (o_a_touches : Int32) (o_a_up_f : Nat → Int32) (o_a_touched_f : Nat → Int32) (o_a_todo_f : Nat → Int32) (hok : p_Mo_classes n x y bind_ a_thrown a_taped a_place a_resulted a_marks a_touches a_paints a_terms_size a_terms_parts a_terms_kind_n a_terms_kind_f a_terms_name_n a_terms_name_f a_terms_first_n a_terms_first_f a_terms_many_n a_terms_many_f a_terms_part_n a_terms_part_f a_terms_number_n a_terms_number_f a_became_n a_became_f a_node_n a_node_f a_up_n a_up_f a_touched_n a_touched_f a_todo_n a_todo_f = some (r, o_a_touches, o_a_up_f, o_a_touched_f, o_a_todo_f)) : Met l y_Mo_classes (.code y_Mo_classes b_Mo_classes 10 (some .boolean) :: GW) { frames := 2, cells := 0, slots := 0, locals := 45 } (va_Pc [.ref a, .int x, .int y, .int bind_] (gP g cs ka [(a, .inr (14, [.int a_thrown, .int a_taped, .int a_place, .int a_resulted, .int a_marks, .ref a_tape, .ref a_result, .ref a_terms, .ref a_names, .ref a_reader, .ref a_paper, .ref a_register, .ref a_became, .ref a_node, .ref a_marked, .ref a_markedRegister, .ref a_up, .ref a_touched, .ref a_todo, .ref a_color, .int a_touches, .ref a_painted, .int a_paints])), (a_terms, .inr (11, [.ref a_terms_kind, .ref a_terms_name, .ref a_terms_first, .ref a_terms_many, .ref a_terms_part, .ref a_terms_number, .int a_terms_size, .int a_terms_parts])), (a_terms_kind, .inl (cs 0, a_terms_kind_n, .inl a_terms_kind_f)), (a_terms_name, .inl (cs 0, a_terms_name_n, .inl a_terms_name_f)), (a_terms_first, .inl (cs 0, a_terms_first_n, .inl a_terms_first_f)), (a_terms_many, .inl (cs 0, a_terms_many_n, .inl a_terms_many_f)), (a_terms_part, .inl (cs 0, a_terms_part_n, .inl a_terms_part_f)), (a_terms_number, .inl (cs 2, a_terms_number_n, .inr (.inl a_terms_number_f))), (a_became, .inl (cs 0, a_became_n, .inl a_became_f)), (a_node, .inl (cs 0, a_node_n, .inl a_node_f)), (a_up, .inl (cs 0, a_up_n, .inl a_up_f)), (a_touched, .inl (cs 0, a_touched_n, .inl a_touched_f)), (a_todo, .inl (cs 0, a_todo_n, .inl a_todo_f))] sz)) (va_Qi (fun (r' : Int32) (_ : Unit) => r = r') (fun _ t => va_P g classes [(a, .inr (14, [.int a_thrown, .int a_taped, .int a_place, .int a_resulted, .int a_marks, .ref a_tape, .ref a_result, .ref a_terms, .ref a_names, .ref a_reader, .ref a_paper, .ref a_register, .ref a_became, .ref a_node, .ref a_marked, .ref a_markedRegister, .ref a_up, .ref a_touched, .ref a_todo, .ref a_color, .int o_a_touches, .ref a_painted, .int a_paints])), (a_terms, .inr (11, [.ref a_terms_kind, .ref a_terms_name, .ref a_terms_first, .ref a_terms_many, .ref a_terms_part, .ref a_terms_number, .int a_terms_size, .int a_terms_parts])), (a_terms_kind, .inl (cs 0, a_terms_kind_n, .inl a_terms_kind_f)), (a_terms_name, .inl (cs 0, a_terms_name_n, .inl a_terms_name_f)), (a_terms_first, .inl (cs 0, a_terms_first_n, .inl a_terms_first_f)), (a_terms_many, .inl (cs 0, a_terms_many_n, .inl a_terms_many_f)), (a_terms_part, .inl (cs 0, a_terms_part_n, .inl a_terms_part_f)), (a_terms_number, .inl (cs 2, a_terms_number_n, .inr (.inl a_terms_number_f))), (a_became, .inl (cs 0, a_became_n, .inl a_became_f)), (a_node, .inl (cs 0, a_node_n, .inl a_node_f)), (a_up, .inl (cs 0, a_up_n, .inl o_a_up_f)), (a_touched, .inl (cs 0, a_touched_n, .inl o_a_touched_f)), (a_todo, .inl (cs 0, a_todo_n, .inl o_a_todo_f))] t.heap ∧ va_D (va_A [(a, .inr (14, [.int a_thrown, .int a_taped, .int a_place, .int a_resulted, .int a_marks, .ref a_tape, .ref a_result, .ref a_terms, .ref a_names, .ref a_reader, .ref a_paper, .ref a_register, .ref a_became, .ref a_node, .ref a_marked, .ref a_markedRegister, .ref a_up, .ref a_touched, .ref a_todo, .ref a_color, .int a_touches, .ref a_painted, .int a_paints])), (a_terms, .inr (11, [.ref a_terms_kind, .ref a_terms_name, .ref a_terms_first, .ref a_terms_many, .ref a_terms_part, .ref a_terms_number, .int a_terms_size, .int a_terms_parts])), (a_terms_kind, .inl (cs 0, a_terms_kind_n, .inl a_terms_kind_f)), (a_terms_name, .inl (cs 0, a_terms_name_n, .inl a_terms_name_f)), (a_terms_first, .inl (cs 0, a_terms_first_n, .inl a_terms_first_f)), (a_terms_many, .inl (cs 0, a_terms_many_n, .inl a_terms_many_f)), (a_terms_part, .inl (cs 0, a_terms_part_n, .inl a_terms_part_f)), (a_terms_number, .inl (cs 2, a_terms_number_n, .inr (.inl a_terms_number_f))), (a_became, .inl (cs 0, a_became_n, .inl a_became_f)), (a_node, .inl (cs 0, a_node_n, .inl a_node_f)), (a_up, .inl (cs 0, a_up_n, .inl a_up_f)), (a_touched, .inl (cs 0, a_touched_n, .inl a_touched_f)), (a_todo, .inl (cs 0, a_todo_n, .inl a_todo_f))] sz) [(a, .inr (14, [.int a_thrown, .int a_taped, .int a_place, .int a_resulted, .int a_marks, .ref a_tape, .ref a_result, .ref a_terms, .ref a_names, .ref a_reader, .ref a_paper, .ref a_register, .ref a_became, .ref a_node, .ref a_marked, .ref a_markedRegister, .ref a_up, .ref a_touched, .ref a_todo, .ref a_color, .int o_a_touches, .ref a_painted, .int a_paints])), (a_terms, .inr (11, [.ref a_terms_kind, .ref a_terms_name, .ref a_terms_first, .ref a_terms_many, .ref a_terms_part, .ref a_terms_number, .int a_terms_size, .int a_terms_parts])), (a_terms_kind, .inl (cs 0, a_terms_kind_n, .inl a_terms_kind_f)), (a_terms_name, .inl (cs 0, a_terms_name_n, .inl a_terms_name_f)), (a_terms_first, .inl (cs 0, a_terms_first_n, .inl a_terms_first_f)), (a_terms_many, .inl (cs 0, a_terms_many_n, .inl a_terms_many_f)), (a_terms_part, .inl (cs 0, a_terms_part_n, .inl a_terms_part_f)), (a_terms_number, .inl (cs 2, a_terms_number_n, .inr (.inl a_terms_number_f))), (a_became, .inl (cs 0, a_became_n, .inl a_became_f)), (a_node, .inl (cs 0, a_node_n, .inl a_node_f)), (a_up, .inl (cs 0, a_up_n, .inl o_a_up_f)), (a_touched, .inl (cs 0, a_touched_n, .inl o_a_touched_f)), (a_todo, .inl (cs 0, a_todo_n, .inl o_a_todo_f))]) (va_A [(a, .inr (14, [.int a_thrown, .int a_taped, .int a_place, .int a_resulted, .int a_marks, .ref a_tape, .ref a_result, .ref a_terms, .ref a_names, .ref a_reader, .ref a_paper, .ref a_register, .ref a_became, .ref a_node, .ref a_marked, .ref a_markedRegister, .ref a_up, .ref a_touched, .ref a_todo, .ref a_color, .int a_touches, .ref a_painted, .int a_paints])), (a_terms, .inr (11, [.ref a_terms_kind, .ref a_terms_name, .ref a_terms_first, .ref a_terms_many, .ref a_terms_part, .ref a_terms_number, .int a_terms_size, .int a_terms_parts])), (a_terms_kind, .inl (cs 0, a_terms_kind_n, .inl a_terms_kind_f)), (a_terms_name, .inl (cs 0, a_terms_name_n, .inl a_terms_name_f)), (a_terms_first, .inl (cs 0, a_terms_first_n, .inl a_terms_first_f)), (a_terms_many, .inl (cs 0, a_terms_many_n, .inl a_terms_many_f)), (a_terms_part, .inl (cs 0, a_terms_part_n, .inl a_terms_part_f)), (a_terms_number, .inl (cs 2, a_terms_number_n, .inr (.inl a_terms_number_f))), (a_became, .inl (cs 0, a_became_n, .inl a_became_f)), (a_node, .inl (cs 0, a_node_n, .inl a_node_f)), (a_up, .inl (cs 0, a_up_n, .inl a_up_f)), (a_touched, .inl (cs 0, a_touched_n, .inl a_touched_f)), (a_todo, .inl (cs 0, a_todo_n, .inl a_todo_f))] sz)) 0 0 (va_A [(a, .inr (14, [.int a_thrown, .int a_taped, .int a_place, .int a_resulted, .int a_marks, .ref a_tape, .ref a_result, .ref a_terms, .ref a_names, .ref a_reader, .ref a_paper, .ref a_register, .ref a_became, .ref a_node, .ref a_marked, .ref a_markedRegister, .ref a_up, .ref a_touched, .ref a_todo, .ref a_color, .int a_touches, .ref a_painted, .int a_paints])), (a_terms, .inr (11, [.ref a_terms_kind, .ref a_terms_name, .ref a_terms_first, .ref a_terms_many, .ref a_terms_part, .ref a_terms_number, .int a_terms_size, .int a_terms_parts])), (a_terms_kind, .inl (cs 0, a_terms_kind_n, .inl a_terms_kind_f)), (a_terms_name, .inl (cs 0, a_terms_name_n, .inl a_terms_name_f)), (a_terms_first, .inl (cs 0, a_terms_first_n, .inl a_terms_first_f)), (a_terms_many, .inl (cs 0, a_terms_many_n, .inl a_terms_many_f)), (a_terms_part, .inl (cs 0, a_terms_part_n, .inl a_terms_part_f)), (a_terms_number, .inl (cs 2, a_terms_number_n, .inr (.inl a_terms_number_f))), (a_became, .inl (cs 0, a_became_n, .inl a_became_f)), (a_node, .inl (cs 0, a_node_n, .inl a_node_f)), (a_up, .inl (cs 0, a_up_n, .inl a_up_f)), (a_touched, .inl (cs 0, a_touched_n, .inl a_touched_f)), (a_todo, .inl (cs 0, a_todo_n, .inl a_todo_f))] sz) := by
  refine Met.ofW (cc := b_Mo_classes) (maxL := 10) (ret := (some .boolean)) (by decide) rfl ?_
  intro p e s m args below meth c s₁ B hml hv
  obtain ⟨rfl, hsz, hP, hK, hD0, hgl, hkn, hkr⟩ := hv
  have hx := B.exec
  have hb := B.bytes
  have hr := B.returns
  have hg : ∀ w ∈ GW, w.before ([.ref a, .int x, .int y, .int bind_] : List Value).toArray s = true := fun w hw => atoms_spec (ws := .code y_Mo_classes b_Mo_classes 10 (some .boolean) :: GW) B.pre w (List.mem_cons_of_mem _ hw)
  have hown : s.vm.findClass R_Mo = some m.cls := findClass_of_methodNamed B.named
  have hlocks := B.notSynchronized
  subst hsz
  have hD := hD0.self (sz := s.heap.size)
  generalize hAe : va_A [(a, .inr (14, [.int a_thrown, .int a_taped, .int a_place, .int a_resulted, .int a_marks, .ref a_tape, .ref a_result, .ref a_terms, .ref a_names, .ref a_reader, .ref a_paper, .ref a_register, .ref a_became, .ref a_node, .ref a_marked, .ref a_markedRegister, .ref a_up, .ref a_touched, .ref a_todo, .ref a_color, .int a_touches, .ref a_painted, .int a_paints])), (a_terms, .inr (11, [.ref a_terms_kind, .ref a_terms_name, .ref a_terms_first, .ref a_terms_many, .ref a_terms_part, .ref a_terms_number, .int a_terms_size, .int a_terms_parts])), (a_terms_kind, .inl (cs 0, a_terms_kind_n, .inl a_terms_kind_f)), (a_terms_name, .inl (cs 0, a_terms_name_n, .inl a_terms_name_f)), (a_terms_first, .inl (cs 0, a_terms_first_n, .inl a_terms_first_f)), (a_terms_many, .inl (cs 0, a_terms_many_n, .inl a_terms_many_f)), (a_terms_part, .inl (cs 0, a_terms_part_n, .inl a_terms_part_f)), (a_terms_number, .inl (cs 2, a_terms_number_n, .inr (.inl a_terms_number_f))), (a_became, .inl (cs 0, a_became_n, .inl a_became_f)), (a_node, .inl (cs 0, a_node_n, .inl a_node_f)), (a_up, .inl (cs 0, a_up_n, .inl a_up_f)), (a_touched, .inl (cs 0, a_touched_n, .inl a_touched_f)), (a_todo, .inl (cs 0, a_todo_n, .inl a_todo_f))] s.heap.size = A at hD hkn ⊢
  have hA : ∀ q : Nat, s.heap.size ≤ q → A q := fun q h => by rw [← hAe]; exact Or.inr h
  have hS : va_S A s.heap s.heap [] := va_S.rf
  have hP : va_P g classes [(a, .inr (14, [.int a_thrown, .int a_taped, .int a_place, .int a_resulted, .int a_marks, .ref a_tape, .ref a_result, .ref a_terms, .ref a_names, .ref a_reader, .ref a_paper, .ref a_register, .ref a_became, .ref a_node, .ref a_marked, .ref a_markedRegister, .ref a_up, .ref a_touched, .ref a_todo, .ref a_color, .int a_touches, .ref a_painted, .int a_paints])), (a_terms, .inr (11, [.ref a_terms_kind, .ref a_terms_name, .ref a_terms_first, .ref a_terms_many, .ref a_terms_part, .ref a_terms_number, .int a_terms_size, .int a_terms_parts])), (a_terms_kind, .inl (cs 0, a_terms_kind_n, .inl a_terms_kind_f)), (a_terms_name, .inl (cs 0, a_terms_name_n, .inl a_terms_name_f)), (a_terms_first, .inl (cs 0, a_terms_first_n, .inl a_terms_first_f)), (a_terms_many, .inl (cs 0, a_terms_many_n, .inl a_terms_many_f)), (a_terms_part, .inl (cs 0, a_terms_part_n, .inl a_terms_part_f)), (a_terms_number, .inl (cs 2, a_terms_number_n, .inr (.inl a_terms_number_f))), (a_became, .inl (cs 0, a_became_n, .inl a_became_f)), (a_node, .inl (cs 0, a_node_n, .inl a_node_f)), (a_up, .inl (cs 0, a_up_n, .inl a_up_f)), (a_touched, .inl (cs 0, a_touched_n, .inl a_touched_f)), (a_todo, .inl (cs 0, a_todo_n, .inl a_todo_f))] s.heap := hP
  have hl := lv_entry ([.ref a, .int x, .int y, .int bind_]) (n := 10) (Nat.le_of_ble_eq_true rfl)
  rw [lg_entry_eq]
  generalize (lg_sl ([.ref a, .int x, .int y, .int bind_]) ++ List.replicate (10 - (lg_sl ([.ref a, .int x, .int y, .int bind_])).length) Slot.unset).toArray = ls at hl ⊢
  have hl : lv_has ls 10 [(0, .ref a), (1, .int x), (2, .int y), (3, .int bind_)] := hl
  refine gq (fun Q hQ => ?_)
  obtain ⟨H, hH⟩ : ∃ H : Heap, H = s.heap := ⟨_, rfl⟩
  rw [← hH] at hP
  have hS : va_S A s.heap H [] := by rw [hH]; exact hS
  refine W.eqH hH ?_
  obtain ⟨locs, hlc⟩ : ∃ L : List Loc, L = [] := ⟨_, rfl⟩
  rw [← hlc] at hS ⊢
  unfold p_Mo_classes at hok
  refine lv_iconst (v := 0) hx hb d_Mo_classes_0 (by decide) ?_
  refine lv_istore hx hb d_Mo_classes_1 hl (by decide) rfl (fun ls hl => ?_)
  have hl : lv_has ls 10 [(4, .int 0), (0, .ref a), (1, .int x), (2, .int y), (3, .int bind_)] := hl
  refine lv_aload_n hx hb d_Mo_classes_3 rfl (lv_at hl 1 rfl) ?_
  refine va_get (D := g) (ci := 14) (v := .ref a_todo) (C := R_Mo) (T := F_Mo) (N := 23) hx hb hg ul_Mo hown hK hP 0 rfl rfl 18 (by decide) (hg _ wd_803) (fun _ h9 => h9) rfl d_Mo_classes_4 ?_
  refine lv_iload hx hb d_Mo_classes_7 (lv_at hl 0 rfl) ?_
  refine lv_iinc (k := 0) (v := 0 + 1) hx hb d_Mo_classes_9 hl rfl rfl (by decide) rfl (fun ls hl => ?_)
  have hl : lv_has ls 10 [(4, .int (0 + 1)), (0, .ref a), (1, .int x), (2, .int y), (3, .int bind_)] := hl
  refine lv_iload_n hx hb d_Mo_classes_12 rfl (lv_at hl 2 rfl) ?_
  obtain ⟨hi1, hok⟩ := ck_some hok
  refine va_iast hx hb hK hP hD hS 12 0 rfl rfl (ixb_in hi1) d_Mo_classes_13 (fun H locs hP hD hS => ?_)
  obtain ⟨hP, hD⟩ : PD g A H [(a, .inr (14, [.int a_thrown, .int a_taped, .int a_place, .int a_resulted, .int a_marks, .ref a_tape, .ref a_result, .ref a_terms, .ref a_names, .ref a_reader, .ref a_paper, .ref a_register, .ref a_became, .ref a_node, .ref a_marked, .ref a_markedRegister, .ref a_up, .ref a_touched, .ref a_todo, .ref a_color, .int a_touches, .ref a_painted, .int a_paints])), (a_terms, .inr (11, [.ref a_terms_kind, .ref a_terms_name, .ref a_terms_first, .ref a_terms_many, .ref a_terms_part, .ref a_terms_number, .int a_terms_size, .int a_terms_parts])), (a_terms_kind, .inl (cs 0, a_terms_kind_n, .inl a_terms_kind_f)), (a_terms_name, .inl (cs 0, a_terms_name_n, .inl a_terms_name_f)), (a_terms_first, .inl (cs 0, a_terms_first_n, .inl a_terms_first_f)), (a_terms_many, .inl (cs 0, a_terms_many_n, .inl a_terms_many_f)), (a_terms_part, .inl (cs 0, a_terms_part_n, .inl a_terms_part_f)), (a_terms_number, .inl (cs 2, a_terms_number_n, .inr (.inl a_terms_number_f))), (a_became, .inl (cs 0, a_became_n, .inl a_became_f)), (a_node, .inl (cs 0, a_node_n, .inl a_node_f)), (a_up, .inl (cs 0, a_up_n, .inl a_up_f)), (a_touched, .inl (cs 0, a_touched_n, .inl a_touched_f)), (a_todo, .inl (cs 0, a_todo_n, .inl (upd a_todo_f (0 : Int32).toNatClampNeg x)))] := ⟨hP, hD⟩
  refine lv_aload_n hx hb d_Mo_classes_14 rfl (lv_at hl 1 rfl) ?_
  refine va_get (D := g) (ci := 14) (v := .ref a_todo) (C := R_Mo) (T := F_Mo) (N := 23) hx hb hg ul_Mo hown hK hP 0 rfl rfl 18 (by decide) (hg _ wd_803) (fun _ h9 => h9) rfl d_Mo_classes_15 ?_
  refine lv_iload hx hb d_Mo_classes_18 (lv_at hl 0 rfl) ?_
  refine lv_iinc (k := 0) (v := (0 + 1) + 1) hx hb d_Mo_classes_20 hl rfl rfl (by decide) rfl (fun ls hl => ?_)
  have hl : lv_has ls 10 [(4, .int ((0 + 1) + 1)), (0, .ref a), (1, .int x), (2, .int y), (3, .int bind_)] := hl
  refine lv_iload_n hx hb d_Mo_classes_23 rfl (lv_at hl 3 rfl) ?_
  obtain ⟨hi2, hok⟩ := ck_some hok
  refine va_iast hx hb hK hP hD hS 12 0 rfl rfl (ixb_in hi2) d_Mo_classes_24 (fun H locs hP hD hS => ?_)
  obtain ⟨hP, hD⟩ : PD g A H [(a, .inr (14, [.int a_thrown, .int a_taped, .int a_place, .int a_resulted, .int a_marks, .ref a_tape, .ref a_result, .ref a_terms, .ref a_names, .ref a_reader, .ref a_paper, .ref a_register, .ref a_became, .ref a_node, .ref a_marked, .ref a_markedRegister, .ref a_up, .ref a_touched, .ref a_todo, .ref a_color, .int a_touches, .ref a_painted, .int a_paints])), (a_terms, .inr (11, [.ref a_terms_kind, .ref a_terms_name, .ref a_terms_first, .ref a_terms_many, .ref a_terms_part, .ref a_terms_number, .int a_terms_size, .int a_terms_parts])), (a_terms_kind, .inl (cs 0, a_terms_kind_n, .inl a_terms_kind_f)), (a_terms_name, .inl (cs 0, a_terms_name_n, .inl a_terms_name_f)), (a_terms_first, .inl (cs 0, a_terms_first_n, .inl a_terms_first_f)), (a_terms_many, .inl (cs 0, a_terms_many_n, .inl a_terms_many_f)), (a_terms_part, .inl (cs 0, a_terms_part_n, .inl a_terms_part_f)), (a_terms_number, .inl (cs 2, a_terms_number_n, .inr (.inl a_terms_number_f))), (a_became, .inl (cs 0, a_became_n, .inl a_became_f)), (a_node, .inl (cs 0, a_node_n, .inl a_node_f)), (a_up, .inl (cs 0, a_up_n, .inl a_up_f)), (a_touched, .inl (cs 0, a_touched_n, .inl a_touched_f)), (a_todo, .inl (cs 0, a_todo_n, .inl (upd (upd a_todo_f (0 : Int32).toNatClampNeg x) (0 + 1 : Int32).toNatClampNeg y)))] := ⟨hP, hD⟩
  have J3 : ∀ (kf3 : Nat) (H : Heap) (locs : List Loc) (ls : Array Slot) (x4_3 : Int32) (a_touches_3 : Int32) (a_up_3f : Nat → Int32) (a_touched_3f : Nat → Int32) (a_todo_3f : Nat → Int32), lv_has ls 10 [(4, .int x4_3), (0, .ref a), (1, .int x), (2, .int y), (3, .int bind_)] → PD g A H [(a, .inr (14, [.int a_thrown, .int a_taped, .int a_place, .int a_resulted, .int a_marks, .ref a_tape, .ref a_result, .ref a_terms, .ref a_names, .ref a_reader, .ref a_paper, .ref a_register, .ref a_became, .ref a_node, .ref a_marked, .ref a_markedRegister, .ref a_up, .ref a_touched, .ref a_todo, .ref a_color, .int a_touches_3, .ref a_painted, .int a_paints])), (a_terms, .inr (11, [.ref a_terms_kind, .ref a_terms_name, .ref a_terms_first, .ref a_terms_many, .ref a_terms_part, .ref a_terms_number, .int a_terms_size, .int a_terms_parts])), (a_terms_kind, .inl (cs 0, a_terms_kind_n, .inl a_terms_kind_f)), (a_terms_name, .inl (cs 0, a_terms_name_n, .inl a_terms_name_f)), (a_terms_first, .inl (cs 0, a_terms_first_n, .inl a_terms_first_f)), (a_terms_many, .inl (cs 0, a_terms_many_n, .inl a_terms_many_f)), (a_terms_part, .inl (cs 0, a_terms_part_n, .inl a_terms_part_f)), (a_terms_number, .inl (cs 2, a_terms_number_n, .inr (.inl a_terms_number_f))), (a_became, .inl (cs 0, a_became_n, .inl a_became_f)), (a_node, .inl (cs 0, a_node_n, .inl a_node_f)), (a_up, .inl (cs 0, a_up_n, .inl a_up_3f)), (a_touched, .inl (cs 0, a_touched_n, .inl a_touched_3f)), (a_todo, .inl (cs 0, a_todo_n, .inl a_todo_3f))] → va_S A s.heap H locs → p_Mo_classes_25 n bind_ a_thrown a_taped a_place a_resulted a_marks a_paints a_terms_size a_terms_parts a_terms_kind_n a_terms_kind_f a_terms_name_n a_terms_name_f a_terms_first_n a_terms_first_f a_terms_many_n a_terms_many_f a_terms_part_n a_terms_part_f a_terms_number_n a_terms_number_f a_became_n a_became_f a_node_n a_node_f a_up_n a_touched_n a_todo_n kf3 x4_3 a_touches_3 a_up_3f a_touched_3f a_todo_3f = some (r, o_a_touches, o_a_up_f, o_a_touched_f, o_a_todo_f) → W p l e (headSpec (.code y_Mo_classes b_Mo_classes 10 (some .boolean) :: GW) { frames := 2, cells := 0, slots := 0, locals := 45 }).room s m ([.ref a, .int x, .int y, .int bind_] : List Value).toArray below meth c H locs 0 0 Q (F0 m 25 ls []) := by
    intro kf3
    induction kf3 with
    | zero => intro H locs ls x4_3 a_touches_3 a_up_3f a_touched_3f a_todo_3f hl ⟨hP, hD⟩ hS hok; rw [p_Mo_classes_25] at hok; cases hok
    | succ kf3 ih3 =>
      intro H locs ls x4_3 a_touches_3 a_up_3f a_touched_3f a_todo_3f hl ⟨hP, hD⟩ hS hok
      rw [p_Mo_classes_25] at hok
      refine lv_iload hx hb d_Mo_classes_25 (lv_at hl 0 rfl) ?_
      refine lv_if_le hx hb d_Mo_classes_27 rfl (fun h4 => ?_) (fun h4 => ?_)
      · rw [if_pos h4] at hok
        refine lv_iconst (v := 1) hx hb d_Mo_classes_351 (by decide) ?_
        have hq := Option.some.inj hok
        obtain ⟨hq0, hq⟩ := Prod.mk.inj hq
        obtain ⟨hq1, hq⟩ := Prod.mk.inj hq
        obtain ⟨hq2, hq⟩ := Prod.mk.inj hq
        obtain ⟨hq3, hq⟩ := Prod.mk.inj hq
        have hq4 := hq
        subst hq0
        subst hq1
        subst hq2
        subst hq3
        subst hq4
        obtain ⟨hP9, hD9⟩ := sub2 (ws' := [(a, .inr (14, [.int a_thrown, .int a_taped, .int a_place, .int a_resulted, .int a_marks, .ref a_tape, .ref a_result, .ref a_terms, .ref a_names, .ref a_reader, .ref a_paper, .ref a_register, .ref a_became, .ref a_node, .ref a_marked, .ref a_markedRegister, .ref a_up, .ref a_touched, .ref a_todo, .ref a_color, .int a_touches_3, .ref a_painted, .int a_paints])), (a_terms, .inr (11, [.ref a_terms_kind, .ref a_terms_name, .ref a_terms_first, .ref a_terms_many, .ref a_terms_part, .ref a_terms_number, .int a_terms_size, .int a_terms_parts])), (a_terms_kind, .inl (cs 0, a_terms_kind_n, .inl a_terms_kind_f)), (a_terms_name, .inl (cs 0, a_terms_name_n, .inl a_terms_name_f)), (a_terms_first, .inl (cs 0, a_terms_first_n, .inl a_terms_first_f)), (a_terms_many, .inl (cs 0, a_terms_many_n, .inl a_terms_many_f)), (a_terms_part, .inl (cs 0, a_terms_part_n, .inl a_terms_part_f)), (a_terms_number, .inl (cs 2, a_terms_number_n, .inr (.inl a_terms_number_f))), (a_became, .inl (cs 0, a_became_n, .inl a_became_f)), (a_node, .inl (cs 0, a_node_n, .inl a_node_f)), (a_up, .inl (cs 0, a_up_n, .inl a_up_3f)), (a_touched, .inl (cs 0, a_touched_n, .inl a_touched_3f)), (a_todo, .inl (cs 0, a_todo_n, .inl a_todo_3f))]) hP hD [0, 1, 2, 3, 4, 5, 6, 7, 8, 9, 10, 11, 12] rfl (by decide) rfl
        rw [hQ]
        exact W.zret (v := 1) hx hb hr rfl (fun t ht hW => ⟨⟨_, (), rfl, rfl, by rw [ht]; exact hP9, hD9⟩, hS.F ht⟩) hS.2.2 d_Mo_classes_352
      · rw [if_neg h4] at hok
        refine lv_aload_n hx hb d_Mo_classes_30 rfl (lv_at hl 1 rfl) ?_
        refine lv_aload_n hx hb d_Mo_classes_31 rfl (lv_at hl 1 rfl) ?_
        refine va_get (D := g) (ci := 14) (v := .ref a_todo) (C := R_Mo) (T := F_Mo) (N := 23) hx hb hg ul_Mo hown hK hP 0 rfl rfl 18 (by decide) (hg _ wd_803) (fun _ h9 => h9) rfl d_Mo_classes_32 ?_
        refine lv_iinc (k := 0) (v := x4_3 + (-1)) hx hb d_Mo_classes_35 hl rfl rfl (by decide) rfl (fun ls hl => ?_)
        have hl : lv_has ls 10 [(4, .int (x4_3 + (-1))), (0, .ref a), (1, .int x), (2, .int y), (3, .int bind_)] := hl
        refine lv_iload hx hb d_Mo_classes_38 (lv_at hl 0 rfl) ?_
        obtain ⟨hi5, hok⟩ := ck_some hok
        refine va_iald hx hb hK hP 12 0 rfl rfl (ixb_in hi5) d_Mo_classes_40 ?_
        obtain ⟨r6, hc6, hok⟩ := bd_some hok
        obtain ⟨hPc, hDc, hFc⟩ := cut0 (wc := [(a, .inr (14, [.int a_thrown, .int a_taped, .int a_place, .int a_resulted, .int a_marks, .ref a_tape, .ref a_result, .ref a_terms, .ref a_names, .ref a_reader, .ref a_paper, .ref a_register, .ref a_became, .ref a_node, .ref a_marked, .ref a_markedRegister, .ref a_up, .ref a_touched, .ref a_todo, .ref a_color, .int a_touches_3, .ref a_painted, .int a_paints])), (a_terms, .inr (11, [.ref a_terms_kind, .ref a_terms_name, .ref a_terms_first, .ref a_terms_many, .ref a_terms_part, .ref a_terms_number, .int a_terms_size, .int a_terms_parts])), (a_terms_kind, .inl (cs 0, a_terms_kind_n, .inl a_terms_kind_f)), (a_terms_name, .inl (cs 0, a_terms_name_n, .inl a_terms_name_f)), (a_became, .inl (cs 0, a_became_n, .inl a_became_f)), (a_node, .inl (cs 0, a_node_n, .inl a_node_f)), (a_up, .inl (cs 0, a_up_n, .inl a_up_3f))]) hP hD hS hA [0, 1, 2, 3, 8, 9, 10] (by decide) rfl
        refine va_calli (va_runV (As := [.int (a_todo_3f (x4_3 + (-1)).toNatClampNeg)]) (rest := []) ⟨hx, hb, hml, hown, hg⟩ (c_Mo_root l g cs ka a_tape a_result a_names a_reader a_paper a_register a_marked a_markedRegister a_touched a_todo a_color a_painted a_terms_first a_terms_many a_terms_part a_terms_number a a_terms a_terms_kind a_terms_name a_became a_node a_up H.size n (a_todo_3f (x4_3 + (-1)).toNatClampNeg) a_thrown a_taped a_place a_resulted a_marks a_touches_3 a_paints a_terms_size a_terms_parts a_terms_kind_n a_terms_kind_f a_terms_name_n a_terms_name_f a_became_n a_became_f a_node_n a_node_f a_up_n a_up_3f r6 hc6) (cwV (C := R_Mo) 1 hg (gw_V wd_805 wd_806 wd_807 wd_780 wd_804) rfl rfl rfl (by decide +kernel) ⟨Nat.le_of_ble_eq_true rfl, Nat.le_of_ble_eq_true rfl⟩) ⟨gP_blind, va_recv (q0 := 0) (ci := 14) (q := (R_Mo, F_Mo, 23)) hK hP rfl rfl, gP_pre hPc hDc hK hgl hkn hkr hS hFc⟩ rfl rfl hl.1 rfl (lv_room (Nat.le_of_ble_eq_true rfl)) d_Mo_classes_41 ⟨Nat.le_of_ble_eq_true rfl, Nat.le_of_ble_eq_true rfl⟩) hS (fun q _ h => hFc q h) hFc (fun r6' u t H locs ht hvm hr6 hB hz1 hk1 hS => ?_)
        subst hr6
        rw [ht] at hB
        obtain ⟨hP1, hD1⟩ := hB
        obtain ⟨hP, hD⟩ := jn_A hP hD [0, 1, 2, 3, 8, 9, 10] [4, 5, 6, 7, 11, 12] rfl rfl (by decide) (by decide) hk1 hFc hP1 hD1
        obtain ⟨hP, hD⟩ : PD g A H [(a_terms_first, .inl (cs 0, a_terms_first_n, .inl a_terms_first_f)), (a_terms_many, .inl (cs 0, a_terms_many_n, .inl a_terms_many_f)), (a_terms_part, .inl (cs 0, a_terms_part_n, .inl a_terms_part_f)), (a_terms_number, .inl (cs 2, a_terms_number_n, .inr (.inl a_terms_number_f))), (a_touched, .inl (cs 0, a_touched_n, .inl a_touched_3f)), (a_todo, .inl (cs 0, a_todo_n, .inl a_todo_3f)), (a, .inr (14, [.int a_thrown, .int a_taped, .int a_place, .int a_resulted, .int a_marks, .ref a_tape, .ref a_result, .ref a_terms, .ref a_names, .ref a_reader, .ref a_paper, .ref a_register, .ref a_became, .ref a_node, .ref a_marked, .ref a_markedRegister, .ref a_up, .ref a_touched, .ref a_todo, .ref a_color, .int a_touches_3, .ref a_painted, .int a_paints])), (a_terms, .inr (11, [.ref a_terms_kind, .ref a_terms_name, .ref a_terms_first, .ref a_terms_many, .ref a_terms_part, .ref a_terms_number, .int a_terms_size, .int a_terms_parts])), (a_terms_kind, .inl (cs 0, a_terms_kind_n, .inl a_terms_kind_f)), (a_terms_name, .inl (cs 0, a_terms_name_n, .inl a_terms_name_f)), (a_became, .inl (cs 0, a_became_n, .inl a_became_f)), (a_node, .inl (cs 0, a_node_n, .inl a_node_f)), (a_up, .inl (cs 0, a_up_n, .inl a_up_3f))] := ⟨hP, hD⟩
        refine lv_istore hx hb d_Mo_classes_44 hl (by decide) rfl (fun ls hl => ?_)
        have hl : lv_has ls 10 [(5, .int r6), (4, .int (x4_3 + (-1))), (0, .ref a), (1, .int x), (2, .int y), (3, .int bind_)] := hl
        refine lv_aload_n hx hb d_Mo_classes_46 rfl (lv_at hl 2 rfl) ?_
        refine lv_aload_n hx hb d_Mo_classes_47 rfl (lv_at hl 2 rfl) ?_
        refine va_get (D := g) (ci := 14) (v := .ref a_todo) (C := R_Mo) (T := F_Mo) (N := 23) hx hb hg ul_Mo hown hK hP 6 rfl rfl 18 (by decide) (hg _ wd_803) (fun _ h9 => h9) rfl d_Mo_classes_48 ?_
        refine lv_iinc (k := 1) (v := (x4_3 + (-1)) + (-1)) hx hb d_Mo_classes_51 hl rfl rfl (by decide) rfl (fun ls hl => ?_)
        have hl : lv_has ls 10 [(4, .int ((x4_3 + (-1)) + (-1))), (5, .int r6), (0, .ref a), (1, .int x), (2, .int y), (3, .int bind_)] := hl
        refine lv_iload hx hb d_Mo_classes_54 (lv_at hl 0 rfl) ?_
        obtain ⟨hi7, hok⟩ := ck_some hok
        refine va_iald hx hb hK hP 5 0 rfl rfl (ixb_in hi7) d_Mo_classes_56 ?_
        obtain ⟨r8, hc8, hok⟩ := bd_some hok
        obtain ⟨hPc, hDc, hFc⟩ := cut0 (wc := [(a, .inr (14, [.int a_thrown, .int a_taped, .int a_place, .int a_resulted, .int a_marks, .ref a_tape, .ref a_result, .ref a_terms, .ref a_names, .ref a_reader, .ref a_paper, .ref a_register, .ref a_became, .ref a_node, .ref a_marked, .ref a_markedRegister, .ref a_up, .ref a_touched, .ref a_todo, .ref a_color, .int a_touches_3, .ref a_painted, .int a_paints])), (a_terms, .inr (11, [.ref a_terms_kind, .ref a_terms_name, .ref a_terms_first, .ref a_terms_many, .ref a_terms_part, .ref a_terms_number, .int a_terms_size, .int a_terms_parts])), (a_terms_kind, .inl (cs 0, a_terms_kind_n, .inl a_terms_kind_f)), (a_terms_name, .inl (cs 0, a_terms_name_n, .inl a_terms_name_f)), (a_became, .inl (cs 0, a_became_n, .inl a_became_f)), (a_node, .inl (cs 0, a_node_n, .inl a_node_f)), (a_up, .inl (cs 0, a_up_n, .inl a_up_3f))]) hP hD hS hA [6, 7, 8, 9, 10, 11, 12] (by decide) rfl
        refine va_calli (va_runV (As := [.int (a_todo_3f ((x4_3 + (-1)) + (-1)).toNatClampNeg)]) (rest := []) ⟨hx, hb, hml, hown, hg⟩ (c_Mo_root l g cs ka a_tape a_result a_names a_reader a_paper a_register a_marked a_markedRegister a_touched a_todo a_color a_painted a_terms_first a_terms_many a_terms_part a_terms_number a a_terms a_terms_kind a_terms_name a_became a_node a_up H.size n (a_todo_3f ((x4_3 + (-1)) + (-1)).toNatClampNeg) a_thrown a_taped a_place a_resulted a_marks a_touches_3 a_paints a_terms_size a_terms_parts a_terms_kind_n a_terms_kind_f a_terms_name_n a_terms_name_f a_became_n a_became_f a_node_n a_node_f a_up_n a_up_3f r8 hc8) (cwV (C := R_Mo) 1 hg (gw_V wd_805 wd_806 wd_807 wd_780 wd_804) rfl rfl rfl (by decide +kernel) ⟨Nat.le_of_ble_eq_true rfl, Nat.le_of_ble_eq_true rfl⟩) ⟨gP_blind, va_recv (q0 := 6) (ci := 14) (q := (R_Mo, F_Mo, 23)) hK hP rfl rfl, gP_pre hPc hDc hK hgl hkn hkr hS hFc⟩ rfl rfl hl.1 rfl (lv_room (Nat.le_of_ble_eq_true rfl)) d_Mo_classes_57 ⟨Nat.le_of_ble_eq_true rfl, Nat.le_of_ble_eq_true rfl⟩) hS (fun q _ h => hFc q h) hFc (fun r8' u t H locs ht hvm hr8 hB hz1 hk1 hS => ?_)
        subst hr8
        rw [ht] at hB
        obtain ⟨hP1, hD1⟩ := hB
        obtain ⟨hP, hD⟩ := jn_A hP hD [6, 7, 8, 9, 10, 11, 12] [0, 1, 2, 3, 4, 5] rfl rfl (by decide) (by decide) hk1 hFc hP1 hD1
        obtain ⟨hP, hD⟩ : PD g A H [(a_terms_first, .inl (cs 0, a_terms_first_n, .inl a_terms_first_f)), (a_terms_many, .inl (cs 0, a_terms_many_n, .inl a_terms_many_f)), (a_terms_part, .inl (cs 0, a_terms_part_n, .inl a_terms_part_f)), (a_terms_number, .inl (cs 2, a_terms_number_n, .inr (.inl a_terms_number_f))), (a_touched, .inl (cs 0, a_touched_n, .inl a_touched_3f)), (a_todo, .inl (cs 0, a_todo_n, .inl a_todo_3f)), (a, .inr (14, [.int a_thrown, .int a_taped, .int a_place, .int a_resulted, .int a_marks, .ref a_tape, .ref a_result, .ref a_terms, .ref a_names, .ref a_reader, .ref a_paper, .ref a_register, .ref a_became, .ref a_node, .ref a_marked, .ref a_markedRegister, .ref a_up, .ref a_touched, .ref a_todo, .ref a_color, .int a_touches_3, .ref a_painted, .int a_paints])), (a_terms, .inr (11, [.ref a_terms_kind, .ref a_terms_name, .ref a_terms_first, .ref a_terms_many, .ref a_terms_part, .ref a_terms_number, .int a_terms_size, .int a_terms_parts])), (a_terms_kind, .inl (cs 0, a_terms_kind_n, .inl a_terms_kind_f)), (a_terms_name, .inl (cs 0, a_terms_name_n, .inl a_terms_name_f)), (a_became, .inl (cs 0, a_became_n, .inl a_became_f)), (a_node, .inl (cs 0, a_node_n, .inl a_node_f)), (a_up, .inl (cs 0, a_up_n, .inl a_up_3f))] := ⟨hP, hD⟩
        refine lv_istore hx hb d_Mo_classes_60 hl (by decide) rfl (fun ls hl => ?_)
        have hl : lv_has ls 10 [(6, .int r8), (4, .int ((x4_3 + (-1)) + (-1))), (5, .int r6), (0, .ref a), (1, .int x), (2, .int y), (3, .int bind_)] := hl
        refine lv_iload hx hb d_Mo_classes_62 (lv_at hl 0 rfl) ?_
        refine lv_iload hx hb d_Mo_classes_64 (lv_at hl 2 rfl) ?_
        refine lv_icmp_ne hx hb d_Mo_classes_66 rfl (fun h9 => ?_) (fun h9 => ?_)
        · rw [if_neg h9] at hok
          refine lv_aload_n hx hb d_Mo_classes_72 rfl (lv_at hl 3 rfl) ?_
          refine va_get (D := g) (ci := 14) (v := .ref a_terms) (C := R_Mo) (T := F_Mo) (N := 23) hx hb hg ul_Mo hown hK hP 6 rfl rfl 7 (by decide) (hg _ wd_788) (fun _ h9 => h9) rfl d_Mo_classes_73 ?_
          refine va_get (D := g) (ci := 11) (v := .ref a_terms_kind) (C := R_MoTerms) (T := F_MoTerms) (N := 8) hx hb hg ul_MoTerms hown hK hP 7 rfl rfl 0 (by decide) (hg _ wd_789) (fun _ h9 => h9) rfl d_Mo_classes_76 ?_
          refine lv_iload hx hb d_Mo_classes_79 (lv_at hl 0 rfl) ?_
          obtain ⟨hi10, hok⟩ := ck_some hok
          refine va_iald hx hb hK hP 8 0 rfl rfl (ixb_in hi10) d_Mo_classes_81 ?_
          have J11 : ∀ (H : Heap) (locs : List Loc) (ls : Array Slot) (y0_11 : Int32), lv_has ls 10 [(6, .int r8), (4, .int ((x4_3 + (-1)) + (-1))), (5, .int r6), (0, .ref a), (1, .int x), (2, .int y), (3, .int bind_)] → PD g A H [(a_terms_first, .inl (cs 0, a_terms_first_n, .inl a_terms_first_f)), (a_terms_many, .inl (cs 0, a_terms_many_n, .inl a_terms_many_f)), (a_terms_part, .inl (cs 0, a_terms_part_n, .inl a_terms_part_f)), (a_terms_number, .inl (cs 2, a_terms_number_n, .inr (.inl a_terms_number_f))), (a_touched, .inl (cs 0, a_touched_n, .inl a_touched_3f)), (a_todo, .inl (cs 0, a_todo_n, .inl a_todo_3f)), (a, .inr (14, [.int a_thrown, .int a_taped, .int a_place, .int a_resulted, .int a_marks, .ref a_tape, .ref a_result, .ref a_terms, .ref a_names, .ref a_reader, .ref a_paper, .ref a_register, .ref a_became, .ref a_node, .ref a_marked, .ref a_markedRegister, .ref a_up, .ref a_touched, .ref a_todo, .ref a_color, .int a_touches_3, .ref a_painted, .int a_paints])), (a_terms, .inr (11, [.ref a_terms_kind, .ref a_terms_name, .ref a_terms_first, .ref a_terms_many, .ref a_terms_part, .ref a_terms_number, .int a_terms_size, .int a_terms_parts])), (a_terms_kind, .inl (cs 0, a_terms_kind_n, .inl a_terms_kind_f)), (a_terms_name, .inl (cs 0, a_terms_name_n, .inl a_terms_name_f)), (a_became, .inl (cs 0, a_became_n, .inl a_became_f)), (a_node, .inl (cs 0, a_node_n, .inl a_node_f)), (a_up, .inl (cs 0, a_up_n, .inl a_up_3f))] → va_S A s.heap H locs → p_Mo_classes_90 n bind_ a_thrown a_taped a_place a_resulted a_marks a_paints a_terms_size a_terms_parts a_terms_kind_n a_terms_kind_f a_terms_name_n a_terms_name_f a_terms_first_n a_terms_first_f a_terms_many_n a_terms_many_f a_terms_part_n a_terms_part_f a_terms_number_n a_terms_number_f a_up_n a_touched_n a_todo_n x4_3 a_touches_3 a_up_3f a_touched_3f a_todo_3f r6 r8 (fun w0 w1 w2 w3 w4 => p_Mo_classes_25 n bind_ a_thrown a_taped a_place a_resulted a_marks a_paints a_terms_size a_terms_parts a_terms_kind_n a_terms_kind_f a_terms_name_n a_terms_name_f a_terms_first_n a_terms_first_f a_terms_many_n a_terms_many_f a_terms_part_n a_terms_part_f a_terms_number_n a_terms_number_f a_became_n a_became_f a_node_n a_node_f a_up_n a_touched_n a_todo_n kf3 w0 w1 w2 w3 w4) y0_11 = some (r, o_a_touches, o_a_up_f, o_a_touched_f, o_a_todo_f) → W p l e (headSpec (.code y_Mo_classes b_Mo_classes 10 (some .boolean) :: GW) { frames := 2, cells := 0, slots := 0, locals := 45 }).room s m ([.ref a, .int x, .int y, .int bind_] : List Value).toArray below meth c H locs 0 0 Q (F0 m 90 ls [.int y0_11]) := by
            intro H locs ls y0_11 hl ⟨hP, hD⟩ hS hok
            unfold p_Mo_classes_90 at hok
            refine lv_istore hx hb d_Mo_classes_90 hl (by decide) rfl (fun ls hl => ?_)
            have hl : lv_has ls 10 [(7, .int y0_11), (6, .int r8), (4, .int ((x4_3 + (-1)) + (-1))), (5, .int r6), (0, .ref a), (1, .int x), (2, .int y), (3, .int bind_)] := hl
            refine lv_aload_n hx hb d_Mo_classes_92 rfl (lv_at hl 4 rfl) ?_
            refine va_get (D := g) (ci := 14) (v := .ref a_terms) (C := R_Mo) (T := F_Mo) (N := 23) hx hb hg ul_Mo hown hK hP 6 rfl rfl 7 (by decide) (hg _ wd_788) (fun _ h9 => h9) rfl d_Mo_classes_93 ?_
            refine va_get (D := g) (ci := 11) (v := .ref a_terms_kind) (C := R_MoTerms) (T := F_MoTerms) (N := 8) hx hb hg ul_MoTerms hown hK hP 7 rfl rfl 0 (by decide) (hg _ wd_789) (fun _ h9 => h9) rfl d_Mo_classes_96 ?_
            refine lv_iload hx hb d_Mo_classes_99 (lv_at hl 3 rfl) ?_
            obtain ⟨hi12, hok⟩ := ck_some hok
            refine va_iald hx hb hK hP 8 0 rfl rfl (ixb_in hi12) d_Mo_classes_101 ?_
            have J13 : ∀ (H : Heap) (locs : List Loc) (ls : Array Slot) (y0_13 : Int32), lv_has ls 10 [(7, .int y0_11), (6, .int r8), (4, .int ((x4_3 + (-1)) + (-1))), (5, .int r6), (0, .ref a), (1, .int x), (2, .int y), (3, .int bind_)] → PD g A H [(a_terms_first, .inl (cs 0, a_terms_first_n, .inl a_terms_first_f)), (a_terms_many, .inl (cs 0, a_terms_many_n, .inl a_terms_many_f)), (a_terms_part, .inl (cs 0, a_terms_part_n, .inl a_terms_part_f)), (a_terms_number, .inl (cs 2, a_terms_number_n, .inr (.inl a_terms_number_f))), (a_touched, .inl (cs 0, a_touched_n, .inl a_touched_3f)), (a_todo, .inl (cs 0, a_todo_n, .inl a_todo_3f)), (a, .inr (14, [.int a_thrown, .int a_taped, .int a_place, .int a_resulted, .int a_marks, .ref a_tape, .ref a_result, .ref a_terms, .ref a_names, .ref a_reader, .ref a_paper, .ref a_register, .ref a_became, .ref a_node, .ref a_marked, .ref a_markedRegister, .ref a_up, .ref a_touched, .ref a_todo, .ref a_color, .int a_touches_3, .ref a_painted, .int a_paints])), (a_terms, .inr (11, [.ref a_terms_kind, .ref a_terms_name, .ref a_terms_first, .ref a_terms_many, .ref a_terms_part, .ref a_terms_number, .int a_terms_size, .int a_terms_parts])), (a_terms_kind, .inl (cs 0, a_terms_kind_n, .inl a_terms_kind_f)), (a_terms_name, .inl (cs 0, a_terms_name_n, .inl a_terms_name_f)), (a_became, .inl (cs 0, a_became_n, .inl a_became_f)), (a_node, .inl (cs 0, a_node_n, .inl a_node_f)), (a_up, .inl (cs 0, a_up_n, .inl a_up_3f))] → va_S A s.heap H locs → p_Mo_classes_110 n bind_ a_thrown a_taped a_place a_resulted a_marks a_paints a_terms_size a_terms_parts a_terms_kind_n a_terms_kind_f a_terms_name_n a_terms_name_f a_terms_first_n a_terms_first_f a_terms_many_n a_terms_many_f a_terms_part_n a_terms_part_f a_terms_number_n a_terms_number_f a_up_n a_touched_n a_todo_n x4_3 a_touches_3 a_up_3f a_touched_3f a_todo_3f r6 r8 y0_11 (fun w0 w1 w2 w3 w4 => p_Mo_classes_25 n bind_ a_thrown a_taped a_place a_resulted a_marks a_paints a_terms_size a_terms_parts a_terms_kind_n a_terms_kind_f a_terms_name_n a_terms_name_f a_terms_first_n a_terms_first_f a_terms_many_n a_terms_many_f a_terms_part_n a_terms_part_f a_terms_number_n a_terms_number_f a_became_n a_became_f a_node_n a_node_f a_up_n a_touched_n a_todo_n kf3 w0 w1 w2 w3 w4) y0_13 = some (r, o_a_touches, o_a_up_f, o_a_touched_f, o_a_todo_f) → W p l e (headSpec (.code y_Mo_classes b_Mo_classes 10 (some .boolean) :: GW) { frames := 2, cells := 0, slots := 0, locals := 45 }).room s m ([.ref a, .int x, .int y, .int bind_] : List Value).toArray below meth c H locs 0 0 Q (F0 m 110 ls [.int y0_13]) := by
              intro H locs ls y0_13 hl ⟨hP, hD⟩ hS hok
              unfold p_Mo_classes_110 at hok
              refine lv_istore hx hb d_Mo_classes_110 hl (by decide) rfl (fun ls hl => ?_)
              have hl : lv_has ls 10 [(8, .int y0_13), (7, .int y0_11), (6, .int r8), (4, .int ((x4_3 + (-1)) + (-1))), (5, .int r6), (0, .ref a), (1, .int x), (2, .int y), (3, .int bind_)] := hl
              refine lv_iload_n hx hb d_Mo_classes_112 rfl (lv_at hl 8 rfl) ?_
              have J14 : ∀ (H : Heap) (locs : List Loc) (ls : Array Slot), lv_has ls 10 [(8, .int y0_13), (7, .int y0_11), (6, .int r8), (4, .int ((x4_3 + (-1)) + (-1))), (5, .int r6), (0, .ref a), (1, .int x), (2, .int y), (3, .int bind_)] → PD g A H [(a_terms_first, .inl (cs 0, a_terms_first_n, .inl a_terms_first_f)), (a_terms_many, .inl (cs 0, a_terms_many_n, .inl a_terms_many_f)), (a_terms_part, .inl (cs 0, a_terms_part_n, .inl a_terms_part_f)), (a_terms_number, .inl (cs 2, a_terms_number_n, .inr (.inl a_terms_number_f))), (a_touched, .inl (cs 0, a_touched_n, .inl a_touched_3f)), (a_todo, .inl (cs 0, a_todo_n, .inl a_todo_3f)), (a, .inr (14, [.int a_thrown, .int a_taped, .int a_place, .int a_resulted, .int a_marks, .ref a_tape, .ref a_result, .ref a_terms, .ref a_names, .ref a_reader, .ref a_paper, .ref a_register, .ref a_became, .ref a_node, .ref a_marked, .ref a_markedRegister, .ref a_up, .ref a_touched, .ref a_todo, .ref a_color, .int a_touches_3, .ref a_painted, .int a_paints])), (a_terms, .inr (11, [.ref a_terms_kind, .ref a_terms_name, .ref a_terms_first, .ref a_terms_many, .ref a_terms_part, .ref a_terms_number, .int a_terms_size, .int a_terms_parts])), (a_terms_kind, .inl (cs 0, a_terms_kind_n, .inl a_terms_kind_f)), (a_terms_name, .inl (cs 0, a_terms_name_n, .inl a_terms_name_f)), (a_became, .inl (cs 0, a_became_n, .inl a_became_f)), (a_node, .inl (cs 0, a_node_n, .inl a_node_f)), (a_up, .inl (cs 0, a_up_n, .inl a_up_3f))] → va_S A s.heap H locs → p_Mo_classes_128 n a_thrown a_taped a_place a_resulted a_marks a_paints a_terms_size a_terms_parts a_terms_kind_n a_terms_kind_f a_terms_name_n a_terms_name_f a_terms_first_n a_terms_first_f a_terms_many_n a_terms_many_f a_terms_part_n a_terms_part_f a_terms_number_n a_terms_number_f a_up_n a_touched_n a_todo_n x4_3 a_touches_3 a_up_3f a_touched_3f a_todo_3f r6 r8 y0_11 y0_13 (fun w0 w1 w2 w3 w4 => p_Mo_classes_25 n bind_ a_thrown a_taped a_place a_resulted a_marks a_paints a_terms_size a_terms_parts a_terms_kind_n a_terms_kind_f a_terms_name_n a_terms_name_f a_terms_first_n a_terms_first_f a_terms_many_n a_terms_many_f a_terms_part_n a_terms_part_f a_terms_number_n a_terms_number_f a_became_n a_became_f a_node_n a_node_f a_up_n a_touched_n a_todo_n kf3 w0 w1 w2 w3 w4) = some (r, o_a_touches, o_a_up_f, o_a_touched_f, o_a_todo_f) → W p l e (headSpec (.code y_Mo_classes b_Mo_classes 10 (some .boolean) :: GW) { frames := 2, cells := 0, slots := 0, locals := 45 }).room s m ([.ref a, .int x, .int y, .int bind_] : List Value).toArray below meth c H locs 0 0 Q (F0 m 128 ls []) := by
                intro H locs ls hl ⟨hP, hD⟩ hS hok
                unfold p_Mo_classes_128 at hok
                refine lv_iload hx hb d_Mo_classes_128 (lv_at hl 1 rfl) ?_
                refine lv_if_eq hx hb d_Mo_classes_130 rfl (fun h15 => ?_) (fun h15 => ?_)
                · rw [if_pos h15] at hok
                  refine lv_iload hx hb d_Mo_classes_144 (lv_at hl 0 rfl) ?_
                  refine lv_if_eq hx hb d_Mo_classes_146 rfl (fun h16 => ?_) (fun h16 => ?_)
                  · rw [if_pos h16] at hok
                    refine lv_aload_n hx hb d_Mo_classes_160 rfl (lv_at hl 5 rfl) ?_
                    refine va_get (D := g) (ci := 14) (v := .ref a_terms) (C := R_Mo) (T := F_Mo) (N := 23) hx hb hg ul_Mo hown hK hP 6 rfl rfl 7 (by decide) (hg _ wd_788) (fun _ h9 => h9) rfl d_Mo_classes_161 ?_
                    refine va_get (D := g) (ci := 11) (v := .ref a_terms_kind) (C := R_MoTerms) (T := F_MoTerms) (N := 8) hx hb hg ul_MoTerms hown hK hP 7 rfl rfl 0 (by decide) (hg _ wd_789) (fun _ h9 => h9) rfl d_Mo_classes_164 ?_
                    refine lv_iload hx hb d_Mo_classes_167 (lv_at hl 2 rfl) ?_
                    obtain ⟨hi17, hok⟩ := ck_some hok
                    refine va_iald hx hb hK hP 8 0 rfl rfl (ixb_in hi17) d_Mo_classes_169 ?_
                    refine lv_aload_n hx hb d_Mo_classes_170 rfl (lv_at hl 5 rfl) ?_
                    refine va_get (D := g) (ci := 14) (v := .ref a_terms) (C := R_Mo) (T := F_Mo) (N := 23) hx hb hg ul_Mo hown hK hP 6 rfl rfl 7 (by decide) (hg _ wd_788) (fun _ h9 => h9) rfl d_Mo_classes_171 ?_
                    refine va_get (D := g) (ci := 11) (v := .ref a_terms_kind) (C := R_MoTerms) (T := F_MoTerms) (N := 8) hx hb hg ul_MoTerms hown hK hP 7 rfl rfl 0 (by decide) (hg _ wd_789) (fun _ h9 => h9) rfl d_Mo_classes_174 ?_
                    refine lv_iload hx hb d_Mo_classes_177 (lv_at hl 4 rfl) ?_
                    obtain ⟨hi18, hok⟩ := ck_some hok
                    refine va_iald hx hb hK hP 8 0 rfl rfl (ixb_in hi18) d_Mo_classes_179 ?_
                    refine lv_icmp_eq hx hb d_Mo_classes_180 rfl (fun h19 => ?_) (fun h19 => ?_)
                    · rw [if_pos h19] at hok
                      refine lv_aload_n hx hb d_Mo_classes_185 rfl (lv_at hl 5 rfl) ?_
                      refine va_get (D := g) (ci := 14) (v := .ref a_terms) (C := R_Mo) (T := F_Mo) (N := 23) hx hb hg ul_Mo hown hK hP 6 rfl rfl 7 (by decide) (hg _ wd_788) (fun _ h9 => h9) rfl d_Mo_classes_186 ?_
                      refine va_get (D := g) (ci := 11) (v := .ref a_terms_kind) (C := R_MoTerms) (T := F_MoTerms) (N := 8) hx hb hg ul_MoTerms hown hK hP 7 rfl rfl 0 (by decide) (hg _ wd_789) (fun _ h9 => h9) rfl d_Mo_classes_189 ?_
                      refine lv_iload hx hb d_Mo_classes_192 (lv_at hl 2 rfl) ?_
                      obtain ⟨hi20, hok⟩ := ck_some hok
                      refine va_iald hx hb hK hP 8 0 rfl rfl (ixb_in hi20) d_Mo_classes_194 ?_
                      refine lv_iconst (v := 1) hx hb d_Mo_classes_195 (by decide) ?_
                      refine lv_icmp_ne hx hb d_Mo_classes_196 rfl (fun h21 => ?_) (fun h21 => ?_)
                      · rw [if_neg h21] at hok
                        refine lv_aload_n hx hb d_Mo_classes_225 rfl (lv_at hl 5 rfl) ?_
                        refine va_get (D := g) (ci := 14) (v := .ref a_terms) (C := R_Mo) (T := F_Mo) (N := 23) hx hb hg ul_Mo hown hK hP 6 rfl rfl 7 (by decide) (hg _ wd_788) (fun _ h9 => h9) rfl d_Mo_classes_226 ?_
                        refine va_get (D := g) (ci := 11) (v := .ref a_terms_name) (C := R_MoTerms) (T := F_MoTerms) (N := 8) hx hb hg ul_MoTerms hown hK hP 7 rfl rfl 1 (by decide) (hg _ wd_790) (fun _ h9 => h9) rfl d_Mo_classes_229 ?_
                        refine lv_iload hx hb d_Mo_classes_232 (lv_at hl 2 rfl) ?_
                        obtain ⟨hi22, hok⟩ := ck_some hok
                        refine va_iald hx hb hK hP 9 0 rfl rfl (ixb_in hi22) d_Mo_classes_234 ?_
                        refine lv_aload_n hx hb d_Mo_classes_235 rfl (lv_at hl 5 rfl) ?_
                        refine va_get (D := g) (ci := 14) (v := .ref a_terms) (C := R_Mo) (T := F_Mo) (N := 23) hx hb hg ul_Mo hown hK hP 6 rfl rfl 7 (by decide) (hg _ wd_788) (fun _ h9 => h9) rfl d_Mo_classes_236 ?_
                        refine va_get (D := g) (ci := 11) (v := .ref a_terms_name) (C := R_MoTerms) (T := F_MoTerms) (N := 8) hx hb hg ul_MoTerms hown hK hP 7 rfl rfl 1 (by decide) (hg _ wd_790) (fun _ h9 => h9) rfl d_Mo_classes_239 ?_
                        refine lv_iload hx hb d_Mo_classes_242 (lv_at hl 4 rfl) ?_
                        obtain ⟨hi23, hok⟩ := ck_some hok
                        refine va_iald hx hb hK hP 9 0 rfl rfl (ixb_in hi23) d_Mo_classes_244 ?_
                        refine lv_icmp_ne hx hb d_Mo_classes_245 rfl (fun h24 => ?_) (fun h24 => ?_)
                        · rw [if_neg h24] at hok
                          refine lv_iconst (v := 0) hx hb d_Mo_classes_271 (by decide) ?_
                          have hq := Option.some.inj hok
                          obtain ⟨hq0, hq⟩ := Prod.mk.inj hq
                          obtain ⟨hq1, hq⟩ := Prod.mk.inj hq
                          obtain ⟨hq2, hq⟩ := Prod.mk.inj hq
                          obtain ⟨hq3, hq⟩ := Prod.mk.inj hq
                          have hq4 := hq
                          subst hq0
                          subst hq1
                          subst hq2
                          subst hq3
                          subst hq4
                          obtain ⟨hP9, hD9⟩ := sub2 (ws' := [(a, .inr (14, [.int a_thrown, .int a_taped, .int a_place, .int a_resulted, .int a_marks, .ref a_tape, .ref a_result, .ref a_terms, .ref a_names, .ref a_reader, .ref a_paper, .ref a_register, .ref a_became, .ref a_node, .ref a_marked, .ref a_markedRegister, .ref a_up, .ref a_touched, .ref a_todo, .ref a_color, .int a_touches_3, .ref a_painted, .int a_paints])), (a_terms, .inr (11, [.ref a_terms_kind, .ref a_terms_name, .ref a_terms_first, .ref a_terms_many, .ref a_terms_part, .ref a_terms_number, .int a_terms_size, .int a_terms_parts])), (a_terms_kind, .inl (cs 0, a_terms_kind_n, .inl a_terms_kind_f)), (a_terms_name, .inl (cs 0, a_terms_name_n, .inl a_terms_name_f)), (a_terms_first, .inl (cs 0, a_terms_first_n, .inl a_terms_first_f)), (a_terms_many, .inl (cs 0, a_terms_many_n, .inl a_terms_many_f)), (a_terms_part, .inl (cs 0, a_terms_part_n, .inl a_terms_part_f)), (a_terms_number, .inl (cs 2, a_terms_number_n, .inr (.inl a_terms_number_f))), (a_became, .inl (cs 0, a_became_n, .inl a_became_f)), (a_node, .inl (cs 0, a_node_n, .inl a_node_f)), (a_up, .inl (cs 0, a_up_n, .inl a_up_3f)), (a_touched, .inl (cs 0, a_touched_n, .inl a_touched_3f)), (a_todo, .inl (cs 0, a_todo_n, .inl a_todo_3f))]) hP hD [6, 7, 8, 9, 0, 1, 2, 3, 10, 11, 12, 4, 5] rfl (by decide) rfl
                          rw [hQ]
                          exact W.zret (v := 0) hx hb hr rfl (fun t ht hW => ⟨⟨_, (), rfl, rfl, by rw [ht]; exact hP9, hD9⟩, hS.F ht⟩) hS.2.2 d_Mo_classes_272
                        · rw [if_pos h24] at hok
                          refine lv_aload_n hx hb d_Mo_classes_248 rfl (lv_at hl 5 rfl) ?_
                          refine va_get (D := g) (ci := 14) (v := .ref a_terms) (C := R_Mo) (T := F_Mo) (N := 23) hx hb hg ul_Mo hown hK hP 6 rfl rfl 7 (by decide) (hg _ wd_788) (fun _ h9 => h9) rfl d_Mo_classes_249 ?_
                          refine va_get (D := g) (ci := 11) (v := .ref a_terms_many) (C := R_MoTerms) (T := F_MoTerms) (N := 8) hx hb hg ul_MoTerms hown hK hP 7 rfl rfl 3 (by decide) (hg _ wd_808) (fun _ h9 => h9) rfl d_Mo_classes_252 ?_
                          refine lv_iload hx hb d_Mo_classes_255 (lv_at hl 2 rfl) ?_
                          obtain ⟨hi25, hok⟩ := ck_some hok
                          refine va_iald hx hb hK hP 1 0 rfl rfl (ixb_in hi25) d_Mo_classes_257 ?_
                          refine lv_aload_n hx hb d_Mo_classes_258 rfl (lv_at hl 5 rfl) ?_
                          refine va_get (D := g) (ci := 14) (v := .ref a_terms) (C := R_Mo) (T := F_Mo) (N := 23) hx hb hg ul_Mo hown hK hP 6 rfl rfl 7 (by decide) (hg _ wd_788) (fun _ h9 => h9) rfl d_Mo_classes_259 ?_
                          refine va_get (D := g) (ci := 11) (v := .ref a_terms_many) (C := R_MoTerms) (T := F_MoTerms) (N := 8) hx hb hg ul_MoTerms hown hK hP 7 rfl rfl 3 (by decide) (hg _ wd_808) (fun _ h9 => h9) rfl d_Mo_classes_262 ?_
                          refine lv_iload hx hb d_Mo_classes_265 (lv_at hl 4 rfl) ?_
                          obtain ⟨hi26, hok⟩ := ck_some hok
                          refine va_iald hx hb hK hP 1 0 rfl rfl (ixb_in hi26) d_Mo_classes_267 ?_
                          refine lv_icmp_eq hx hb d_Mo_classes_268 rfl (fun h27 => ?_) (fun h27 => ?_)
                          · rw [if_pos h27] at hok
                            refine lv_aload_n hx hb d_Mo_classes_273 rfl (lv_at hl 5 rfl) ?_
                            refine lv_iload hx hb d_Mo_classes_274 (lv_at hl 2 rfl) ?_
                            refine lv_iload hx hb d_Mo_classes_276 (lv_at hl 4 rfl) ?_
                            obtain ⟨⟨a_touches_28, a_up_f_28, a_touched_f_28⟩, hc28, hok⟩ := bd_some hok
                            dsimp only at hok
                            obtain ⟨hPc, hDc, hFc⟩ := cut0 (wc := [(a, .inr (14, [.int a_thrown, .int a_taped, .int a_place, .int a_resulted, .int a_marks, .ref a_tape, .ref a_result, .ref a_terms, .ref a_names, .ref a_reader, .ref a_paper, .ref a_register, .ref a_became, .ref a_node, .ref a_marked, .ref a_markedRegister, .ref a_up, .ref a_touched, .ref a_todo, .ref a_color, .int a_touches_3, .ref a_painted, .int a_paints])), (a_up, .inl (cs 0, a_up_n, .inl a_up_3f)), (a_touched, .inl (cs 0, a_touched_n, .inl a_touched_3f))]) hP hD hS hA [6, 12, 4] (by decide) rfl
                            refine va_callv (va_runV (As := [.int r8, .int r6]) (rest := []) ⟨hx, hb, hml, hown, hg⟩ (c_Mo_join l g cs ka a_tape a_result a_terms a_names a_reader a_paper a_register a_became a_node a_marked a_markedRegister a_todo a_color a_painted a a_up a_touched H.size r8 r6 a_thrown a_taped a_place a_resulted a_marks a_touches_3 a_paints a_up_n a_up_3f a_touched_n a_touched_3f a_touches_28 a_up_f_28 a_touched_f_28 hc28) (cwV (C := R_Mo) 2 hg (gw_V wd_810 wd_811 wd_812 wd_780 wd_809) rfl rfl rfl (by decide +kernel) ⟨Nat.le_of_ble_eq_true rfl, Nat.le_of_ble_eq_true rfl⟩) ⟨gP_blind, va_recv (q0 := 6) (ci := 14) (q := (R_Mo, F_Mo, 23)) hK hP rfl rfl, gP_pre hPc hDc hK hgl hkn hkr hS hFc⟩ rfl rfl hl.1 rfl (lv_room (Nat.le_of_ble_eq_true rfl)) d_Mo_classes_278 ⟨Nat.le_of_ble_eq_true rfl, Nat.le_of_ble_eq_true rfl⟩) hS (fun q _ h => hFc q h) hFc (fun u t H locs ht hvm hr28 hB hz1 hk1 hS => ?_)
                            rw [ht] at hB
                            obtain ⟨hP1, hD1⟩ := hB
                            obtain ⟨hP, hD⟩ := jn_A hP hD [6, 12, 4] [0, 1, 2, 3, 5, 7, 8, 9, 10, 11] rfl rfl (by decide) (by decide) hk1 hFc hP1 hD1
                            obtain ⟨hP, hD⟩ : PD g A H [(a_terms_first, .inl (cs 0, a_terms_first_n, .inl a_terms_first_f)), (a_terms_many, .inl (cs 0, a_terms_many_n, .inl a_terms_many_f)), (a_terms_part, .inl (cs 0, a_terms_part_n, .inl a_terms_part_f)), (a_terms_number, .inl (cs 2, a_terms_number_n, .inr (.inl a_terms_number_f))), (a_todo, .inl (cs 0, a_todo_n, .inl a_todo_3f)), (a_terms, .inr (11, [.ref a_terms_kind, .ref a_terms_name, .ref a_terms_first, .ref a_terms_many, .ref a_terms_part, .ref a_terms_number, .int a_terms_size, .int a_terms_parts])), (a_terms_kind, .inl (cs 0, a_terms_kind_n, .inl a_terms_kind_f)), (a_terms_name, .inl (cs 0, a_terms_name_n, .inl a_terms_name_f)), (a_became, .inl (cs 0, a_became_n, .inl a_became_f)), (a_node, .inl (cs 0, a_node_n, .inl a_node_f)), (a, .inr (14, [.int a_thrown, .int a_taped, .int a_place, .int a_resulted, .int a_marks, .ref a_tape, .ref a_result, .ref a_terms, .ref a_names, .ref a_reader, .ref a_paper, .ref a_register, .ref a_became, .ref a_node, .ref a_marked, .ref a_markedRegister, .ref a_up, .ref a_touched, .ref a_todo, .ref a_color, .int a_touches_28, .ref a_painted, .int a_paints])), (a_up, .inl (cs 0, a_up_n, .inl a_up_f_28)), (a_touched, .inl (cs 0, a_touched_n, .inl a_touched_f_28))] := ⟨hP, hD⟩
                            refine lv_aload_n hx hb d_Mo_classes_281 rfl (lv_at hl 5 rfl) ?_
                            refine va_get (D := g) (ci := 14) (v := .ref a_terms) (C := R_Mo) (T := F_Mo) (N := 23) hx hb hg ul_Mo hown hK hP 10 rfl rfl 7 (by decide) (hg _ wd_788) (fun _ h9 => h9) rfl d_Mo_classes_282 ?_
                            refine va_get (D := g) (ci := 11) (v := .ref a_terms_many) (C := R_MoTerms) (T := F_MoTerms) (N := 8) hx hb hg ul_MoTerms hown hK hP 5 rfl rfl 3 (by decide) (hg _ wd_808) (fun _ h9 => h9) rfl d_Mo_classes_285 ?_
                            refine lv_iload hx hb d_Mo_classes_288 (lv_at hl 2 rfl) ?_
                            obtain ⟨hi29, hok⟩ := ck_some hok
                            refine va_iald hx hb hK hP 1 0 rfl rfl (ixb_in hi29) d_Mo_classes_290 ?_
                            refine lv_iconst (v := 1) hx hb d_Mo_classes_291 (by decide) ?_
                            refine lv_isub hx hb d_Mo_classes_292 ?_
                            refine lv_istore hx hb d_Mo_classes_293 hl (by decide) rfl (fun ls hl => ?_)
                            have hl : lv_has ls 10 [(9, .int ((a_terms_many_f r8.toNatClampNeg) - 1)), (8, .int y0_13), (7, .int y0_11), (6, .int r8), (4, .int ((x4_3 + (-1)) + (-1))), (5, .int r6), (0, .ref a), (1, .int x), (2, .int y), (3, .int bind_)] := hl
                            have J30 : ∀ (kf30 : Nat) (H : Heap) (locs : List Loc) (ls : Array Slot) (x9_30 : Int32) (x4_30 : Int32) (a_todo_30f : Nat → Int32), lv_has ls 10 [(9, .int x9_30), (8, .int y0_13), (7, .int y0_11), (6, .int r8), (4, .int x4_30), (5, .int r6), (0, .ref a), (1, .int x), (2, .int y), (3, .int bind_)] → PD g A H [(a_terms_first, .inl (cs 0, a_terms_first_n, .inl a_terms_first_f)), (a_terms_many, .inl (cs 0, a_terms_many_n, .inl a_terms_many_f)), (a_terms_part, .inl (cs 0, a_terms_part_n, .inl a_terms_part_f)), (a_terms_number, .inl (cs 2, a_terms_number_n, .inr (.inl a_terms_number_f))), (a_todo, .inl (cs 0, a_todo_n, .inl a_todo_30f)), (a_terms, .inr (11, [.ref a_terms_kind, .ref a_terms_name, .ref a_terms_first, .ref a_terms_many, .ref a_terms_part, .ref a_terms_number, .int a_terms_size, .int a_terms_parts])), (a_terms_kind, .inl (cs 0, a_terms_kind_n, .inl a_terms_kind_f)), (a_terms_name, .inl (cs 0, a_terms_name_n, .inl a_terms_name_f)), (a_became, .inl (cs 0, a_became_n, .inl a_became_f)), (a_node, .inl (cs 0, a_node_n, .inl a_node_f)), (a, .inr (14, [.int a_thrown, .int a_taped, .int a_place, .int a_resulted, .int a_marks, .ref a_tape, .ref a_result, .ref a_terms, .ref a_names, .ref a_reader, .ref a_paper, .ref a_register, .ref a_became, .ref a_node, .ref a_marked, .ref a_markedRegister, .ref a_up, .ref a_touched, .ref a_todo, .ref a_color, .int a_touches_28, .ref a_painted, .int a_paints])), (a_up, .inl (cs 0, a_up_n, .inl a_up_f_28)), (a_touched, .inl (cs 0, a_touched_n, .inl a_touched_f_28))] → va_S A s.heap H locs → p_Mo_classes_295 n a_terms_size a_terms_parts a_terms_first_n a_terms_first_f a_terms_part_n a_terms_part_f a_todo_n r6 r8 a_touches_28 a_up_f_28 a_touched_f_28 (fun w0 w1 w2 w3 w4 => p_Mo_classes_25 n bind_ a_thrown a_taped a_place a_resulted a_marks a_paints a_terms_size a_terms_parts a_terms_kind_n a_terms_kind_f a_terms_name_n a_terms_name_f a_terms_first_n a_terms_first_f a_terms_many_n a_terms_many_f a_terms_part_n a_terms_part_f a_terms_number_n a_terms_number_f a_became_n a_became_f a_node_n a_node_f a_up_n a_touched_n a_todo_n kf3 w0 w1 w2 w3 w4) kf30 x9_30 x4_30 a_todo_30f = some (r, o_a_touches, o_a_up_f, o_a_touched_f, o_a_todo_f) → W p l e (headSpec (.code y_Mo_classes b_Mo_classes 10 (some .boolean) :: GW) { frames := 2, cells := 0, slots := 0, locals := 45 }).room s m ([.ref a, .int x, .int y, .int bind_] : List Value).toArray below meth c H locs 0 0 Q (F0 m 295 ls []) := by
                              intro kf30
                              induction kf30 with
                              | zero => intro H locs ls x9_30 x4_30 a_todo_30f hl ⟨hP, hD⟩ hS hok; rw [p_Mo_classes_295] at hok; cases hok
                              | succ kf30 ih30 =>
                                intro H locs ls x9_30 x4_30 a_todo_30f hl ⟨hP, hD⟩ hS hok
                                rw [p_Mo_classes_295] at hok
                                refine lv_iload hx hb d_Mo_classes_295 (lv_at hl 0 rfl) ?_
                                refine lv_if_lt hx hb d_Mo_classes_297 rfl (fun h31 => ?_) (fun h31 => ?_)
                                · rw [if_pos h31] at hok
                                  refine lv_goto hx hb d_Mo_classes_348 rfl ?_
                                  exact ih3 _ _ _ x4_30 a_touches_28 a_up_f_28 a_touched_f_28 a_todo_30f (lv_sub hl [4, 6, 7, 8, 9] rfl) (sub3 hP hD [10, 5, 6, 7, 0, 1, 2, 3, 8, 9, 11, 12, 4] (by decide)) hS hok
                                · rw [if_neg h31] at hok
                                  refine lv_aload_n hx hb d_Mo_classes_300 rfl (lv_at hl 6 rfl) ?_
                                  refine va_get (D := g) (ci := 14) (v := .ref a_todo) (C := R_Mo) (T := F_Mo) (N := 23) hx hb hg ul_Mo hown hK hP 10 rfl rfl 18 (by decide) (hg _ wd_803) (fun _ h9 => h9) rfl d_Mo_classes_301 ?_
                                  refine lv_iload hx hb d_Mo_classes_304 (lv_at hl 4 rfl) ?_
                                  refine lv_iinc (k := 4) (v := x4_30 + 1) hx hb d_Mo_classes_306 hl rfl rfl (by decide) rfl (fun ls hl => ?_)
                                  have hl : lv_has ls 10 [(4, .int (x4_30 + 1)), (9, .int x9_30), (8, .int y0_13), (7, .int y0_11), (6, .int r8), (5, .int r6), (0, .ref a), (1, .int x), (2, .int y), (3, .int bind_)] := hl
                                  refine lv_aload_n hx hb d_Mo_classes_309 rfl (lv_at hl 6 rfl) ?_
                                  refine va_get (D := g) (ci := 14) (v := .ref a_terms) (C := R_Mo) (T := F_Mo) (N := 23) hx hb hg ul_Mo hown hK hP 10 rfl rfl 7 (by decide) (hg _ wd_788) (fun _ h9 => h9) rfl d_Mo_classes_310 ?_
                                  refine lv_iload hx hb d_Mo_classes_313 (lv_at hl 4 rfl) ?_
                                  refine lv_iload hx hb d_Mo_classes_315 (lv_at hl 1 rfl) ?_
                                  obtain ⟨r32, hc32, hok⟩ := bd_some hok
                                  obtain ⟨hPc, hDc, hFc⟩ := cut0 (wc := [(a_terms, .inr (11, [.ref a_terms_kind, .ref a_terms_name, .ref a_terms_first, .ref a_terms_many, .ref a_terms_part, .ref a_terms_number, .int a_terms_size, .int a_terms_parts])), (a_terms_first, .inl (cs 0, a_terms_first_n, .inl a_terms_first_f)), (a_terms_part, .inl (cs 0, a_terms_part_n, .inl a_terms_part_f))]) hP hD hS hA [5, 0, 2] (by decide) rfl
                                  refine va_calli (va_runV (As := [.int r8, .int x9_30]) (rest := [.int x4_30, .ref a_todo]) ⟨hx, hb, hml, hown, hg⟩ (c_MoTerms_part l g cs ka a_terms_kind a_terms_name a_terms_many a_terms_number a_terms a_terms_first a_terms_part H.size r8 x9_30 a_terms_size a_terms_parts a_terms_first_n a_terms_first_f a_terms_part_n a_terms_part_f r32 hc32) (cwV (C := R_MoTerms) 2 hg (gw_V wd_813 wd_769 wd_770 wd_767 wd_766) rfl rfl rfl (by decide +kernel) ⟨Nat.le_of_ble_eq_true rfl, Nat.le_of_ble_eq_true rfl⟩) ⟨gP_blind, va_recv (q0 := 5) (ci := 11) (q := (R_MoTerms, F_MoTerms, 8)) hK hP rfl rfl, gP_pre hPc hDc hK hgl hkn hkr hS hFc⟩ rfl rfl hl.1 rfl (lv_room (Nat.le_of_ble_eq_true rfl)) d_Mo_classes_317 ⟨Nat.le_of_ble_eq_true rfl, Nat.le_of_ble_eq_true rfl⟩) hS (fun q _ h => hFc q h) hFc (fun r32' u t H locs ht hvm hr32 hB hz1 hk1 hS => ?_)
                                  subst hr32
                                  rw [ht] at hB
                                  obtain ⟨hP1, hD1⟩ := hB
                                  obtain ⟨hP, hD⟩ := jn_A hP hD [5, 0, 2] [1, 3, 4, 6, 7, 8, 9, 10, 11, 12] rfl rfl (by decide) (by decide) hk1 hFc hP1 hD1
                                  obtain ⟨hP, hD⟩ : PD g A H [(a_terms_many, .inl (cs 0, a_terms_many_n, .inl a_terms_many_f)), (a_terms_number, .inl (cs 2, a_terms_number_n, .inr (.inl a_terms_number_f))), (a_todo, .inl (cs 0, a_todo_n, .inl a_todo_30f)), (a_terms_kind, .inl (cs 0, a_terms_kind_n, .inl a_terms_kind_f)), (a_terms_name, .inl (cs 0, a_terms_name_n, .inl a_terms_name_f)), (a_became, .inl (cs 0, a_became_n, .inl a_became_f)), (a_node, .inl (cs 0, a_node_n, .inl a_node_f)), (a, .inr (14, [.int a_thrown, .int a_taped, .int a_place, .int a_resulted, .int a_marks, .ref a_tape, .ref a_result, .ref a_terms, .ref a_names, .ref a_reader, .ref a_paper, .ref a_register, .ref a_became, .ref a_node, .ref a_marked, .ref a_markedRegister, .ref a_up, .ref a_touched, .ref a_todo, .ref a_color, .int a_touches_28, .ref a_painted, .int a_paints])), (a_up, .inl (cs 0, a_up_n, .inl a_up_f_28)), (a_touched, .inl (cs 0, a_touched_n, .inl a_touched_f_28)), (a_terms, .inr (11, [.ref a_terms_kind, .ref a_terms_name, .ref a_terms_first, .ref a_terms_many, .ref a_terms_part, .ref a_terms_number, .int a_terms_size, .int a_terms_parts])), (a_terms_first, .inl (cs 0, a_terms_first_n, .inl a_terms_first_f)), (a_terms_part, .inl (cs 0, a_terms_part_n, .inl a_terms_part_f))] := ⟨hP, hD⟩
                                  obtain ⟨hi33, hok⟩ := ck_some hok
                                  refine va_iast hx hb hK hP hD hS 2 0 rfl rfl (ixb_in hi33) d_Mo_classes_320 (fun H locs hP hD hS => ?_)
                                  obtain ⟨hP, hD⟩ : PD g A H [(a_terms_many, .inl (cs 0, a_terms_many_n, .inl a_terms_many_f)), (a_terms_number, .inl (cs 2, a_terms_number_n, .inr (.inl a_terms_number_f))), (a_todo, .inl (cs 0, a_todo_n, .inl (upd a_todo_30f x4_30.toNatClampNeg r32))), (a_terms_kind, .inl (cs 0, a_terms_kind_n, .inl a_terms_kind_f)), (a_terms_name, .inl (cs 0, a_terms_name_n, .inl a_terms_name_f)), (a_became, .inl (cs 0, a_became_n, .inl a_became_f)), (a_node, .inl (cs 0, a_node_n, .inl a_node_f)), (a, .inr (14, [.int a_thrown, .int a_taped, .int a_place, .int a_resulted, .int a_marks, .ref a_tape, .ref a_result, .ref a_terms, .ref a_names, .ref a_reader, .ref a_paper, .ref a_register, .ref a_became, .ref a_node, .ref a_marked, .ref a_markedRegister, .ref a_up, .ref a_touched, .ref a_todo, .ref a_color, .int a_touches_28, .ref a_painted, .int a_paints])), (a_up, .inl (cs 0, a_up_n, .inl a_up_f_28)), (a_touched, .inl (cs 0, a_touched_n, .inl a_touched_f_28)), (a_terms, .inr (11, [.ref a_terms_kind, .ref a_terms_name, .ref a_terms_first, .ref a_terms_many, .ref a_terms_part, .ref a_terms_number, .int a_terms_size, .int a_terms_parts])), (a_terms_first, .inl (cs 0, a_terms_first_n, .inl a_terms_first_f)), (a_terms_part, .inl (cs 0, a_terms_part_n, .inl a_terms_part_f))] := ⟨hP, hD⟩
                                  refine lv_aload_n hx hb d_Mo_classes_321 rfl (lv_at hl 6 rfl) ?_
                                  refine va_get (D := g) (ci := 14) (v := .ref a_todo) (C := R_Mo) (T := F_Mo) (N := 23) hx hb hg ul_Mo hown hK hP 7 rfl rfl 18 (by decide) (hg _ wd_803) (fun _ h9 => h9) rfl d_Mo_classes_322 ?_
                                  refine lv_iload hx hb d_Mo_classes_325 (lv_at hl 0 rfl) ?_
                                  refine lv_iinc (k := 0) (v := (x4_30 + 1) + 1) hx hb d_Mo_classes_327 hl rfl rfl (by decide) rfl (fun ls hl => ?_)
                                  have hl : lv_has ls 10 [(4, .int ((x4_30 + 1) + 1)), (9, .int x9_30), (8, .int y0_13), (7, .int y0_11), (6, .int r8), (5, .int r6), (0, .ref a), (1, .int x), (2, .int y), (3, .int bind_)] := hl
                                  refine lv_aload_n hx hb d_Mo_classes_330 rfl (lv_at hl 6 rfl) ?_
                                  refine va_get (D := g) (ci := 14) (v := .ref a_terms) (C := R_Mo) (T := F_Mo) (N := 23) hx hb hg ul_Mo hown hK hP 7 rfl rfl 7 (by decide) (hg _ wd_788) (fun _ h9 => h9) rfl d_Mo_classes_331 ?_
                                  refine lv_iload hx hb d_Mo_classes_334 (lv_at hl 5 rfl) ?_
                                  refine lv_iload hx hb d_Mo_classes_336 (lv_at hl 1 rfl) ?_
                                  obtain ⟨r34, hc34, hok⟩ := bd_some hok
                                  obtain ⟨hPc, hDc, hFc⟩ := cut0 (wc := [(a_terms, .inr (11, [.ref a_terms_kind, .ref a_terms_name, .ref a_terms_first, .ref a_terms_many, .ref a_terms_part, .ref a_terms_number, .int a_terms_size, .int a_terms_parts])), (a_terms_first, .inl (cs 0, a_terms_first_n, .inl a_terms_first_f)), (a_terms_part, .inl (cs 0, a_terms_part_n, .inl a_terms_part_f))]) hP hD hS hA [10, 11, 12] (by decide) rfl
                                  refine va_calli (va_runV (As := [.int r6, .int x9_30]) (rest := [.int (x4_30 + 1), .ref a_todo]) ⟨hx, hb, hml, hown, hg⟩ (c_MoTerms_part l g cs ka a_terms_kind a_terms_name a_terms_many a_terms_number a_terms a_terms_first a_terms_part H.size r6 x9_30 a_terms_size a_terms_parts a_terms_first_n a_terms_first_f a_terms_part_n a_terms_part_f r34 hc34) (cwV (C := R_MoTerms) 2 hg (gw_V wd_813 wd_769 wd_770 wd_767 wd_766) rfl rfl rfl (by decide +kernel) ⟨Nat.le_of_ble_eq_true rfl, Nat.le_of_ble_eq_true rfl⟩) ⟨gP_blind, va_recv (q0 := 10) (ci := 11) (q := (R_MoTerms, F_MoTerms, 8)) hK hP rfl rfl, gP_pre hPc hDc hK hgl hkn hkr hS hFc⟩ rfl rfl hl.1 rfl (lv_room (Nat.le_of_ble_eq_true rfl)) d_Mo_classes_338 ⟨Nat.le_of_ble_eq_true rfl, Nat.le_of_ble_eq_true rfl⟩) hS (fun q _ h => hFc q h) hFc (fun r34' u t H locs ht hvm hr34 hB hz1 hk1 hS => ?_)
                                  subst hr34
                                  rw [ht] at hB
                                  obtain ⟨hP1, hD1⟩ := hB
                                  obtain ⟨hP, hD⟩ := jn_A hP hD [10, 11, 12] [0, 1, 2, 3, 4, 5, 6, 7, 8, 9] rfl rfl (by decide) (by decide) hk1 hFc hP1 hD1
                                  obtain ⟨hP, hD⟩ : PD g A H [(a_terms_many, .inl (cs 0, a_terms_many_n, .inl a_terms_many_f)), (a_terms_number, .inl (cs 2, a_terms_number_n, .inr (.inl a_terms_number_f))), (a_todo, .inl (cs 0, a_todo_n, .inl (upd a_todo_30f x4_30.toNatClampNeg r32))), (a_terms_kind, .inl (cs 0, a_terms_kind_n, .inl a_terms_kind_f)), (a_terms_name, .inl (cs 0, a_terms_name_n, .inl a_terms_name_f)), (a_became, .inl (cs 0, a_became_n, .inl a_became_f)), (a_node, .inl (cs 0, a_node_n, .inl a_node_f)), (a, .inr (14, [.int a_thrown, .int a_taped, .int a_place, .int a_resulted, .int a_marks, .ref a_tape, .ref a_result, .ref a_terms, .ref a_names, .ref a_reader, .ref a_paper, .ref a_register, .ref a_became, .ref a_node, .ref a_marked, .ref a_markedRegister, .ref a_up, .ref a_touched, .ref a_todo, .ref a_color, .int a_touches_28, .ref a_painted, .int a_paints])), (a_up, .inl (cs 0, a_up_n, .inl a_up_f_28)), (a_touched, .inl (cs 0, a_touched_n, .inl a_touched_f_28)), (a_terms, .inr (11, [.ref a_terms_kind, .ref a_terms_name, .ref a_terms_first, .ref a_terms_many, .ref a_terms_part, .ref a_terms_number, .int a_terms_size, .int a_terms_parts])), (a_terms_first, .inl (cs 0, a_terms_first_n, .inl a_terms_first_f)), (a_terms_part, .inl (cs 0, a_terms_part_n, .inl a_terms_part_f))] := ⟨hP, hD⟩
                                  obtain ⟨hi35, hok⟩ := ck_some hok
                                  refine va_iast hx hb hK hP hD hS 2 0 rfl rfl (ixb_in hi35) d_Mo_classes_341 (fun H locs hP hD hS => ?_)
                                  obtain ⟨hP, hD⟩ : PD g A H [(a_terms_many, .inl (cs 0, a_terms_many_n, .inl a_terms_many_f)), (a_terms_number, .inl (cs 2, a_terms_number_n, .inr (.inl a_terms_number_f))), (a_todo, .inl (cs 0, a_todo_n, .inl (upd (upd a_todo_30f x4_30.toNatClampNeg r32) (x4_30 + 1).toNatClampNeg r34))), (a_terms_kind, .inl (cs 0, a_terms_kind_n, .inl a_terms_kind_f)), (a_terms_name, .inl (cs 0, a_terms_name_n, .inl a_terms_name_f)), (a_became, .inl (cs 0, a_became_n, .inl a_became_f)), (a_node, .inl (cs 0, a_node_n, .inl a_node_f)), (a, .inr (14, [.int a_thrown, .int a_taped, .int a_place, .int a_resulted, .int a_marks, .ref a_tape, .ref a_result, .ref a_terms, .ref a_names, .ref a_reader, .ref a_paper, .ref a_register, .ref a_became, .ref a_node, .ref a_marked, .ref a_markedRegister, .ref a_up, .ref a_touched, .ref a_todo, .ref a_color, .int a_touches_28, .ref a_painted, .int a_paints])), (a_up, .inl (cs 0, a_up_n, .inl a_up_f_28)), (a_touched, .inl (cs 0, a_touched_n, .inl a_touched_f_28)), (a_terms, .inr (11, [.ref a_terms_kind, .ref a_terms_name, .ref a_terms_first, .ref a_terms_many, .ref a_terms_part, .ref a_terms_number, .int a_terms_size, .int a_terms_parts])), (a_terms_first, .inl (cs 0, a_terms_first_n, .inl a_terms_first_f)), (a_terms_part, .inl (cs 0, a_terms_part_n, .inl a_terms_part_f))] := ⟨hP, hD⟩
                                  refine lv_iinc (k := 1) (v := x9_30 + (-1)) hx hb d_Mo_classes_342 hl rfl rfl (by decide) rfl (fun ls hl => ?_)
                                  have hl : lv_has ls 10 [(9, .int (x9_30 + (-1))), (4, .int ((x4_30 + 1) + 1)), (8, .int y0_13), (7, .int y0_11), (6, .int r8), (5, .int r6), (0, .ref a), (1, .int x), (2, .int y), (3, .int bind_)] := hl
                                  refine lv_goto hx hb d_Mo_classes_345 rfl ?_
                                  exact ih30 _ _ _ (x9_30 + (-1)) ((x4_30 + 1) + 1) (upd (upd a_todo_30f x4_30.toNatClampNeg r32) (x4_30 + 1).toNatClampNeg r34) (lv_sub hl [0, 2, 3, 4, 1, 5, 6, 7, 8, 9] rfl) (sub3 hP hD [11, 0, 12, 1, 2, 10, 3, 4, 5, 6, 7, 8, 9] (by decide)) hS hok
                            exact J30 n H locs ls ((a_terms_many_f r8.toNatClampNeg) - 1) ((x4_3 + (-1)) + (-1)) a_todo_3f hl ⟨hP, hD⟩ hS hok
                          · rw [if_neg h27] at hok
                            refine lv_iconst (v := 0) hx hb d_Mo_classes_271 (by decide) ?_
                            have hq := Option.some.inj hok
                            obtain ⟨hq0, hq⟩ := Prod.mk.inj hq
                            obtain ⟨hq1, hq⟩ := Prod.mk.inj hq
                            obtain ⟨hq2, hq⟩ := Prod.mk.inj hq
                            obtain ⟨hq3, hq⟩ := Prod.mk.inj hq
                            have hq4 := hq
                            subst hq0
                            subst hq1
                            subst hq2
                            subst hq3
                            subst hq4
                            obtain ⟨hP9, hD9⟩ := sub2 (ws' := [(a, .inr (14, [.int a_thrown, .int a_taped, .int a_place, .int a_resulted, .int a_marks, .ref a_tape, .ref a_result, .ref a_terms, .ref a_names, .ref a_reader, .ref a_paper, .ref a_register, .ref a_became, .ref a_node, .ref a_marked, .ref a_markedRegister, .ref a_up, .ref a_touched, .ref a_todo, .ref a_color, .int a_touches_3, .ref a_painted, .int a_paints])), (a_terms, .inr (11, [.ref a_terms_kind, .ref a_terms_name, .ref a_terms_first, .ref a_terms_many, .ref a_terms_part, .ref a_terms_number, .int a_terms_size, .int a_terms_parts])), (a_terms_kind, .inl (cs 0, a_terms_kind_n, .inl a_terms_kind_f)), (a_terms_name, .inl (cs 0, a_terms_name_n, .inl a_terms_name_f)), (a_terms_first, .inl (cs 0, a_terms_first_n, .inl a_terms_first_f)), (a_terms_many, .inl (cs 0, a_terms_many_n, .inl a_terms_many_f)), (a_terms_part, .inl (cs 0, a_terms_part_n, .inl a_terms_part_f)), (a_terms_number, .inl (cs 2, a_terms_number_n, .inr (.inl a_terms_number_f))), (a_became, .inl (cs 0, a_became_n, .inl a_became_f)), (a_node, .inl (cs 0, a_node_n, .inl a_node_f)), (a_up, .inl (cs 0, a_up_n, .inl a_up_3f)), (a_touched, .inl (cs 0, a_touched_n, .inl a_touched_3f)), (a_todo, .inl (cs 0, a_todo_n, .inl a_todo_3f))]) hP hD [6, 7, 8, 9, 0, 1, 2, 3, 10, 11, 12, 4, 5] rfl (by decide) rfl
                            rw [hQ]
                            exact W.zret (v := 0) hx hb hr rfl (fun t ht hW => ⟨⟨_, (), rfl, rfl, by rw [ht]; exact hP9, hD9⟩, hS.F ht⟩) hS.2.2 d_Mo_classes_272
                      · rw [if_pos h21] at hok
                        refine lv_aload_n hx hb d_Mo_classes_199 rfl (lv_at hl 5 rfl) ?_
                        refine va_get (D := g) (ci := 14) (v := .ref a_terms) (C := R_Mo) (T := F_Mo) (N := 23) hx hb hg ul_Mo hown hK hP 6 rfl rfl 7 (by decide) (hg _ wd_788) (fun _ h9 => h9) rfl d_Mo_classes_200 ?_
                        refine va_get (D := g) (ci := 11) (v := .ref a_terms_number) (C := R_MoTerms) (T := F_MoTerms) (N := 8) hx hb hg ul_MoTerms hown hK hP 7 rfl rfl 5 (by decide) (hg _ wd_814) (fun _ h9 => h9) rfl d_Mo_classes_203 ?_
                        refine lv_iload hx hb d_Mo_classes_206 (lv_at hl 2 rfl) ?_
                        obtain ⟨hi36, hok⟩ := ck_some hok
                        refine va_lald hx hb hK hP 3 2 rfl rfl (ixb_in hi36) d_Mo_classes_208 ?_
                        refine lv_aload_n hx hb d_Mo_classes_209 rfl (lv_at hl 5 rfl) ?_
                        refine va_get (D := g) (ci := 14) (v := .ref a_terms) (C := R_Mo) (T := F_Mo) (N := 23) hx hb hg ul_Mo hown hK hP 6 rfl rfl 7 (by decide) (hg _ wd_788) (fun _ h9 => h9) rfl d_Mo_classes_210 ?_
                        refine va_get (D := g) (ci := 11) (v := .ref a_terms_number) (C := R_MoTerms) (T := F_MoTerms) (N := 8) hx hb hg ul_MoTerms hown hK hP 7 rfl rfl 5 (by decide) (hg _ wd_814) (fun _ h9 => h9) rfl d_Mo_classes_213 ?_
                        refine lv_iload hx hb d_Mo_classes_216 (lv_at hl 4 rfl) ?_
                        obtain ⟨hi37, hok⟩ := ck_some hok
                        refine va_lald hx hb hK hP 3 2 rfl rfl (ixb_in hi37) d_Mo_classes_218 ?_
                        refine W.lcmp hx hb d_Mo_classes_219 ?_
                        refine lv_if_eq hx hb d_Mo_classes_220 rfl (fun h38 => ?_) (fun h38 => ?_)
                        · rw [if_pos h38] at hok
                          exact ih3 _ _ _ ((x4_3 + (-1)) + (-1)) a_touches_3 a_up_3f a_touched_3f a_todo_3f (lv_sub hl [3, 5, 6, 7, 8] rfl) (sub3 hP hD [6, 7, 8, 9, 0, 1, 2, 3, 10, 11, 12, 4, 5] (by decide)) hS hok
                        · rw [if_neg h38] at hok
                          refine lv_iconst (v := 0) hx hb d_Mo_classes_223 (by decide) ?_
                          have hq := Option.some.inj hok
                          obtain ⟨hq0, hq⟩ := Prod.mk.inj hq
                          obtain ⟨hq1, hq⟩ := Prod.mk.inj hq
                          obtain ⟨hq2, hq⟩ := Prod.mk.inj hq
                          obtain ⟨hq3, hq⟩ := Prod.mk.inj hq
                          have hq4 := hq
                          subst hq0
                          subst hq1
                          subst hq2
                          subst hq3
                          subst hq4
                          obtain ⟨hP9, hD9⟩ := sub2 (ws' := [(a, .inr (14, [.int a_thrown, .int a_taped, .int a_place, .int a_resulted, .int a_marks, .ref a_tape, .ref a_result, .ref a_terms, .ref a_names, .ref a_reader, .ref a_paper, .ref a_register, .ref a_became, .ref a_node, .ref a_marked, .ref a_markedRegister, .ref a_up, .ref a_touched, .ref a_todo, .ref a_color, .int a_touches_3, .ref a_painted, .int a_paints])), (a_terms, .inr (11, [.ref a_terms_kind, .ref a_terms_name, .ref a_terms_first, .ref a_terms_many, .ref a_terms_part, .ref a_terms_number, .int a_terms_size, .int a_terms_parts])), (a_terms_kind, .inl (cs 0, a_terms_kind_n, .inl a_terms_kind_f)), (a_terms_name, .inl (cs 0, a_terms_name_n, .inl a_terms_name_f)), (a_terms_first, .inl (cs 0, a_terms_first_n, .inl a_terms_first_f)), (a_terms_many, .inl (cs 0, a_terms_many_n, .inl a_terms_many_f)), (a_terms_part, .inl (cs 0, a_terms_part_n, .inl a_terms_part_f)), (a_terms_number, .inl (cs 2, a_terms_number_n, .inr (.inl a_terms_number_f))), (a_became, .inl (cs 0, a_became_n, .inl a_became_f)), (a_node, .inl (cs 0, a_node_n, .inl a_node_f)), (a_up, .inl (cs 0, a_up_n, .inl a_up_3f)), (a_touched, .inl (cs 0, a_touched_n, .inl a_touched_3f)), (a_todo, .inl (cs 0, a_todo_n, .inl a_todo_3f))]) hP hD [6, 7, 8, 9, 0, 1, 2, 3, 10, 11, 12, 4, 5] rfl (by decide) rfl
                          rw [hQ]
                          exact W.zret (v := 0) hx hb hr rfl (fun t ht hW => ⟨⟨_, (), rfl, rfl, by rw [ht]; exact hP9, hD9⟩, hS.F ht⟩) hS.2.2 d_Mo_classes_224
                    · rw [if_neg h19] at hok
                      refine lv_iconst (v := 0) hx hb d_Mo_classes_183 (by decide) ?_
                      have hq := Option.some.inj hok
                      obtain ⟨hq0, hq⟩ := Prod.mk.inj hq
                      obtain ⟨hq1, hq⟩ := Prod.mk.inj hq
                      obtain ⟨hq2, hq⟩ := Prod.mk.inj hq
                      obtain ⟨hq3, hq⟩ := Prod.mk.inj hq
                      have hq4 := hq
                      subst hq0
                      subst hq1
                      subst hq2
                      subst hq3
                      subst hq4
                      obtain ⟨hP9, hD9⟩ := sub2 (ws' := [(a, .inr (14, [.int a_thrown, .int a_taped, .int a_place, .int a_resulted, .int a_marks, .ref a_tape, .ref a_result, .ref a_terms, .ref a_names, .ref a_reader, .ref a_paper, .ref a_register, .ref a_became, .ref a_node, .ref a_marked, .ref a_markedRegister, .ref a_up, .ref a_touched, .ref a_todo, .ref a_color, .int a_touches_3, .ref a_painted, .int a_paints])), (a_terms, .inr (11, [.ref a_terms_kind, .ref a_terms_name, .ref a_terms_first, .ref a_terms_many, .ref a_terms_part, .ref a_terms_number, .int a_terms_size, .int a_terms_parts])), (a_terms_kind, .inl (cs 0, a_terms_kind_n, .inl a_terms_kind_f)), (a_terms_name, .inl (cs 0, a_terms_name_n, .inl a_terms_name_f)), (a_terms_first, .inl (cs 0, a_terms_first_n, .inl a_terms_first_f)), (a_terms_many, .inl (cs 0, a_terms_many_n, .inl a_terms_many_f)), (a_terms_part, .inl (cs 0, a_terms_part_n, .inl a_terms_part_f)), (a_terms_number, .inl (cs 2, a_terms_number_n, .inr (.inl a_terms_number_f))), (a_became, .inl (cs 0, a_became_n, .inl a_became_f)), (a_node, .inl (cs 0, a_node_n, .inl a_node_f)), (a_up, .inl (cs 0, a_up_n, .inl a_up_3f)), (a_touched, .inl (cs 0, a_touched_n, .inl a_touched_3f)), (a_todo, .inl (cs 0, a_todo_n, .inl a_todo_3f))]) hP hD [6, 7, 8, 9, 0, 1, 2, 3, 10, 11, 12, 4, 5] rfl (by decide) rfl
                      rw [hQ]
                      exact W.zret (v := 0) hx hb hr rfl (fun t ht hW => ⟨⟨_, (), rfl, rfl, by rw [ht]; exact hP9, hD9⟩, hS.F ht⟩) hS.2.2 d_Mo_classes_184
                  · rw [if_neg h16] at hok
                    refine lv_aload_n hx hb d_Mo_classes_149 rfl (lv_at hl 5 rfl) ?_
                    refine lv_iload hx hb d_Mo_classes_150 (lv_at hl 4 rfl) ?_
                    refine lv_iload hx hb d_Mo_classes_152 (lv_at hl 2 rfl) ?_
                    obtain ⟨⟨a_touches_39, a_up_f_39, a_touched_f_39⟩, hc39, hok⟩ := bd_some hok
                    dsimp only at hok
                    obtain ⟨hPc, hDc, hFc⟩ := cut0 (wc := [(a, .inr (14, [.int a_thrown, .int a_taped, .int a_place, .int a_resulted, .int a_marks, .ref a_tape, .ref a_result, .ref a_terms, .ref a_names, .ref a_reader, .ref a_paper, .ref a_register, .ref a_became, .ref a_node, .ref a_marked, .ref a_markedRegister, .ref a_up, .ref a_touched, .ref a_todo, .ref a_color, .int a_touches_3, .ref a_painted, .int a_paints])), (a_up, .inl (cs 0, a_up_n, .inl a_up_3f)), (a_touched, .inl (cs 0, a_touched_n, .inl a_touched_3f))]) hP hD hS hA [6, 12, 4] (by decide) rfl
                    refine va_callv (va_runV (As := [.int r6, .int r8]) (rest := []) ⟨hx, hb, hml, hown, hg⟩ (c_Mo_join l g cs ka a_tape a_result a_terms a_names a_reader a_paper a_register a_became a_node a_marked a_markedRegister a_todo a_color a_painted a a_up a_touched H.size r6 r8 a_thrown a_taped a_place a_resulted a_marks a_touches_3 a_paints a_up_n a_up_3f a_touched_n a_touched_3f a_touches_39 a_up_f_39 a_touched_f_39 hc39) (cwV (C := R_Mo) 2 hg (gw_V wd_810 wd_811 wd_812 wd_780 wd_809) rfl rfl rfl (by decide +kernel) ⟨Nat.le_of_ble_eq_true rfl, Nat.le_of_ble_eq_true rfl⟩) ⟨gP_blind, va_recv (q0 := 6) (ci := 14) (q := (R_Mo, F_Mo, 23)) hK hP rfl rfl, gP_pre hPc hDc hK hgl hkn hkr hS hFc⟩ rfl rfl hl.1 rfl (lv_room (Nat.le_of_ble_eq_true rfl)) d_Mo_classes_154 ⟨Nat.le_of_ble_eq_true rfl, Nat.le_of_ble_eq_true rfl⟩) hS (fun q _ h => hFc q h) hFc (fun u t H locs ht hvm hr39 hB hz1 hk1 hS => ?_)
                    rw [ht] at hB
                    obtain ⟨hP1, hD1⟩ := hB
                    obtain ⟨hP, hD⟩ := jn_A hP hD [6, 12, 4] [0, 1, 2, 3, 5, 7, 8, 9, 10, 11] rfl rfl (by decide) (by decide) hk1 hFc hP1 hD1
                    obtain ⟨hP, hD⟩ : PD g A H [(a_terms_first, .inl (cs 0, a_terms_first_n, .inl a_terms_first_f)), (a_terms_many, .inl (cs 0, a_terms_many_n, .inl a_terms_many_f)), (a_terms_part, .inl (cs 0, a_terms_part_n, .inl a_terms_part_f)), (a_terms_number, .inl (cs 2, a_terms_number_n, .inr (.inl a_terms_number_f))), (a_todo, .inl (cs 0, a_todo_n, .inl a_todo_3f)), (a_terms, .inr (11, [.ref a_terms_kind, .ref a_terms_name, .ref a_terms_first, .ref a_terms_many, .ref a_terms_part, .ref a_terms_number, .int a_terms_size, .int a_terms_parts])), (a_terms_kind, .inl (cs 0, a_terms_kind_n, .inl a_terms_kind_f)), (a_terms_name, .inl (cs 0, a_terms_name_n, .inl a_terms_name_f)), (a_became, .inl (cs 0, a_became_n, .inl a_became_f)), (a_node, .inl (cs 0, a_node_n, .inl a_node_f)), (a, .inr (14, [.int a_thrown, .int a_taped, .int a_place, .int a_resulted, .int a_marks, .ref a_tape, .ref a_result, .ref a_terms, .ref a_names, .ref a_reader, .ref a_paper, .ref a_register, .ref a_became, .ref a_node, .ref a_marked, .ref a_markedRegister, .ref a_up, .ref a_touched, .ref a_todo, .ref a_color, .int a_touches_39, .ref a_painted, .int a_paints])), (a_up, .inl (cs 0, a_up_n, .inl a_up_f_39)), (a_touched, .inl (cs 0, a_touched_n, .inl a_touched_f_39))] := ⟨hP, hD⟩
                    refine lv_goto hx hb d_Mo_classes_157 rfl ?_
                    refine lv_goto hx hb d_Mo_classes_348 rfl ?_
                    exact ih3 _ _ _ ((x4_3 + (-1)) + (-1)) a_touches_39 a_up_f_39 a_touched_f_39 a_todo_3f (lv_sub hl [3, 5, 6, 7, 8] rfl) (sub3 hP hD [10, 5, 6, 7, 0, 1, 2, 3, 8, 9, 11, 12, 4] (by decide)) hS hok
                · rw [if_neg h15] at hok
                  refine lv_aload_n hx hb d_Mo_classes_133 rfl (lv_at hl 5 rfl) ?_
                  refine lv_iload hx hb d_Mo_classes_134 (lv_at hl 2 rfl) ?_
                  refine lv_iload hx hb d_Mo_classes_136 (lv_at hl 4 rfl) ?_
                  obtain ⟨⟨a_touches_40, a_up_f_40, a_touched_f_40⟩, hc40, hok⟩ := bd_some hok
                  dsimp only at hok
                  obtain ⟨hPc, hDc, hFc⟩ := cut0 (wc := [(a, .inr (14, [.int a_thrown, .int a_taped, .int a_place, .int a_resulted, .int a_marks, .ref a_tape, .ref a_result, .ref a_terms, .ref a_names, .ref a_reader, .ref a_paper, .ref a_register, .ref a_became, .ref a_node, .ref a_marked, .ref a_markedRegister, .ref a_up, .ref a_touched, .ref a_todo, .ref a_color, .int a_touches_3, .ref a_painted, .int a_paints])), (a_up, .inl (cs 0, a_up_n, .inl a_up_3f)), (a_touched, .inl (cs 0, a_touched_n, .inl a_touched_3f))]) hP hD hS hA [6, 12, 4] (by decide) rfl
                  refine va_callv (va_runV (As := [.int r8, .int r6]) (rest := []) ⟨hx, hb, hml, hown, hg⟩ (c_Mo_join l g cs ka a_tape a_result a_terms a_names a_reader a_paper a_register a_became a_node a_marked a_markedRegister a_todo a_color a_painted a a_up a_touched H.size r8 r6 a_thrown a_taped a_place a_resulted a_marks a_touches_3 a_paints a_up_n a_up_3f a_touched_n a_touched_3f a_touches_40 a_up_f_40 a_touched_f_40 hc40) (cwV (C := R_Mo) 2 hg (gw_V wd_810 wd_811 wd_812 wd_780 wd_809) rfl rfl rfl (by decide +kernel) ⟨Nat.le_of_ble_eq_true rfl, Nat.le_of_ble_eq_true rfl⟩) ⟨gP_blind, va_recv (q0 := 6) (ci := 14) (q := (R_Mo, F_Mo, 23)) hK hP rfl rfl, gP_pre hPc hDc hK hgl hkn hkr hS hFc⟩ rfl rfl hl.1 rfl (lv_room (Nat.le_of_ble_eq_true rfl)) d_Mo_classes_138 ⟨Nat.le_of_ble_eq_true rfl, Nat.le_of_ble_eq_true rfl⟩) hS (fun q _ h => hFc q h) hFc (fun u t H locs ht hvm hr40 hB hz1 hk1 hS => ?_)
                  rw [ht] at hB
                  obtain ⟨hP1, hD1⟩ := hB
                  obtain ⟨hP, hD⟩ := jn_A hP hD [6, 12, 4] [0, 1, 2, 3, 5, 7, 8, 9, 10, 11] rfl rfl (by decide) (by decide) hk1 hFc hP1 hD1
                  obtain ⟨hP, hD⟩ : PD g A H [(a_terms_first, .inl (cs 0, a_terms_first_n, .inl a_terms_first_f)), (a_terms_many, .inl (cs 0, a_terms_many_n, .inl a_terms_many_f)), (a_terms_part, .inl (cs 0, a_terms_part_n, .inl a_terms_part_f)), (a_terms_number, .inl (cs 2, a_terms_number_n, .inr (.inl a_terms_number_f))), (a_todo, .inl (cs 0, a_todo_n, .inl a_todo_3f)), (a_terms, .inr (11, [.ref a_terms_kind, .ref a_terms_name, .ref a_terms_first, .ref a_terms_many, .ref a_terms_part, .ref a_terms_number, .int a_terms_size, .int a_terms_parts])), (a_terms_kind, .inl (cs 0, a_terms_kind_n, .inl a_terms_kind_f)), (a_terms_name, .inl (cs 0, a_terms_name_n, .inl a_terms_name_f)), (a_became, .inl (cs 0, a_became_n, .inl a_became_f)), (a_node, .inl (cs 0, a_node_n, .inl a_node_f)), (a, .inr (14, [.int a_thrown, .int a_taped, .int a_place, .int a_resulted, .int a_marks, .ref a_tape, .ref a_result, .ref a_terms, .ref a_names, .ref a_reader, .ref a_paper, .ref a_register, .ref a_became, .ref a_node, .ref a_marked, .ref a_markedRegister, .ref a_up, .ref a_touched, .ref a_todo, .ref a_color, .int a_touches_40, .ref a_painted, .int a_paints])), (a_up, .inl (cs 0, a_up_n, .inl a_up_f_40)), (a_touched, .inl (cs 0, a_touched_n, .inl a_touched_f_40))] := ⟨hP, hD⟩
                  refine lv_goto hx hb d_Mo_classes_141 rfl ?_
                  refine lv_goto hx hb d_Mo_classes_348 rfl ?_
                  exact ih3 _ _ _ ((x4_3 + (-1)) + (-1)) a_touches_40 a_up_f_40 a_touched_f_40 a_todo_3f (lv_sub hl [3, 5, 6, 7, 8] rfl) (sub3 hP hD [10, 5, 6, 7, 0, 1, 2, 3, 8, 9, 11, 12, 4] (by decide)) hS hok
              refine lv_if_eq hx hb d_Mo_classes_113 rfl (fun h41 => ?_) (fun h41 => ?_)
              · rw [if_pos h41] at hok
                exact J14 _ _ _ (lv_sub hl [0, 1, 2, 3, 4, 5, 6, 7, 8] rfl) (sub3 hP hD [0, 1, 2, 3, 4, 5, 6, 7, 8, 9, 10, 11, 12] (by decide)) hS hok
              · rw [if_neg h41] at hok
                refine lv_iload hx hb d_Mo_classes_116 (lv_at hl 1 rfl) ?_
                refine lv_if_ne hx hb d_Mo_classes_118 rfl (fun h42 => ?_) (fun h42 => ?_)
                · rw [if_neg h42] at hok
                  refine lv_iconst (v := 0) hx hb d_Mo_classes_126 (by decide) ?_
                  have hq := Option.some.inj hok
                  obtain ⟨hq0, hq⟩ := Prod.mk.inj hq
                  obtain ⟨hq1, hq⟩ := Prod.mk.inj hq
                  obtain ⟨hq2, hq⟩ := Prod.mk.inj hq
                  obtain ⟨hq3, hq⟩ := Prod.mk.inj hq
                  have hq4 := hq
                  subst hq0
                  subst hq1
                  subst hq2
                  subst hq3
                  subst hq4
                  obtain ⟨hP9, hD9⟩ := sub2 (ws' := [(a, .inr (14, [.int a_thrown, .int a_taped, .int a_place, .int a_resulted, .int a_marks, .ref a_tape, .ref a_result, .ref a_terms, .ref a_names, .ref a_reader, .ref a_paper, .ref a_register, .ref a_became, .ref a_node, .ref a_marked, .ref a_markedRegister, .ref a_up, .ref a_touched, .ref a_todo, .ref a_color, .int a_touches_3, .ref a_painted, .int a_paints])), (a_terms, .inr (11, [.ref a_terms_kind, .ref a_terms_name, .ref a_terms_first, .ref a_terms_many, .ref a_terms_part, .ref a_terms_number, .int a_terms_size, .int a_terms_parts])), (a_terms_kind, .inl (cs 0, a_terms_kind_n, .inl a_terms_kind_f)), (a_terms_name, .inl (cs 0, a_terms_name_n, .inl a_terms_name_f)), (a_terms_first, .inl (cs 0, a_terms_first_n, .inl a_terms_first_f)), (a_terms_many, .inl (cs 0, a_terms_many_n, .inl a_terms_many_f)), (a_terms_part, .inl (cs 0, a_terms_part_n, .inl a_terms_part_f)), (a_terms_number, .inl (cs 2, a_terms_number_n, .inr (.inl a_terms_number_f))), (a_became, .inl (cs 0, a_became_n, .inl a_became_f)), (a_node, .inl (cs 0, a_node_n, .inl a_node_f)), (a_up, .inl (cs 0, a_up_n, .inl a_up_3f)), (a_touched, .inl (cs 0, a_touched_n, .inl a_touched_3f)), (a_todo, .inl (cs 0, a_todo_n, .inl a_todo_3f))]) hP hD [6, 7, 8, 9, 0, 1, 2, 3, 10, 11, 12, 4, 5] rfl (by decide) rfl
                  rw [hQ]
                  exact W.zret (v := 0) hx hb hr rfl (fun t ht hW => ⟨⟨_, (), rfl, rfl, by rw [ht]; exact hP9, hD9⟩, hS.F ht⟩) hS.2.2 d_Mo_classes_127
                · rw [if_pos h42] at hok
                  refine lv_iload hx hb d_Mo_classes_121 (lv_at hl 0 rfl) ?_
                  refine lv_if_eq hx hb d_Mo_classes_123 rfl (fun h43 => ?_) (fun h43 => ?_)
                  · rw [if_pos h43] at hok
                    exact J14 _ _ _ (lv_sub hl [0, 1, 2, 3, 4, 5, 6, 7, 8] rfl) (sub3 hP hD [0, 1, 2, 3, 4, 5, 6, 7, 8, 9, 10, 11, 12] (by decide)) hS hok
                  · rw [if_neg h43] at hok
                    refine lv_iconst (v := 0) hx hb d_Mo_classes_126 (by decide) ?_
                    have hq := Option.some.inj hok
                    obtain ⟨hq0, hq⟩ := Prod.mk.inj hq
                    obtain ⟨hq1, hq⟩ := Prod.mk.inj hq
                    obtain ⟨hq2, hq⟩ := Prod.mk.inj hq
                    obtain ⟨hq3, hq⟩ := Prod.mk.inj hq
                    have hq4 := hq
                    subst hq0
                    subst hq1
                    subst hq2
                    subst hq3
                    subst hq4
                    obtain ⟨hP9, hD9⟩ := sub2 (ws' := [(a, .inr (14, [.int a_thrown, .int a_taped, .int a_place, .int a_resulted, .int a_marks, .ref a_tape, .ref a_result, .ref a_terms, .ref a_names, .ref a_reader, .ref a_paper, .ref a_register, .ref a_became, .ref a_node, .ref a_marked, .ref a_markedRegister, .ref a_up, .ref a_touched, .ref a_todo, .ref a_color, .int a_touches_3, .ref a_painted, .int a_paints])), (a_terms, .inr (11, [.ref a_terms_kind, .ref a_terms_name, .ref a_terms_first, .ref a_terms_many, .ref a_terms_part, .ref a_terms_number, .int a_terms_size, .int a_terms_parts])), (a_terms_kind, .inl (cs 0, a_terms_kind_n, .inl a_terms_kind_f)), (a_terms_name, .inl (cs 0, a_terms_name_n, .inl a_terms_name_f)), (a_terms_first, .inl (cs 0, a_terms_first_n, .inl a_terms_first_f)), (a_terms_many, .inl (cs 0, a_terms_many_n, .inl a_terms_many_f)), (a_terms_part, .inl (cs 0, a_terms_part_n, .inl a_terms_part_f)), (a_terms_number, .inl (cs 2, a_terms_number_n, .inr (.inl a_terms_number_f))), (a_became, .inl (cs 0, a_became_n, .inl a_became_f)), (a_node, .inl (cs 0, a_node_n, .inl a_node_f)), (a_up, .inl (cs 0, a_up_n, .inl a_up_3f)), (a_touched, .inl (cs 0, a_touched_n, .inl a_touched_3f)), (a_todo, .inl (cs 0, a_todo_n, .inl a_todo_3f))]) hP hD [6, 7, 8, 9, 0, 1, 2, 3, 10, 11, 12, 4, 5] rfl (by decide) rfl
                    rw [hQ]
                    exact W.zret (v := 0) hx hb hr rfl (fun t ht hW => ⟨⟨_, (), rfl, rfl, by rw [ht]; exact hP9, hD9⟩, hS.F ht⟩) hS.2.2 d_Mo_classes_127
            refine lv_if_ne hx hb d_Mo_classes_102 rfl (fun h44 => ?_) (fun h44 => ?_)
            · rw [if_neg h44] at hok
              refine lv_iconst (v := 0) hx hb d_Mo_classes_109 (by decide) ?_
              exact J13 _ _ _ (0 : Int32) (lv_sub hl [0, 1, 2, 3, 4, 5, 6, 7] rfl) (sub3 hP hD [0, 1, 2, 3, 4, 5, 6, 7, 8, 9, 10, 11, 12] (by decide)) hS hok
            · rw [if_pos h44] at hok
              refine lv_iconst (v := 1) hx hb d_Mo_classes_105 (by decide) ?_
              refine lv_goto hx hb d_Mo_classes_106 rfl ?_
              exact J13 _ _ _ (1 : Int32) (lv_sub hl [0, 1, 2, 3, 4, 5, 6, 7] rfl) (sub3 hP hD [0, 1, 2, 3, 4, 5, 6, 7, 8, 9, 10, 11, 12] (by decide)) hS hok
          refine lv_if_ne hx hb d_Mo_classes_82 rfl (fun h45 => ?_) (fun h45 => ?_)
          · rw [if_neg h45] at hok
            refine lv_iconst (v := 0) hx hb d_Mo_classes_89 (by decide) ?_
            exact J11 _ _ _ (0 : Int32) (lv_sub hl [0, 1, 2, 3, 4, 5, 6] rfl) (sub3 hP hD [0, 1, 2, 3, 4, 5, 6, 7, 8, 9, 10, 11, 12] (by decide)) hS hok
          · rw [if_pos h45] at hok
            refine lv_iconst (v := 1) hx hb d_Mo_classes_85 (by decide) ?_
            refine lv_goto hx hb d_Mo_classes_86 rfl ?_
            exact J11 _ _ _ (1 : Int32) (lv_sub hl [0, 1, 2, 3, 4, 5, 6] rfl) (sub3 hP hD [0, 1, 2, 3, 4, 5, 6, 7, 8, 9, 10, 11, 12] (by decide)) hS hok
        · rw [if_pos h9] at hok
          refine lv_goto hx hb d_Mo_classes_69 rfl ?_
          exact ih3 _ _ _ ((x4_3 + (-1)) + (-1)) a_touches_3 a_up_3f a_touched_3f a_todo_3f (lv_sub hl [1, 3, 4, 5, 6] rfl) (sub3 hP hD [6, 7, 8, 9, 0, 1, 2, 3, 10, 11, 12, 4, 5] (by decide)) hS hok
  exact J3 n H locs ls ((0 + 1) + 1 : Int32) a_touches a_up_f a_touched_f (upd (upd a_todo_f (0 : Int32).toNatClampNeg x) (0 + 1 : Int32).toNatClampNeg y) hl ⟨hP, hD⟩ hS hok

theorem d_Mo_finite_0 : decode b_Mo_finite 0 = .ok (.iconst 0, 1) := by decide +kernel
theorem d_Mo_finite_1 : decode b_Mo_finite 1 = .ok (.istore_n 2, 1) := by decide +kernel
theorem d_Mo_finite_2 : decode b_Mo_finite 2 = .ok (.aload_n 0, 1) := by decide +kernel
theorem d_Mo_finite_3 : decode b_Mo_finite 3 = .ok (.getfield 76, 3) := by decide +kernel
theorem d_Mo_finite_6 : decode b_Mo_finite 6 = .ok (.iconst 0, 1) := by decide +kernel
theorem d_Mo_finite_7 : decode b_Mo_finite 7 = .ok (.aload_n 0, 1) := by decide +kernel
theorem d_Mo_finite_8 : decode b_Mo_finite 8 = .ok (.iload_n 1, 1) := by decide +kernel
theorem d_Mo_finite_9 : decode b_Mo_finite 9 = .ok (.invokevirtual 145, 3) := by decide +kernel
theorem d_Mo_finite_12 : decode b_Mo_finite 12 = .ok (.iastore, 1) := by decide +kernel
theorem d_Mo_finite_13 : decode b_Mo_finite 13 = .ok (.aload_n 0, 1) := by decide +kernel
theorem d_Mo_finite_14 : decode b_Mo_finite 14 = .ok (.getfield 76, 3) := by decide +kernel
theorem d_Mo_finite_17 : decode b_Mo_finite 17 = .ok (.iconst 1, 1) := by decide +kernel
theorem d_Mo_finite_18 : decode b_Mo_finite 18 = .ok (.iconst 0, 1) := by decide +kernel
theorem d_Mo_finite_19 : decode b_Mo_finite 19 = .ok (.iastore, 1) := by decide +kernel
theorem d_Mo_finite_20 : decode b_Mo_finite 20 = .ok (.aload_n 0, 1) := by decide +kernel
theorem d_Mo_finite_21 : decode b_Mo_finite 21 = .ok (.aload_n 0, 1) := by decide +kernel
theorem d_Mo_finite_22 : decode b_Mo_finite 22 = .ok (.getfield 76, 3) := by decide +kernel
theorem d_Mo_finite_25 : decode b_Mo_finite 25 = .ok (.iconst 0, 1) := by decide +kernel
theorem d_Mo_finite_26 : decode b_Mo_finite 26 = .ok (.iaload, 1) := by decide +kernel
theorem d_Mo_finite_27 : decode b_Mo_finite 27 = .ok (.iconst 1, 1) := by decide +kernel
theorem d_Mo_finite_28 : decode b_Mo_finite 28 = .ok (.invokevirtual 163, 3) := by decide +kernel
theorem d_Mo_finite_31 : decode b_Mo_finite 31 = .ok (.iload_n 2, 1) := by decide +kernel
theorem d_Mo_finite_32 : decode b_Mo_finite 32 = .ok (.ifCond .lt 155, 3) := by decide +kernel
theorem d_Mo_finite_35 : decode b_Mo_finite 35 = .ok (.aload_n 0, 1) := by decide +kernel
theorem d_Mo_finite_36 : decode b_Mo_finite 36 = .ok (.getfield 76, 3) := by decide +kernel
theorem d_Mo_finite_39 : decode b_Mo_finite 39 = .ok (.iconst 2, 1) := by decide +kernel
theorem d_Mo_finite_40 : decode b_Mo_finite 40 = .ok (.iload_n 2, 1) := by decide +kernel
theorem d_Mo_finite_41 : decode b_Mo_finite 41 = .ok (.imul, 1) := by decide +kernel
theorem d_Mo_finite_42 : decode b_Mo_finite 42 = .ok (.iaload, 1) := by decide +kernel
theorem d_Mo_finite_43 : decode b_Mo_finite 43 = .ok (.istore_n 3, 1) := by decide +kernel
theorem d_Mo_finite_44 : decode b_Mo_finite 44 = .ok (.aload_n 0, 1) := by decide +kernel
theorem d_Mo_finite_45 : decode b_Mo_finite 45 = .ok (.getfield 76, 3) := by decide +kernel
theorem d_Mo_finite_48 : decode b_Mo_finite 48 = .ok (.iconst 2, 1) := by decide +kernel
theorem d_Mo_finite_49 : decode b_Mo_finite 49 = .ok (.iload_n 2, 1) := by decide +kernel
theorem d_Mo_finite_50 : decode b_Mo_finite 50 = .ok (.imul, 1) := by decide +kernel
theorem d_Mo_finite_51 : decode b_Mo_finite 51 = .ok (.iconst 1, 1) := by decide +kernel
theorem d_Mo_finite_52 : decode b_Mo_finite 52 = .ok (.iadd, 1) := by decide +kernel
theorem d_Mo_finite_53 : decode b_Mo_finite 53 = .ok (.iaload, 1) := by decide +kernel
theorem d_Mo_finite_54 : decode b_Mo_finite 54 = .ok (.istore 4, 2) := by decide +kernel
theorem d_Mo_finite_56 : decode b_Mo_finite 56 = .ok (.iload 4, 2) := by decide +kernel
theorem d_Mo_finite_58 : decode b_Mo_finite 58 = .ok (.aload_n 0, 1) := by decide +kernel
theorem d_Mo_finite_59 : decode b_Mo_finite 59 = .ok (.getfield 23, 3) := by decide +kernel
theorem d_Mo_finite_62 : decode b_Mo_finite 62 = .ok (.getfield 156, 3) := by decide +kernel
theorem d_Mo_finite_65 : decode b_Mo_finite 65 = .ok (.iload_n 3, 1) := by decide +kernel
theorem d_Mo_finite_66 : decode b_Mo_finite 66 = .ok (.iaload, 1) := by decide +kernel
theorem d_Mo_finite_67 : decode b_Mo_finite 67 = .ok (.if_icmp .eq 16, 3) := by decide +kernel
theorem d_Mo_finite_70 : decode b_Mo_finite 70 = .ok (.aload_n 0, 1) := by decide +kernel
theorem d_Mo_finite_71 : decode b_Mo_finite 71 = .ok (.getfield 23, 3) := by decide +kernel
theorem d_Mo_finite_74 : decode b_Mo_finite 74 = .ok (.getfield 133, 3) := by decide +kernel
theorem d_Mo_finite_77 : decode b_Mo_finite 77 = .ok (.iload_n 3, 1) := by decide +kernel
theorem d_Mo_finite_78 : decode b_Mo_finite 78 = .ok (.iaload, 1) := by decide +kernel
theorem d_Mo_finite_79 : decode b_Mo_finite 79 = .ok (.iconst 2, 1) := by decide +kernel
theorem d_Mo_finite_80 : decode b_Mo_finite 80 = .ok (.if_icmp .eq 16, 3) := by decide +kernel
theorem d_Mo_finite_83 : decode b_Mo_finite 83 = .ok (.aload_n 0, 1) := by decide +kernel
theorem d_Mo_finite_84 : decode b_Mo_finite 84 = .ok (.getfield 79, 3) := by decide +kernel
theorem d_Mo_finite_87 : decode b_Mo_finite 87 = .ok (.iload_n 3, 1) := by decide +kernel
theorem d_Mo_finite_88 : decode b_Mo_finite 88 = .ok (.iconst 2, 1) := by decide +kernel
theorem d_Mo_finite_89 : decode b_Mo_finite 89 = .ok (.bastore, 1) := by decide +kernel
theorem d_Mo_finite_90 : decode b_Mo_finite 90 = .ok (.iinc 2 (-1), 3) := by decide +kernel
theorem d_Mo_finite_93 : decode b_Mo_finite 93 = .ok (.goto (-62), 3) := by decide +kernel
theorem d_Mo_finite_96 : decode b_Mo_finite 96 = .ok (.aload_n 0, 1) := by decide +kernel
theorem d_Mo_finite_97 : decode b_Mo_finite 97 = .ok (.getfield 76, 3) := by decide +kernel
theorem d_Mo_finite_100 : decode b_Mo_finite 100 = .ok (.iconst 2, 1) := by decide +kernel
theorem d_Mo_finite_101 : decode b_Mo_finite 101 = .ok (.iload_n 2, 1) := by decide +kernel
theorem d_Mo_finite_102 : decode b_Mo_finite 102 = .ok (.imul, 1) := by decide +kernel
theorem d_Mo_finite_103 : decode b_Mo_finite 103 = .ok (.iconst 1, 1) := by decide +kernel
theorem d_Mo_finite_104 : decode b_Mo_finite 104 = .ok (.iadd, 1) := by decide +kernel
theorem d_Mo_finite_105 : decode b_Mo_finite 105 = .ok (.dup2, 1) := by decide +kernel
theorem d_Mo_finite_106 : decode b_Mo_finite 106 = .ok (.iaload, 1) := by decide +kernel
theorem d_Mo_finite_107 : decode b_Mo_finite 107 = .ok (.iconst 1, 1) := by decide +kernel
theorem d_Mo_finite_108 : decode b_Mo_finite 108 = .ok (.iadd, 1) := by decide +kernel
theorem d_Mo_finite_109 : decode b_Mo_finite 109 = .ok (.iastore, 1) := by decide +kernel
theorem d_Mo_finite_110 : decode b_Mo_finite 110 = .ok (.aload_n 0, 1) := by decide +kernel
theorem d_Mo_finite_111 : decode b_Mo_finite 111 = .ok (.aload_n 0, 1) := by decide +kernel
theorem d_Mo_finite_112 : decode b_Mo_finite 112 = .ok (.getfield 23, 3) := by decide +kernel
theorem d_Mo_finite_115 : decode b_Mo_finite 115 = .ok (.iload_n 3, 1) := by decide +kernel
theorem d_Mo_finite_116 : decode b_Mo_finite 116 = .ok (.iload 4, 2) := by decide +kernel
theorem d_Mo_finite_118 : decode b_Mo_finite 118 = .ok (.invokevirtual 159, 3) := by decide +kernel
theorem d_Mo_finite_121 : decode b_Mo_finite 121 = .ok (.invokevirtual 145, 3) := by decide +kernel
theorem d_Mo_finite_124 : decode b_Mo_finite 124 = .ok (.istore 5, 2) := by decide +kernel
theorem d_Mo_finite_126 : decode b_Mo_finite 126 = .ok (.aload_n 0, 1) := by decide +kernel
theorem d_Mo_finite_127 : decode b_Mo_finite 127 = .ok (.getfield 79, 3) := by decide +kernel
theorem d_Mo_finite_130 : decode b_Mo_finite 130 = .ok (.iload 5, 2) := by decide +kernel
theorem d_Mo_finite_132 : decode b_Mo_finite 132 = .ok (.baload, 1) := by decide +kernel
theorem d_Mo_finite_133 : decode b_Mo_finite 133 = .ok (.iconst 1, 1) := by decide +kernel
theorem d_Mo_finite_134 : decode b_Mo_finite 134 = .ok (.if_icmp .ne 5, 3) := by decide +kernel
theorem d_Mo_finite_137 : decode b_Mo_finite 137 = .ok (.iconst 0, 1) := by decide +kernel
theorem d_Mo_finite_138 : decode b_Mo_finite 138 = .ok (.ireturn, 1) := by decide +kernel
theorem d_Mo_finite_139 : decode b_Mo_finite 139 = .ok (.aload_n 0, 1) := by decide +kernel
theorem d_Mo_finite_140 : decode b_Mo_finite 140 = .ok (.getfield 79, 3) := by decide +kernel
theorem d_Mo_finite_143 : decode b_Mo_finite 143 = .ok (.iload 5, 2) := by decide +kernel
theorem d_Mo_finite_145 : decode b_Mo_finite 145 = .ok (.baload, 1) := by decide +kernel
theorem d_Mo_finite_146 : decode b_Mo_finite 146 = .ok (.iconst 2, 1) := by decide +kernel
theorem d_Mo_finite_147 : decode b_Mo_finite 147 = .ok (.if_icmp .ne 6, 3) := by decide +kernel
theorem d_Mo_finite_150 : decode b_Mo_finite 150 = .ok (.goto (-119), 3) := by decide +kernel
theorem d_Mo_finite_153 : decode b_Mo_finite 153 = .ok (.aload_n 0, 1) := by decide +kernel
theorem d_Mo_finite_154 : decode b_Mo_finite 154 = .ok (.iload 5, 2) := by decide +kernel
theorem d_Mo_finite_156 : decode b_Mo_finite 156 = .ok (.iconst 1, 1) := by decide +kernel
theorem d_Mo_finite_157 : decode b_Mo_finite 157 = .ok (.invokevirtual 163, 3) := by decide +kernel
theorem d_Mo_finite_160 : decode b_Mo_finite 160 = .ok (.iinc 2 1, 3) := by decide +kernel
theorem d_Mo_finite_163 : decode b_Mo_finite 163 = .ok (.aload_n 0, 1) := by decide +kernel
theorem d_Mo_finite_164 : decode b_Mo_finite 164 = .ok (.getfield 76, 3) := by decide +kernel
theorem d_Mo_finite_167 : decode b_Mo_finite 167 = .ok (.iconst 2, 1) := by decide +kernel
theorem d_Mo_finite_168 : decode b_Mo_finite 168 = .ok (.iload_n 2, 1) := by decide +kernel
theorem d_Mo_finite_169 : decode b_Mo_finite 169 = .ok (.imul, 1) := by decide +kernel
theorem d_Mo_finite_170 : decode b_Mo_finite 170 = .ok (.iload 5, 2) := by decide +kernel
theorem d_Mo_finite_172 : decode b_Mo_finite 172 = .ok (.iastore, 1) := by decide +kernel
theorem d_Mo_finite_173 : decode b_Mo_finite 173 = .ok (.aload_n 0, 1) := by decide +kernel
theorem d_Mo_finite_174 : decode b_Mo_finite 174 = .ok (.getfield 76, 3) := by decide +kernel
theorem d_Mo_finite_177 : decode b_Mo_finite 177 = .ok (.iconst 2, 1) := by decide +kernel
theorem d_Mo_finite_178 : decode b_Mo_finite 178 = .ok (.iload_n 2, 1) := by decide +kernel
theorem d_Mo_finite_179 : decode b_Mo_finite 179 = .ok (.imul, 1) := by decide +kernel
theorem d_Mo_finite_180 : decode b_Mo_finite 180 = .ok (.iconst 1, 1) := by decide +kernel
theorem d_Mo_finite_181 : decode b_Mo_finite 181 = .ok (.iadd, 1) := by decide +kernel
theorem d_Mo_finite_182 : decode b_Mo_finite 182 = .ok (.iconst 0, 1) := by decide +kernel
theorem d_Mo_finite_183 : decode b_Mo_finite 183 = .ok (.iastore, 1) := by decide +kernel
theorem d_Mo_finite_184 : decode b_Mo_finite 184 = .ok (.goto (-153), 3) := by decide +kernel
theorem d_Mo_finite_187 : decode b_Mo_finite 187 = .ok (.iconst 1, 1) := by decide +kernel
theorem d_Mo_finite_188 : decode b_Mo_finite 188 = .ok (.ireturn, 1) := by decide +kernel
def p_Mo_finite_31 (n : Nat) (a_thrown : Int32) (a_taped : Int32) (a_place : Int32) (a_resulted : Int32) (a_marks : Int32) (a_touches : Int32) (a_terms_size : Int32) (a_terms_parts : Int32) (a_terms_kind_n : Nat) (a_terms_kind_f : Nat → Int32) (a_terms_name_n : Nat) (a_terms_name_f : Nat → Int32) (a_terms_first_n : Nat) (a_terms_first_f : Nat → Int32) (a_terms_many_n : Nat) (a_terms_many_f : Nat → Int32) (a_terms_part_n : Nat) (a_terms_part_f : Nat → Int32) (a_became_n : Nat) (a_became_f : Nat → Int32) (a_node_n : Nat) (a_node_f : Nat → Int32) (a_up_n : Nat) (a_up_f : Nat → Int32) (a_todo_n : Nat) (a_color_n : Nat) (a_painted_n : Nat) (kf6 : Nat) (x2_6 : Int32) (a_paints_6 : Int32) (a_todo_6f : Nat → Int32) (a_color_6f : Nat → Int32) (a_painted_6f : Nat → Int32) : Option (Int32 × Int32 × (Nat → Int32) × (Nat → Int32) × (Nat → Int32)) := match kf6 with
  | 0 => none
  | kf6 + 1 => if x2_6 < 0 then (some ((1 : Int32), a_paints_6, a_todo_6f, a_color_6f, a_painted_6f)) else (ck (ixb (2 * x2_6) a_todo_n) (ck (ixb ((2 * x2_6) + 1) a_todo_n) (ck (ixb (a_todo_6f (2 * x2_6).toNatClampNeg) a_terms_many_n) (if (a_todo_6f ((2 * x2_6) + 1).toNatClampNeg) = (a_terms_many_f (a_todo_6f (2 * x2_6).toNatClampNeg).toNatClampNeg) then (ck (ixb (a_todo_6f (2 * x2_6).toNatClampNeg) a_color_n) (p_Mo_finite_31 n a_thrown a_taped a_place a_resulted a_marks a_touches a_terms_size a_terms_parts a_terms_kind_n a_terms_kind_f a_terms_name_n a_terms_name_f a_terms_first_n a_terms_first_f a_terms_many_n a_terms_many_f a_terms_part_n a_terms_part_f a_became_n a_became_f a_node_n a_node_f a_up_n a_up_f a_todo_n a_color_n a_painted_n kf6 (x2_6 + (-1)) a_paints_6 a_todo_6f (upd a_color_6f (a_todo_6f (2 * x2_6).toNatClampNeg).toNatClampNeg (vp_nar .byte 2)) a_painted_6f)) else (ck (ixb (a_todo_6f (2 * x2_6).toNatClampNeg) a_terms_kind_n) (if (a_terms_kind_f (a_todo_6f (2 * x2_6).toNatClampNeg).toNatClampNeg) = 2 then (ck (ixb ((2 * x2_6) + 1) a_todo_n) (ck (ixb ((2 * x2_6) + 1) a_todo_n) ((p_MoTerms_part (a_todo_6f (2 * x2_6).toNatClampNeg) (a_todo_6f ((2 * x2_6) + 1).toNatClampNeg) a_terms_size a_terms_parts a_terms_first_n a_terms_first_f a_terms_part_n a_terms_part_f).bind (fun r17 => (p_Mo_root n r17 a_thrown a_taped a_place a_resulted a_marks a_touches a_paints_6 a_terms_size a_terms_parts a_terms_kind_n a_terms_kind_f a_terms_name_n a_terms_name_f a_became_n a_became_f a_node_n a_node_f a_up_n a_up_f).bind (fun r18 => ck (ixb r18 a_color_n) (if (a_color_6f r18.toNatClampNeg) = 1 then (some ((0 : Int32), a_paints_6, upd a_todo_6f ((2 * x2_6) + 1).toNatClampNeg ((a_todo_6f ((2 * x2_6) + 1).toNatClampNeg) + 1), a_color_6f, a_painted_6f)) else (ck (ixb r18 a_color_n) (if (a_color_6f r18.toNatClampNeg) = 2 then (p_Mo_finite_31 n a_thrown a_taped a_place a_resulted a_marks a_touches a_terms_size a_terms_parts a_terms_kind_n a_terms_kind_f a_terms_name_n a_terms_name_f a_terms_first_n a_terms_first_f a_terms_many_n a_terms_many_f a_terms_part_n a_terms_part_f a_became_n a_became_f a_node_n a_node_f a_up_n a_up_f a_todo_n a_color_n a_painted_n kf6 x2_6 a_paints_6 (upd a_todo_6f ((2 * x2_6) + 1).toNatClampNeg ((a_todo_6f ((2 * x2_6) + 1).toNatClampNeg) + 1)) a_color_6f a_painted_6f) else ((p_Mo_paint r18 (1 : Int32) a_thrown a_taped a_place a_resulted a_marks a_touches a_paints_6 a_color_n a_color_6f a_painted_n a_painted_6f).bind (fun (a_paints_23, a_color_f_23, a_painted_f_23) => ck (ixb (2 * (x2_6 + 1)) a_todo_n) (ck (ixb ((2 * (x2_6 + 1)) + 1) a_todo_n) (p_Mo_finite_31 n a_thrown a_taped a_place a_resulted a_marks a_touches a_terms_size a_terms_parts a_terms_kind_n a_terms_kind_f a_terms_name_n a_terms_name_f a_terms_first_n a_terms_first_f a_terms_many_n a_terms_many_f a_terms_part_n a_terms_part_f a_became_n a_became_f a_node_n a_node_f a_up_n a_up_f a_todo_n a_color_n a_painted_n kf6 (x2_6 + 1) a_paints_23 (upd (upd (upd a_todo_6f ((2 * x2_6) + 1).toNatClampNeg ((a_todo_6f ((2 * x2_6) + 1).toNatClampNeg) + 1)) (2 * (x2_6 + 1)).toNatClampNeg r18) ((2 * (x2_6 + 1)) + 1).toNatClampNeg 0) a_color_f_23 a_painted_f_23)))))))))))) else (ck (ixb (a_todo_6f (2 * x2_6).toNatClampNeg) a_color_n) (p_Mo_finite_31 n a_thrown a_taped a_place a_resulted a_marks a_touches a_terms_size a_terms_parts a_terms_kind_n a_terms_kind_f a_terms_name_n a_terms_name_f a_terms_first_n a_terms_first_f a_terms_many_n a_terms_many_f a_terms_part_n a_terms_part_f a_became_n a_became_f a_node_n a_node_f a_up_n a_up_f a_todo_n a_color_n a_painted_n kf6 (x2_6 + (-1)) a_paints_6 a_todo_6f (upd a_color_6f (a_todo_6f (2 * x2_6).toNatClampNeg).toNatClampNeg (vp_nar .byte 2)) a_painted_6f))))))))
def p_Mo_finite (n : Nat) (x : Int32) (a_thrown : Int32) (a_taped : Int32) (a_place : Int32) (a_resulted : Int32) (a_marks : Int32) (a_touches : Int32) (a_paints : Int32) (a_terms_size : Int32) (a_terms_parts : Int32) (a_terms_kind_n : Nat) (a_terms_kind_f : Nat → Int32) (a_terms_name_n : Nat) (a_terms_name_f : Nat → Int32) (a_terms_first_n : Nat) (a_terms_first_f : Nat → Int32) (a_terms_many_n : Nat) (a_terms_many_f : Nat → Int32) (a_terms_part_n : Nat) (a_terms_part_f : Nat → Int32) (a_became_n : Nat) (a_became_f : Nat → Int32) (a_node_n : Nat) (a_node_f : Nat → Int32) (a_up_n : Nat) (a_up_f : Nat → Int32) (a_todo_n : Nat) (a_todo_f : Nat → Int32) (a_color_n : Nat) (a_color_f : Nat → Int32) (a_painted_n : Nat) (a_painted_f : Nat → Int32) : Option (Int32 × Int32 × (Nat → Int32) × (Nat → Int32) × (Nat → Int32)) := (p_Mo_root n x a_thrown a_taped a_place a_resulted a_marks a_touches a_paints a_terms_size a_terms_parts a_terms_kind_n a_terms_kind_f a_terms_name_n a_terms_name_f a_became_n a_became_f a_node_n a_node_f a_up_n a_up_f).bind (fun r1 => ck (ixb 0 a_todo_n) (ck (ixb 1 a_todo_n) (ck (ixb 0 a_todo_n) ((p_Mo_paint ((upd (upd a_todo_f (0 : Int32).toNatClampNeg r1) (1 : Int32).toNatClampNeg 0) (0 : Int32).toNatClampNeg) (1 : Int32) a_thrown a_taped a_place a_resulted a_marks a_touches a_paints a_color_n a_color_f a_painted_n a_painted_f).bind (fun (a_paints_5, a_color_f_5, a_painted_f_5) => p_Mo_finite_31 n a_thrown a_taped a_place a_resulted a_marks a_touches a_terms_size a_terms_parts a_terms_kind_n a_terms_kind_f a_terms_name_n a_terms_name_f a_terms_first_n a_terms_first_f a_terms_many_n a_terms_many_f a_terms_part_n a_terms_part_f a_became_n a_became_f a_node_n a_node_f a_up_n a_up_f a_todo_n a_color_n a_painted_n n (0 : Int32) a_paints_5 (upd (upd a_todo_f (0 : Int32).toNatClampNeg r1) (1 : Int32).toNatClampNeg 0) a_color_f_5 a_painted_f_5)))))
set_option maxHeartbeats 40000000 in
set_option maxRecDepth 100000 in
theorem c_Mo_finite (l : Launch) (g : va_G) (cs : Nat → ClassId) (ka : Nat → Nat) (a_tape : Nat) (a_result : Nat) (a_names : Nat) (a_reader : Nat) (a_paper : Nat) (a_register : Nat) (a_marked : Nat) (a_markedRegister : Nat) (a_touched : Nat) (a_terms_number : Nat) (a a_terms a_terms_kind a_terms_name a_terms_first a_terms_many a_terms_part a_became a_node a_up a_todo a_color a_painted : Nat) (sz : Nat) (n : Nat) (x : Int32) (a_thrown : Int32) (a_taped : Int32) (a_place : Int32) (a_resulted : Int32) (a_marks : Int32) (a_touches : Int32) (a_paints : Int32) (a_terms_size : Int32) (a_terms_parts : Int32) (a_terms_kind_n : Nat) (a_terms_kind_f : Nat → Int32) (a_terms_name_n : Nat) (a_terms_name_f : Nat → Int32) (a_terms_first_n : Nat) (a_terms_first_f : Nat → Int32) (a_terms_many_n : Nat) (a_terms_many_f : Nat → Int32) (a_terms_part_n : Nat) (a_terms_part_f : Nat → Int32) (a_became_n : Nat) (a_became_f : Nat → Int32) (a_node_n : Nat) (a_node_f : Nat → Int32) (a_up_n : Nat) (a_up_f : Nat → Int32) (a_todo_n : Nat) (a_todo_f : Nat → Int32) (a_color_n : Nat) (a_color_f : Nat → Int32) (a_painted_n : Nat) (a_painted_f : Nat → Int32) (r : Int32) (o_a_paints : Int32) (o_a_todo_f : Nat → Int32) (o_a_color_f : Nat → Int32) (o_a_painted_f : Nat → Int32) (hok : p_Mo_finite n x a_thrown a_taped a_place a_resulted a_marks a_touches a_paints a_terms_size a_terms_parts a_terms_kind_n a_terms_kind_f a_terms_name_n a_terms_name_f a_terms_first_n a_terms_first_f a_terms_many_n a_terms_many_f a_terms_part_n a_terms_part_f a_became_n a_became_f a_node_n a_node_f a_up_n a_up_f a_todo_n a_todo_f a_color_n a_color_f a_painted_n a_painted_f = some (r, o_a_paints, o_a_todo_f, o_a_color_f, o_a_painted_f)) : Met l y_Mo_finite (.code y_Mo_finite b_Mo_finite 6 (some .boolean) :: GW) { frames := 2, cells := 0, slots := 0, locals := 45 } (va_Pc [.ref a, .int x] (gP g cs ka [(a, .inr (14, [.int a_thrown, .int a_taped, .int a_place, .int a_resulted, .int a_marks, .ref a_tape, .ref a_result, .ref a_terms, .ref a_names, .ref a_reader, .ref a_paper, .ref a_register, .ref a_became, .ref a_node, .ref a_marked, .ref a_markedRegister, .ref a_up, .ref a_touched, .ref a_todo, .ref a_color, .int a_touches, .ref a_painted, .int a_paints])), (a_terms, .inr (11, [.ref a_terms_kind, .ref a_terms_name, .ref a_terms_first, .ref a_terms_many, .ref a_terms_part, .ref a_terms_number, .int a_terms_size, .int a_terms_parts])), (a_terms_kind, .inl (cs 0, a_terms_kind_n, .inl a_terms_kind_f)), (a_terms_name, .inl (cs 0, a_terms_name_n, .inl a_terms_name_f)), (a_terms_first, .inl (cs 0, a_terms_first_n, .inl a_terms_first_f)), (a_terms_many, .inl (cs 0, a_terms_many_n, .inl a_terms_many_f)), (a_terms_part, .inl (cs 0, a_terms_part_n, .inl a_terms_part_f)), (a_became, .inl (cs 0, a_became_n, .inl a_became_f)), (a_node, .inl (cs 0, a_node_n, .inl a_node_f)), (a_up, .inl (cs 0, a_up_n, .inl a_up_f)), (a_todo, .inl (cs 0, a_todo_n, .inl a_todo_f)), (a_color, .inl (cs 1, a_color_n, .inl a_color_f)), (a_painted, .inl (cs 0, a_painted_n, .inl a_painted_f))] sz)) (va_Qi (fun (r' : Int32) (_ : Unit) => r = r') (fun _ t => va_P g classes [(a, .inr (14, [.int a_thrown, .int a_taped, .int a_place, .int a_resulted, .int a_marks, .ref a_tape, .ref a_result, .ref a_terms, .ref a_names, .ref a_reader, .ref a_paper, .ref a_register, .ref a_became, .ref a_node, .ref a_marked, .ref a_markedRegister, .ref a_up, .ref a_touched, .ref a_todo, .ref a_color, .int a_touches, .ref a_painted, .int o_a_paints])), (a_terms, .inr (11, [.ref a_terms_kind, .ref a_terms_name, .ref a_terms_first, .ref a_terms_many, .ref a_terms_part, .ref a_terms_number, .int a_terms_size, .int a_terms_parts])), (a_terms_kind, .inl (cs 0, a_terms_kind_n, .inl a_terms_kind_f)), (a_terms_name, .inl (cs 0, a_terms_name_n, .inl a_terms_name_f)), (a_terms_first, .inl (cs 0, a_terms_first_n, .inl a_terms_first_f)), (a_terms_many, .inl (cs 0, a_terms_many_n, .inl a_terms_many_f)), (a_terms_part, .inl (cs 0, a_terms_part_n, .inl a_terms_part_f)), (a_became, .inl (cs 0, a_became_n, .inl a_became_f)), (a_node, .inl (cs 0, a_node_n, .inl a_node_f)), (a_up, .inl (cs 0, a_up_n, .inl a_up_f)), (a_todo, .inl (cs 0, a_todo_n, .inl o_a_todo_f)), (a_color, .inl (cs 1, a_color_n, .inl o_a_color_f)), (a_painted, .inl (cs 0, a_painted_n, .inl o_a_painted_f))] t.heap ∧ va_D (va_A [(a, .inr (14, [.int a_thrown, .int a_taped, .int a_place, .int a_resulted, .int a_marks, .ref a_tape, .ref a_result, .ref a_terms, .ref a_names, .ref a_reader, .ref a_paper, .ref a_register, .ref a_became, .ref a_node, .ref a_marked, .ref a_markedRegister, .ref a_up, .ref a_touched, .ref a_todo, .ref a_color, .int a_touches, .ref a_painted, .int a_paints])), (a_terms, .inr (11, [.ref a_terms_kind, .ref a_terms_name, .ref a_terms_first, .ref a_terms_many, .ref a_terms_part, .ref a_terms_number, .int a_terms_size, .int a_terms_parts])), (a_terms_kind, .inl (cs 0, a_terms_kind_n, .inl a_terms_kind_f)), (a_terms_name, .inl (cs 0, a_terms_name_n, .inl a_terms_name_f)), (a_terms_first, .inl (cs 0, a_terms_first_n, .inl a_terms_first_f)), (a_terms_many, .inl (cs 0, a_terms_many_n, .inl a_terms_many_f)), (a_terms_part, .inl (cs 0, a_terms_part_n, .inl a_terms_part_f)), (a_became, .inl (cs 0, a_became_n, .inl a_became_f)), (a_node, .inl (cs 0, a_node_n, .inl a_node_f)), (a_up, .inl (cs 0, a_up_n, .inl a_up_f)), (a_todo, .inl (cs 0, a_todo_n, .inl a_todo_f)), (a_color, .inl (cs 1, a_color_n, .inl a_color_f)), (a_painted, .inl (cs 0, a_painted_n, .inl a_painted_f))] sz) [(a, .inr (14, [.int a_thrown, .int a_taped, .int a_place, .int a_resulted, .int a_marks, .ref a_tape, .ref a_result, .ref a_terms, .ref a_names, .ref a_reader, .ref a_paper, .ref a_register, .ref a_became, .ref a_node, .ref a_marked, .ref a_markedRegister, .ref a_up, .ref a_touched, .ref a_todo, .ref a_color, .int a_touches, .ref a_painted, .int o_a_paints])), (a_terms, .inr (11, [.ref a_terms_kind, .ref a_terms_name, .ref a_terms_first, .ref a_terms_many, .ref a_terms_part, .ref a_terms_number, .int a_terms_size, .int a_terms_parts])), (a_terms_kind, .inl (cs 0, a_terms_kind_n, .inl a_terms_kind_f)), (a_terms_name, .inl (cs 0, a_terms_name_n, .inl a_terms_name_f)), (a_terms_first, .inl (cs 0, a_terms_first_n, .inl a_terms_first_f)), (a_terms_many, .inl (cs 0, a_terms_many_n, .inl a_terms_many_f)), (a_terms_part, .inl (cs 0, a_terms_part_n, .inl a_terms_part_f)), (a_became, .inl (cs 0, a_became_n, .inl a_became_f)), (a_node, .inl (cs 0, a_node_n, .inl a_node_f)), (a_up, .inl (cs 0, a_up_n, .inl a_up_f)), (a_todo, .inl (cs 0, a_todo_n, .inl o_a_todo_f)), (a_color, .inl (cs 1, a_color_n, .inl o_a_color_f)), (a_painted, .inl (cs 0, a_painted_n, .inl o_a_painted_f))]) (va_A [(a, .inr (14, [.int a_thrown, .int a_taped, .int a_place, .int a_resulted, .int a_marks, .ref a_tape, .ref a_result, .ref a_terms, .ref a_names, .ref a_reader, .ref a_paper, .ref a_register, .ref a_became, .ref a_node, .ref a_marked, .ref a_markedRegister, .ref a_up, .ref a_touched, .ref a_todo, .ref a_color, .int a_touches, .ref a_painted, .int a_paints])), (a_terms, .inr (11, [.ref a_terms_kind, .ref a_terms_name, .ref a_terms_first, .ref a_terms_many, .ref a_terms_part, .ref a_terms_number, .int a_terms_size, .int a_terms_parts])), (a_terms_kind, .inl (cs 0, a_terms_kind_n, .inl a_terms_kind_f)), (a_terms_name, .inl (cs 0, a_terms_name_n, .inl a_terms_name_f)), (a_terms_first, .inl (cs 0, a_terms_first_n, .inl a_terms_first_f)), (a_terms_many, .inl (cs 0, a_terms_many_n, .inl a_terms_many_f)), (a_terms_part, .inl (cs 0, a_terms_part_n, .inl a_terms_part_f)), (a_became, .inl (cs 0, a_became_n, .inl a_became_f)), (a_node, .inl (cs 0, a_node_n, .inl a_node_f)), (a_up, .inl (cs 0, a_up_n, .inl a_up_f)), (a_todo, .inl (cs 0, a_todo_n, .inl a_todo_f)), (a_color, .inl (cs 1, a_color_n, .inl a_color_f)), (a_painted, .inl (cs 0, a_painted_n, .inl a_painted_f))] sz)) 0 0 (va_A [(a, .inr (14, [.int a_thrown, .int a_taped, .int a_place, .int a_resulted, .int a_marks, .ref a_tape, .ref a_result, .ref a_terms, .ref a_names, .ref a_reader, .ref a_paper, .ref a_register, .ref a_became, .ref a_node, .ref a_marked, .ref a_markedRegister, .ref a_up, .ref a_touched, .ref a_todo, .ref a_color, .int a_touches, .ref a_painted, .int a_paints])), (a_terms, .inr (11, [.ref a_terms_kind, .ref a_terms_name, .ref a_terms_first, .ref a_terms_many, .ref a_terms_part, .ref a_terms_number, .int a_terms_size, .int a_terms_parts])), (a_terms_kind, .inl (cs 0, a_terms_kind_n, .inl a_terms_kind_f)), (a_terms_name, .inl (cs 0, a_terms_name_n, .inl a_terms_name_f)), (a_terms_first, .inl (cs 0, a_terms_first_n, .inl a_terms_first_f)), (a_terms_many, .inl (cs 0, a_terms_many_n, .inl a_terms_many_f)), (a_terms_part, .inl (cs 0, a_terms_part_n, .inl a_terms_part_f)), (a_became, .inl (cs 0, a_became_n, .inl a_became_f)), (a_node, .inl (cs 0, a_node_n, .inl a_node_f)), (a_up, .inl (cs 0, a_up_n, .inl a_up_f)), (a_todo, .inl (cs 0, a_todo_n, .inl a_todo_f)), (a_color, .inl (cs 1, a_color_n, .inl a_color_f)), (a_painted, .inl (cs 0, a_painted_n, .inl a_painted_f))] sz) := by
  refine Met.ofW (cc := b_Mo_finite) (maxL := 6) (ret := (some .boolean)) (by decide) rfl ?_
  intro p e s m args below meth c s₁ B hml hv
  obtain ⟨rfl, hsz, hP, hK, hD0, hgl, hkn, hkr⟩ := hv
  have hx := B.exec
  have hb := B.bytes
  have hr := B.returns
  have hg : ∀ w ∈ GW, w.before ([.ref a, .int x] : List Value).toArray s = true := fun w hw => atoms_spec (ws := .code y_Mo_finite b_Mo_finite 6 (some .boolean) :: GW) B.pre w (List.mem_cons_of_mem _ hw)
  have hown : s.vm.findClass R_Mo = some m.cls := findClass_of_methodNamed B.named
  have hlocks := B.notSynchronized
  subst hsz
  have hD := hD0.self (sz := s.heap.size)
  generalize hAe : va_A [(a, .inr (14, [.int a_thrown, .int a_taped, .int a_place, .int a_resulted, .int a_marks, .ref a_tape, .ref a_result, .ref a_terms, .ref a_names, .ref a_reader, .ref a_paper, .ref a_register, .ref a_became, .ref a_node, .ref a_marked, .ref a_markedRegister, .ref a_up, .ref a_touched, .ref a_todo, .ref a_color, .int a_touches, .ref a_painted, .int a_paints])), (a_terms, .inr (11, [.ref a_terms_kind, .ref a_terms_name, .ref a_terms_first, .ref a_terms_many, .ref a_terms_part, .ref a_terms_number, .int a_terms_size, .int a_terms_parts])), (a_terms_kind, .inl (cs 0, a_terms_kind_n, .inl a_terms_kind_f)), (a_terms_name, .inl (cs 0, a_terms_name_n, .inl a_terms_name_f)), (a_terms_first, .inl (cs 0, a_terms_first_n, .inl a_terms_first_f)), (a_terms_many, .inl (cs 0, a_terms_many_n, .inl a_terms_many_f)), (a_terms_part, .inl (cs 0, a_terms_part_n, .inl a_terms_part_f)), (a_became, .inl (cs 0, a_became_n, .inl a_became_f)), (a_node, .inl (cs 0, a_node_n, .inl a_node_f)), (a_up, .inl (cs 0, a_up_n, .inl a_up_f)), (a_todo, .inl (cs 0, a_todo_n, .inl a_todo_f)), (a_color, .inl (cs 1, a_color_n, .inl a_color_f)), (a_painted, .inl (cs 0, a_painted_n, .inl a_painted_f))] s.heap.size = A at hD hkn ⊢
  have hA : ∀ q : Nat, s.heap.size ≤ q → A q := fun q h => by rw [← hAe]; exact Or.inr h
  have hS : va_S A s.heap s.heap [] := va_S.rf
  have hP : va_P g classes [(a, .inr (14, [.int a_thrown, .int a_taped, .int a_place, .int a_resulted, .int a_marks, .ref a_tape, .ref a_result, .ref a_terms, .ref a_names, .ref a_reader, .ref a_paper, .ref a_register, .ref a_became, .ref a_node, .ref a_marked, .ref a_markedRegister, .ref a_up, .ref a_touched, .ref a_todo, .ref a_color, .int a_touches, .ref a_painted, .int a_paints])), (a_terms, .inr (11, [.ref a_terms_kind, .ref a_terms_name, .ref a_terms_first, .ref a_terms_many, .ref a_terms_part, .ref a_terms_number, .int a_terms_size, .int a_terms_parts])), (a_terms_kind, .inl (cs 0, a_terms_kind_n, .inl a_terms_kind_f)), (a_terms_name, .inl (cs 0, a_terms_name_n, .inl a_terms_name_f)), (a_terms_first, .inl (cs 0, a_terms_first_n, .inl a_terms_first_f)), (a_terms_many, .inl (cs 0, a_terms_many_n, .inl a_terms_many_f)), (a_terms_part, .inl (cs 0, a_terms_part_n, .inl a_terms_part_f)), (a_became, .inl (cs 0, a_became_n, .inl a_became_f)), (a_node, .inl (cs 0, a_node_n, .inl a_node_f)), (a_up, .inl (cs 0, a_up_n, .inl a_up_f)), (a_todo, .inl (cs 0, a_todo_n, .inl a_todo_f)), (a_color, .inl (cs 1, a_color_n, .inl a_color_f)), (a_painted, .inl (cs 0, a_painted_n, .inl a_painted_f))] s.heap := hP
  have hl := lv_entry ([.ref a, .int x]) (n := 6) (Nat.le_of_ble_eq_true rfl)
  rw [lg_entry_eq]
  generalize (lg_sl ([.ref a, .int x]) ++ List.replicate (6 - (lg_sl ([.ref a, .int x])).length) Slot.unset).toArray = ls at hl ⊢
  have hl : lv_has ls 6 [(0, .ref a), (1, .int x)] := hl
  refine gq (fun Q hQ => ?_)
  obtain ⟨H, hH⟩ : ∃ H : Heap, H = s.heap := ⟨_, rfl⟩
  rw [← hH] at hP
  have hS : va_S A s.heap H [] := by rw [hH]; exact hS
  refine W.eqH hH ?_
  obtain ⟨locs, hlc⟩ : ∃ L : List Loc, L = [] := ⟨_, rfl⟩
  rw [← hlc] at hS ⊢
  unfold p_Mo_finite at hok
  refine lv_iconst (v := 0) hx hb d_Mo_finite_0 (by decide) ?_
  refine lv_istore_n hx hb d_Mo_finite_1 rfl hl (by decide) rfl (fun ls hl => ?_)
  have hl : lv_has ls 6 [(2, .int 0), (0, .ref a), (1, .int x)] := hl
  refine lv_aload_n hx hb d_Mo_finite_2 rfl (lv_at hl 1 rfl) ?_
  refine va_get (D := g) (ci := 14) (v := .ref a_todo) (C := R_Mo) (T := F_Mo) (N := 23) hx hb hg ul_Mo hown hK hP 0 rfl rfl 18 (by decide) (hg _ wd_803) (fun _ h9 => h9) rfl d_Mo_finite_3 ?_
  refine lv_iconst (v := 0) hx hb d_Mo_finite_6 (by decide) ?_
  refine lv_aload_n hx hb d_Mo_finite_7 rfl (lv_at hl 1 rfl) ?_
  refine lv_iload_n hx hb d_Mo_finite_8 rfl (lv_at hl 2 rfl) ?_
  obtain ⟨r1, hc1, hok⟩ := bd_some hok
  obtain ⟨hPc, hDc, hFc⟩ := cut0 (wc := [(a, .inr (14, [.int a_thrown, .int a_taped, .int a_place, .int a_resulted, .int a_marks, .ref a_tape, .ref a_result, .ref a_terms, .ref a_names, .ref a_reader, .ref a_paper, .ref a_register, .ref a_became, .ref a_node, .ref a_marked, .ref a_markedRegister, .ref a_up, .ref a_touched, .ref a_todo, .ref a_color, .int a_touches, .ref a_painted, .int a_paints])), (a_terms, .inr (11, [.ref a_terms_kind, .ref a_terms_name, .ref a_terms_first, .ref a_terms_many, .ref a_terms_part, .ref a_terms_number, .int a_terms_size, .int a_terms_parts])), (a_terms_kind, .inl (cs 0, a_terms_kind_n, .inl a_terms_kind_f)), (a_terms_name, .inl (cs 0, a_terms_name_n, .inl a_terms_name_f)), (a_became, .inl (cs 0, a_became_n, .inl a_became_f)), (a_node, .inl (cs 0, a_node_n, .inl a_node_f)), (a_up, .inl (cs 0, a_up_n, .inl a_up_f))]) hP hD hS hA [0, 1, 2, 3, 7, 8, 9] (by decide) rfl
  refine va_calli (va_runV (As := [.int x]) (rest := [.int 0, .ref a_todo]) ⟨hx, hb, hml, hown, hg⟩ (c_Mo_root l g cs ka a_tape a_result a_names a_reader a_paper a_register a_marked a_markedRegister a_touched a_todo a_color a_painted a_terms_first a_terms_many a_terms_part a_terms_number a a_terms a_terms_kind a_terms_name a_became a_node a_up H.size n x a_thrown a_taped a_place a_resulted a_marks a_touches a_paints a_terms_size a_terms_parts a_terms_kind_n a_terms_kind_f a_terms_name_n a_terms_name_f a_became_n a_became_f a_node_n a_node_f a_up_n a_up_f r1 hc1) (cwV (C := R_Mo) 1 hg (gw_V wd_805 wd_806 wd_807 wd_780 wd_804) rfl rfl rfl (by decide +kernel) ⟨Nat.le_of_ble_eq_true rfl, Nat.le_of_ble_eq_true rfl⟩) ⟨gP_blind, va_recv (q0 := 0) (ci := 14) (q := (R_Mo, F_Mo, 23)) hK hP rfl rfl, gP_pre hPc hDc hK hgl hkn hkr hS hFc⟩ rfl rfl hl.1 rfl (lv_room (Nat.le_of_ble_eq_true rfl)) d_Mo_finite_9 ⟨Nat.le_of_ble_eq_true rfl, Nat.le_of_ble_eq_true rfl⟩) hS (fun q _ h => hFc q h) hFc (fun r1' u t H locs ht hvm hr1 hB hz1 hk1 hS => ?_)
  subst hr1
  rw [ht] at hB
  obtain ⟨hP1, hD1⟩ := hB
  obtain ⟨hP, hD⟩ := jn_A hP hD [0, 1, 2, 3, 7, 8, 9] [4, 5, 6, 10, 11, 12] rfl rfl (by decide) (by decide) hk1 hFc hP1 hD1
  obtain ⟨hP, hD⟩ : PD g A H [(a_terms_first, .inl (cs 0, a_terms_first_n, .inl a_terms_first_f)), (a_terms_many, .inl (cs 0, a_terms_many_n, .inl a_terms_many_f)), (a_terms_part, .inl (cs 0, a_terms_part_n, .inl a_terms_part_f)), (a_todo, .inl (cs 0, a_todo_n, .inl a_todo_f)), (a_color, .inl (cs 1, a_color_n, .inl a_color_f)), (a_painted, .inl (cs 0, a_painted_n, .inl a_painted_f)), (a, .inr (14, [.int a_thrown, .int a_taped, .int a_place, .int a_resulted, .int a_marks, .ref a_tape, .ref a_result, .ref a_terms, .ref a_names, .ref a_reader, .ref a_paper, .ref a_register, .ref a_became, .ref a_node, .ref a_marked, .ref a_markedRegister, .ref a_up, .ref a_touched, .ref a_todo, .ref a_color, .int a_touches, .ref a_painted, .int a_paints])), (a_terms, .inr (11, [.ref a_terms_kind, .ref a_terms_name, .ref a_terms_first, .ref a_terms_many, .ref a_terms_part, .ref a_terms_number, .int a_terms_size, .int a_terms_parts])), (a_terms_kind, .inl (cs 0, a_terms_kind_n, .inl a_terms_kind_f)), (a_terms_name, .inl (cs 0, a_terms_name_n, .inl a_terms_name_f)), (a_became, .inl (cs 0, a_became_n, .inl a_became_f)), (a_node, .inl (cs 0, a_node_n, .inl a_node_f)), (a_up, .inl (cs 0, a_up_n, .inl a_up_f))] := ⟨hP, hD⟩
  obtain ⟨hi2, hok⟩ := ck_some hok
  refine va_iast hx hb hK hP hD hS 3 0 rfl rfl (ixb_in hi2) d_Mo_finite_12 (fun H locs hP hD hS => ?_)
  obtain ⟨hP, hD⟩ : PD g A H [(a_terms_first, .inl (cs 0, a_terms_first_n, .inl a_terms_first_f)), (a_terms_many, .inl (cs 0, a_terms_many_n, .inl a_terms_many_f)), (a_terms_part, .inl (cs 0, a_terms_part_n, .inl a_terms_part_f)), (a_todo, .inl (cs 0, a_todo_n, .inl (upd a_todo_f (0 : Int32).toNatClampNeg r1))), (a_color, .inl (cs 1, a_color_n, .inl a_color_f)), (a_painted, .inl (cs 0, a_painted_n, .inl a_painted_f)), (a, .inr (14, [.int a_thrown, .int a_taped, .int a_place, .int a_resulted, .int a_marks, .ref a_tape, .ref a_result, .ref a_terms, .ref a_names, .ref a_reader, .ref a_paper, .ref a_register, .ref a_became, .ref a_node, .ref a_marked, .ref a_markedRegister, .ref a_up, .ref a_touched, .ref a_todo, .ref a_color, .int a_touches, .ref a_painted, .int a_paints])), (a_terms, .inr (11, [.ref a_terms_kind, .ref a_terms_name, .ref a_terms_first, .ref a_terms_many, .ref a_terms_part, .ref a_terms_number, .int a_terms_size, .int a_terms_parts])), (a_terms_kind, .inl (cs 0, a_terms_kind_n, .inl a_terms_kind_f)), (a_terms_name, .inl (cs 0, a_terms_name_n, .inl a_terms_name_f)), (a_became, .inl (cs 0, a_became_n, .inl a_became_f)), (a_node, .inl (cs 0, a_node_n, .inl a_node_f)), (a_up, .inl (cs 0, a_up_n, .inl a_up_f))] := ⟨hP, hD⟩
  refine lv_aload_n hx hb d_Mo_finite_13 rfl (lv_at hl 1 rfl) ?_
  refine va_get (D := g) (ci := 14) (v := .ref a_todo) (C := R_Mo) (T := F_Mo) (N := 23) hx hb hg ul_Mo hown hK hP 6 rfl rfl 18 (by decide) (hg _ wd_803) (fun _ h9 => h9) rfl d_Mo_finite_14 ?_
  refine lv_iconst (v := 1) hx hb d_Mo_finite_17 (by decide) ?_
  refine lv_iconst (v := 0) hx hb d_Mo_finite_18 (by decide) ?_
  obtain ⟨hi3, hok⟩ := ck_some hok
  refine va_iast hx hb hK hP hD hS 3 0 rfl rfl (ixb_in hi3) d_Mo_finite_19 (fun H locs hP hD hS => ?_)
  obtain ⟨hP, hD⟩ : PD g A H [(a_terms_first, .inl (cs 0, a_terms_first_n, .inl a_terms_first_f)), (a_terms_many, .inl (cs 0, a_terms_many_n, .inl a_terms_many_f)), (a_terms_part, .inl (cs 0, a_terms_part_n, .inl a_terms_part_f)), (a_todo, .inl (cs 0, a_todo_n, .inl (upd (upd a_todo_f (0 : Int32).toNatClampNeg r1) (1 : Int32).toNatClampNeg 0))), (a_color, .inl (cs 1, a_color_n, .inl a_color_f)), (a_painted, .inl (cs 0, a_painted_n, .inl a_painted_f)), (a, .inr (14, [.int a_thrown, .int a_taped, .int a_place, .int a_resulted, .int a_marks, .ref a_tape, .ref a_result, .ref a_terms, .ref a_names, .ref a_reader, .ref a_paper, .ref a_register, .ref a_became, .ref a_node, .ref a_marked, .ref a_markedRegister, .ref a_up, .ref a_touched, .ref a_todo, .ref a_color, .int a_touches, .ref a_painted, .int a_paints])), (a_terms, .inr (11, [.ref a_terms_kind, .ref a_terms_name, .ref a_terms_first, .ref a_terms_many, .ref a_terms_part, .ref a_terms_number, .int a_terms_size, .int a_terms_parts])), (a_terms_kind, .inl (cs 0, a_terms_kind_n, .inl a_terms_kind_f)), (a_terms_name, .inl (cs 0, a_terms_name_n, .inl a_terms_name_f)), (a_became, .inl (cs 0, a_became_n, .inl a_became_f)), (a_node, .inl (cs 0, a_node_n, .inl a_node_f)), (a_up, .inl (cs 0, a_up_n, .inl a_up_f))] := ⟨hP, hD⟩
  refine lv_aload_n hx hb d_Mo_finite_20 rfl (lv_at hl 1 rfl) ?_
  refine lv_aload_n hx hb d_Mo_finite_21 rfl (lv_at hl 1 rfl) ?_
  refine va_get (D := g) (ci := 14) (v := .ref a_todo) (C := R_Mo) (T := F_Mo) (N := 23) hx hb hg ul_Mo hown hK hP 6 rfl rfl 18 (by decide) (hg _ wd_803) (fun _ h9 => h9) rfl d_Mo_finite_22 ?_
  refine lv_iconst (v := 0) hx hb d_Mo_finite_25 (by decide) ?_
  obtain ⟨hi4, hok⟩ := ck_some hok
  refine va_iald hx hb hK hP 3 0 rfl rfl (ixb_in hi4) d_Mo_finite_26 ?_
  refine lv_iconst (v := 1) hx hb d_Mo_finite_27 (by decide) ?_
  obtain ⟨⟨a_paints_5, a_color_f_5, a_painted_f_5⟩, hc5, hok⟩ := bd_some hok
  dsimp only at hok
  obtain ⟨hPc, hDc, hFc⟩ := cut0 (wc := [(a, .inr (14, [.int a_thrown, .int a_taped, .int a_place, .int a_resulted, .int a_marks, .ref a_tape, .ref a_result, .ref a_terms, .ref a_names, .ref a_reader, .ref a_paper, .ref a_register, .ref a_became, .ref a_node, .ref a_marked, .ref a_markedRegister, .ref a_up, .ref a_touched, .ref a_todo, .ref a_color, .int a_touches, .ref a_painted, .int a_paints])), (a_color, .inl (cs 1, a_color_n, .inl a_color_f)), (a_painted, .inl (cs 0, a_painted_n, .inl a_painted_f))]) hP hD hS hA [6, 4, 5] (by decide) rfl
  refine va_callv (va_runV (As := [.int ((upd (upd a_todo_f (0 : Int32).toNatClampNeg r1) (1 : Int32).toNatClampNeg 0) (0 : Int32).toNatClampNeg), .int 1]) (rest := []) ⟨hx, hb, hml, hown, hg⟩ (c_Mo_paint l g cs ka a_tape a_result a_terms a_names a_reader a_paper a_register a_became a_node a_marked a_markedRegister a_up a_touched a_todo a a_color a_painted H.size ((upd (upd a_todo_f (0 : Int32).toNatClampNeg r1) (1 : Int32).toNatClampNeg 0) (0 : Int32).toNatClampNeg) (1 : Int32) a_thrown a_taped a_place a_resulted a_marks a_touches a_paints a_color_n a_color_f a_painted_n a_painted_f a_paints_5 a_color_f_5 a_painted_f_5 hc5) (cwV (C := R_Mo) 2 hg (gw_V wd_816 wd_817 wd_818 wd_780 wd_815) rfl rfl rfl (by decide +kernel) ⟨Nat.le_of_ble_eq_true rfl, Nat.le_of_ble_eq_true rfl⟩) ⟨gP_blind, va_recv (q0 := 6) (ci := 14) (q := (R_Mo, F_Mo, 23)) hK hP rfl rfl, gP_pre hPc hDc hK hgl hkn hkr hS hFc⟩ rfl rfl hl.1 rfl (lv_room (Nat.le_of_ble_eq_true rfl)) d_Mo_finite_28 ⟨Nat.le_of_ble_eq_true rfl, Nat.le_of_ble_eq_true rfl⟩) hS (fun q _ h => hFc q h) hFc (fun u t H locs ht hvm hr5 hB hz1 hk1 hS => ?_)
  rw [ht] at hB
  obtain ⟨hP1, hD1⟩ := hB
  obtain ⟨hP, hD⟩ := jn_A hP hD [6, 4, 5] [0, 1, 2, 3, 7, 8, 9, 10, 11, 12] rfl rfl (by decide) (by decide) hk1 hFc hP1 hD1
  obtain ⟨hP, hD⟩ : PD g A H [(a_terms_first, .inl (cs 0, a_terms_first_n, .inl a_terms_first_f)), (a_terms_many, .inl (cs 0, a_terms_many_n, .inl a_terms_many_f)), (a_terms_part, .inl (cs 0, a_terms_part_n, .inl a_terms_part_f)), (a_todo, .inl (cs 0, a_todo_n, .inl (upd (upd a_todo_f (0 : Int32).toNatClampNeg r1) (1 : Int32).toNatClampNeg 0))), (a_terms, .inr (11, [.ref a_terms_kind, .ref a_terms_name, .ref a_terms_first, .ref a_terms_many, .ref a_terms_part, .ref a_terms_number, .int a_terms_size, .int a_terms_parts])), (a_terms_kind, .inl (cs 0, a_terms_kind_n, .inl a_terms_kind_f)), (a_terms_name, .inl (cs 0, a_terms_name_n, .inl a_terms_name_f)), (a_became, .inl (cs 0, a_became_n, .inl a_became_f)), (a_node, .inl (cs 0, a_node_n, .inl a_node_f)), (a_up, .inl (cs 0, a_up_n, .inl a_up_f)), (a, .inr (14, [.int a_thrown, .int a_taped, .int a_place, .int a_resulted, .int a_marks, .ref a_tape, .ref a_result, .ref a_terms, .ref a_names, .ref a_reader, .ref a_paper, .ref a_register, .ref a_became, .ref a_node, .ref a_marked, .ref a_markedRegister, .ref a_up, .ref a_touched, .ref a_todo, .ref a_color, .int a_touches, .ref a_painted, .int a_paints_5])), (a_color, .inl (cs 1, a_color_n, .inl a_color_f_5)), (a_painted, .inl (cs 0, a_painted_n, .inl a_painted_f_5))] := ⟨hP, hD⟩
  have J6 : ∀ (kf6 : Nat) (H : Heap) (locs : List Loc) (ls : Array Slot) (x2_6 : Int32) (a_paints_6 : Int32) (a_todo_6f : Nat → Int32) (a_color_6f : Nat → Int32) (a_painted_6f : Nat → Int32), lv_has ls 6 [(2, .int x2_6), (0, .ref a), (1, .int x)] → PD g A H [(a_terms_first, .inl (cs 0, a_terms_first_n, .inl a_terms_first_f)), (a_terms_many, .inl (cs 0, a_terms_many_n, .inl a_terms_many_f)), (a_terms_part, .inl (cs 0, a_terms_part_n, .inl a_terms_part_f)), (a_todo, .inl (cs 0, a_todo_n, .inl a_todo_6f)), (a_terms, .inr (11, [.ref a_terms_kind, .ref a_terms_name, .ref a_terms_first, .ref a_terms_many, .ref a_terms_part, .ref a_terms_number, .int a_terms_size, .int a_terms_parts])), (a_terms_kind, .inl (cs 0, a_terms_kind_n, .inl a_terms_kind_f)), (a_terms_name, .inl (cs 0, a_terms_name_n, .inl a_terms_name_f)), (a_became, .inl (cs 0, a_became_n, .inl a_became_f)), (a_node, .inl (cs 0, a_node_n, .inl a_node_f)), (a_up, .inl (cs 0, a_up_n, .inl a_up_f)), (a, .inr (14, [.int a_thrown, .int a_taped, .int a_place, .int a_resulted, .int a_marks, .ref a_tape, .ref a_result, .ref a_terms, .ref a_names, .ref a_reader, .ref a_paper, .ref a_register, .ref a_became, .ref a_node, .ref a_marked, .ref a_markedRegister, .ref a_up, .ref a_touched, .ref a_todo, .ref a_color, .int a_touches, .ref a_painted, .int a_paints_6])), (a_color, .inl (cs 1, a_color_n, .inl a_color_6f)), (a_painted, .inl (cs 0, a_painted_n, .inl a_painted_6f))] → va_S A s.heap H locs → p_Mo_finite_31 n a_thrown a_taped a_place a_resulted a_marks a_touches a_terms_size a_terms_parts a_terms_kind_n a_terms_kind_f a_terms_name_n a_terms_name_f a_terms_first_n a_terms_first_f a_terms_many_n a_terms_many_f a_terms_part_n a_terms_part_f a_became_n a_became_f a_node_n a_node_f a_up_n a_up_f a_todo_n a_color_n a_painted_n kf6 x2_6 a_paints_6 a_todo_6f a_color_6f a_painted_6f = some (r, o_a_paints, o_a_todo_f, o_a_color_f, o_a_painted_f) → W p l e (headSpec (.code y_Mo_finite b_Mo_finite 6 (some .boolean) :: GW) { frames := 2, cells := 0, slots := 0, locals := 45 }).room s m ([.ref a, .int x] : List Value).toArray below meth c H locs 0 0 Q (F0 m 31 ls []) := by
    intro kf6
    induction kf6 with
    | zero => intro H locs ls x2_6 a_paints_6 a_todo_6f a_color_6f a_painted_6f hl ⟨hP, hD⟩ hS hok; rw [p_Mo_finite_31] at hok; cases hok
    | succ kf6 ih6 =>
      intro H locs ls x2_6 a_paints_6 a_todo_6f a_color_6f a_painted_6f hl ⟨hP, hD⟩ hS hok
      rw [p_Mo_finite_31] at hok
      refine lv_iload_n hx hb d_Mo_finite_31 rfl (lv_at hl 0 rfl) ?_
      refine lv_if_lt hx hb d_Mo_finite_32 rfl (fun h7 => ?_) (fun h7 => ?_)
      · rw [if_pos h7] at hok
        refine lv_iconst (v := 1) hx hb d_Mo_finite_187 (by decide) ?_
        have hq := Option.some.inj hok
        obtain ⟨hq0, hq⟩ := Prod.mk.inj hq
        obtain ⟨hq1, hq⟩ := Prod.mk.inj hq
        obtain ⟨hq2, hq⟩ := Prod.mk.inj hq
        obtain ⟨hq3, hq⟩ := Prod.mk.inj hq
        have hq4 := hq
        subst hq0
        subst hq1
        subst hq2
        subst hq3
        subst hq4
        obtain ⟨hP9, hD9⟩ := sub2 (ws' := [(a, .inr (14, [.int a_thrown, .int a_taped, .int a_place, .int a_resulted, .int a_marks, .ref a_tape, .ref a_result, .ref a_terms, .ref a_names, .ref a_reader, .ref a_paper, .ref a_register, .ref a_became, .ref a_node, .ref a_marked, .ref a_markedRegister, .ref a_up, .ref a_touched, .ref a_todo, .ref a_color, .int a_touches, .ref a_painted, .int a_paints_6])), (a_terms, .inr (11, [.ref a_terms_kind, .ref a_terms_name, .ref a_terms_first, .ref a_terms_many, .ref a_terms_part, .ref a_terms_number, .int a_terms_size, .int a_terms_parts])), (a_terms_kind, .inl (cs 0, a_terms_kind_n, .inl a_terms_kind_f)), (a_terms_name, .inl (cs 0, a_terms_name_n, .inl a_terms_name_f)), (a_terms_first, .inl (cs 0, a_terms_first_n, .inl a_terms_first_f)), (a_terms_many, .inl (cs 0, a_terms_many_n, .inl a_terms_many_f)), (a_terms_part, .inl (cs 0, a_terms_part_n, .inl a_terms_part_f)), (a_became, .inl (cs 0, a_became_n, .inl a_became_f)), (a_node, .inl (cs 0, a_node_n, .inl a_node_f)), (a_up, .inl (cs 0, a_up_n, .inl a_up_f)), (a_todo, .inl (cs 0, a_todo_n, .inl a_todo_6f)), (a_color, .inl (cs 1, a_color_n, .inl a_color_6f)), (a_painted, .inl (cs 0, a_painted_n, .inl a_painted_6f))]) hP hD [10, 4, 5, 6, 0, 1, 2, 7, 8, 9, 3, 11, 12] rfl (by decide) rfl
        rw [hQ]
        exact W.zret (v := 1) hx hb hr rfl (fun t ht hW => ⟨⟨_, (), rfl, rfl, by rw [ht]; exact hP9, hD9⟩, hS.F ht⟩) hS.2.2 d_Mo_finite_188
      · rw [if_neg h7] at hok
        refine lv_aload_n hx hb d_Mo_finite_35 rfl (lv_at hl 1 rfl) ?_
        refine va_get (D := g) (ci := 14) (v := .ref a_todo) (C := R_Mo) (T := F_Mo) (N := 23) hx hb hg ul_Mo hown hK hP 10 rfl rfl 18 (by decide) (hg _ wd_803) (fun _ h9 => h9) rfl d_Mo_finite_36 ?_
        refine lv_iconst (v := 2) hx hb d_Mo_finite_39 (by decide) ?_
        refine lv_iload_n hx hb d_Mo_finite_40 rfl (lv_at hl 0 rfl) ?_
        refine lv_imul hx hb d_Mo_finite_41 ?_
        obtain ⟨hi8, hok⟩ := ck_some hok
        refine va_iald hx hb hK hP 3 0 rfl rfl (ixb_in hi8) d_Mo_finite_42 ?_
        refine lv_istore_n hx hb d_Mo_finite_43 rfl hl (by decide) rfl (fun ls hl => ?_)
        have hl : lv_has ls 6 [(3, .int (a_todo_6f (2 * x2_6).toNatClampNeg)), (2, .int x2_6), (0, .ref a), (1, .int x)] := hl
        refine lv_aload_n hx hb d_Mo_finite_44 rfl (lv_at hl 2 rfl) ?_
        refine va_get (D := g) (ci := 14) (v := .ref a_todo) (C := R_Mo) (T := F_Mo) (N := 23) hx hb hg ul_Mo hown hK hP 10 rfl rfl 18 (by decide) (hg _ wd_803) (fun _ h9 => h9) rfl d_Mo_finite_45 ?_
        refine lv_iconst (v := 2) hx hb d_Mo_finite_48 (by decide) ?_
        refine lv_iload_n hx hb d_Mo_finite_49 rfl (lv_at hl 1 rfl) ?_
        refine lv_imul hx hb d_Mo_finite_50 ?_
        refine lv_iconst (v := 1) hx hb d_Mo_finite_51 (by decide) ?_
        refine lv_iadd hx hb d_Mo_finite_52 ?_
        obtain ⟨hi9, hok⟩ := ck_some hok
        refine va_iald hx hb hK hP 3 0 rfl rfl (ixb_in hi9) d_Mo_finite_53 ?_
        refine lv_istore hx hb d_Mo_finite_54 hl (by decide) rfl (fun ls hl => ?_)
        have hl : lv_has ls 6 [(4, .int (a_todo_6f ((2 * x2_6) + 1).toNatClampNeg)), (3, .int (a_todo_6f (2 * x2_6).toNatClampNeg)), (2, .int x2_6), (0, .ref a), (1, .int x)] := hl
        refine lv_iload hx hb d_Mo_finite_56 (lv_at hl 0 rfl) ?_
        refine lv_aload_n hx hb d_Mo_finite_58 rfl (lv_at hl 3 rfl) ?_
        refine va_get (D := g) (ci := 14) (v := .ref a_terms) (C := R_Mo) (T := F_Mo) (N := 23) hx hb hg ul_Mo hown hK hP 10 rfl rfl 7 (by decide) (hg _ wd_788) (fun _ h9 => h9) rfl d_Mo_finite_59 ?_
        refine va_get (D := g) (ci := 11) (v := .ref a_terms_many) (C := R_MoTerms) (T := F_MoTerms) (N := 8) hx hb hg ul_MoTerms hown hK hP 4 rfl rfl 3 (by decide) (hg _ wd_808) (fun _ h9 => h9) rfl d_Mo_finite_62 ?_
        refine lv_iload_n hx hb d_Mo_finite_65 rfl (lv_at hl 1 rfl) ?_
        obtain ⟨hi10, hok⟩ := ck_some hok
        refine va_iald hx hb hK hP 1 0 rfl rfl (ixb_in hi10) d_Mo_finite_66 ?_
        refine lv_icmp_eq hx hb d_Mo_finite_67 rfl (fun h11 => ?_) (fun h11 => ?_)
        · rw [if_pos h11] at hok
          refine lv_aload_n hx hb d_Mo_finite_83 rfl (lv_at hl 3 rfl) ?_
          refine va_get (D := g) (ci := 14) (v := .ref a_color) (C := R_Mo) (T := F_Mo) (N := 23) hx hb hg ul_Mo hown hK hP 10 rfl rfl 19 (by decide) (hg _ wd_800) (fun _ h9 => h9) rfl d_Mo_finite_84 ?_
          refine lv_iload_n hx hb d_Mo_finite_87 rfl (lv_at hl 1 rfl) ?_
          refine lv_iconst (v := 2) hx hb d_Mo_finite_88 (by decide) ?_
          obtain ⟨hi12, hok⟩ := ck_some hok
          refine va_bast hx hb hK hP hD hS 11 1 rfl rfl (ixb_in hi12) d_Mo_finite_89 (fun H locs hP hD hS => ?_)
          obtain ⟨hP, hD⟩ : PD g A H [(a_terms_first, .inl (cs 0, a_terms_first_n, .inl a_terms_first_f)), (a_terms_many, .inl (cs 0, a_terms_many_n, .inl a_terms_many_f)), (a_terms_part, .inl (cs 0, a_terms_part_n, .inl a_terms_part_f)), (a_todo, .inl (cs 0, a_todo_n, .inl a_todo_6f)), (a_terms, .inr (11, [.ref a_terms_kind, .ref a_terms_name, .ref a_terms_first, .ref a_terms_many, .ref a_terms_part, .ref a_terms_number, .int a_terms_size, .int a_terms_parts])), (a_terms_kind, .inl (cs 0, a_terms_kind_n, .inl a_terms_kind_f)), (a_terms_name, .inl (cs 0, a_terms_name_n, .inl a_terms_name_f)), (a_became, .inl (cs 0, a_became_n, .inl a_became_f)), (a_node, .inl (cs 0, a_node_n, .inl a_node_f)), (a_up, .inl (cs 0, a_up_n, .inl a_up_f)), (a, .inr (14, [.int a_thrown, .int a_taped, .int a_place, .int a_resulted, .int a_marks, .ref a_tape, .ref a_result, .ref a_terms, .ref a_names, .ref a_reader, .ref a_paper, .ref a_register, .ref a_became, .ref a_node, .ref a_marked, .ref a_markedRegister, .ref a_up, .ref a_touched, .ref a_todo, .ref a_color, .int a_touches, .ref a_painted, .int a_paints_6])), (a_color, .inl (cs 1, a_color_n, .inl (upd a_color_6f (a_todo_6f (2 * x2_6).toNatClampNeg).toNatClampNeg (vp_nar .byte 2)))), (a_painted, .inl (cs 0, a_painted_n, .inl a_painted_6f))] := ⟨hP, hD⟩
          refine lv_iinc (k := 2) (v := x2_6 + (-1)) hx hb d_Mo_finite_90 hl rfl rfl (by decide) rfl (fun ls hl => ?_)
          have hl : lv_has ls 6 [(2, .int (x2_6 + (-1))), (4, .int (a_todo_6f ((2 * x2_6) + 1).toNatClampNeg)), (3, .int (a_todo_6f (2 * x2_6).toNatClampNeg)), (0, .ref a), (1, .int x)] := hl
          refine lv_goto hx hb d_Mo_finite_93 rfl ?_
          exact ih6 _ _ _ (x2_6 + (-1)) a_paints_6 a_todo_6f (upd a_color_6f (a_todo_6f (2 * x2_6).toNatClampNeg).toNatClampNeg (vp_nar .byte 2)) a_painted_6f (lv_sub hl [0, 3, 4] rfl) (sub3 hP hD [0, 1, 2, 3, 4, 5, 6, 7, 8, 9, 10, 11, 12] (by decide)) hS hok
        · rw [if_neg h11] at hok
          refine lv_aload_n hx hb d_Mo_finite_70 rfl (lv_at hl 3 rfl) ?_
          refine va_get (D := g) (ci := 14) (v := .ref a_terms) (C := R_Mo) (T := F_Mo) (N := 23) hx hb hg ul_Mo hown hK hP 10 rfl rfl 7 (by decide) (hg _ wd_788) (fun _ h9 => h9) rfl d_Mo_finite_71 ?_
          refine va_get (D := g) (ci := 11) (v := .ref a_terms_kind) (C := R_MoTerms) (T := F_MoTerms) (N := 8) hx hb hg ul_MoTerms hown hK hP 4 rfl rfl 0 (by decide) (hg _ wd_789) (fun _ h9 => h9) rfl d_Mo_finite_74 ?_
          refine lv_iload_n hx hb d_Mo_finite_77 rfl (lv_at hl 1 rfl) ?_
          obtain ⟨hi13, hok⟩ := ck_some hok
          refine va_iald hx hb hK hP 5 0 rfl rfl (ixb_in hi13) d_Mo_finite_78 ?_
          refine lv_iconst (v := 2) hx hb d_Mo_finite_79 (by decide) ?_
          refine lv_icmp_eq hx hb d_Mo_finite_80 rfl (fun h14 => ?_) (fun h14 => ?_)
          · rw [if_pos h14] at hok
            refine lv_aload_n hx hb d_Mo_finite_96 rfl (lv_at hl 3 rfl) ?_
            refine va_get (D := g) (ci := 14) (v := .ref a_todo) (C := R_Mo) (T := F_Mo) (N := 23) hx hb hg ul_Mo hown hK hP 10 rfl rfl 18 (by decide) (hg _ wd_803) (fun _ h9 => h9) rfl d_Mo_finite_97 ?_
            refine lv_iconst (v := 2) hx hb d_Mo_finite_100 (by decide) ?_
            refine lv_iload_n hx hb d_Mo_finite_101 rfl (lv_at hl 2 rfl) ?_
            refine lv_imul hx hb d_Mo_finite_102 ?_
            refine lv_iconst (v := 1) hx hb d_Mo_finite_103 (by decide) ?_
            refine lv_iadd hx hb d_Mo_finite_104 ?_
            refine lv_dup2_11 hx hb d_Mo_finite_105 rfl rfl ?_
            obtain ⟨hi15, hok⟩ := ck_some hok
            refine va_iald hx hb hK hP 3 0 rfl rfl (ixb_in hi15) d_Mo_finite_106 ?_
            refine lv_iconst (v := 1) hx hb d_Mo_finite_107 (by decide) ?_
            refine lv_iadd hx hb d_Mo_finite_108 ?_
            obtain ⟨hi16, hok⟩ := ck_some hok
            refine va_iast hx hb hK hP hD hS 3 0 rfl rfl (ixb_in hi16) d_Mo_finite_109 (fun H locs hP hD hS => ?_)
            obtain ⟨hP, hD⟩ : PD g A H [(a_terms_first, .inl (cs 0, a_terms_first_n, .inl a_terms_first_f)), (a_terms_many, .inl (cs 0, a_terms_many_n, .inl a_terms_many_f)), (a_terms_part, .inl (cs 0, a_terms_part_n, .inl a_terms_part_f)), (a_todo, .inl (cs 0, a_todo_n, .inl (upd a_todo_6f ((2 * x2_6) + 1).toNatClampNeg ((a_todo_6f ((2 * x2_6) + 1).toNatClampNeg) + 1)))), (a_terms, .inr (11, [.ref a_terms_kind, .ref a_terms_name, .ref a_terms_first, .ref a_terms_many, .ref a_terms_part, .ref a_terms_number, .int a_terms_size, .int a_terms_parts])), (a_terms_kind, .inl (cs 0, a_terms_kind_n, .inl a_terms_kind_f)), (a_terms_name, .inl (cs 0, a_terms_name_n, .inl a_terms_name_f)), (a_became, .inl (cs 0, a_became_n, .inl a_became_f)), (a_node, .inl (cs 0, a_node_n, .inl a_node_f)), (a_up, .inl (cs 0, a_up_n, .inl a_up_f)), (a, .inr (14, [.int a_thrown, .int a_taped, .int a_place, .int a_resulted, .int a_marks, .ref a_tape, .ref a_result, .ref a_terms, .ref a_names, .ref a_reader, .ref a_paper, .ref a_register, .ref a_became, .ref a_node, .ref a_marked, .ref a_markedRegister, .ref a_up, .ref a_touched, .ref a_todo, .ref a_color, .int a_touches, .ref a_painted, .int a_paints_6])), (a_color, .inl (cs 1, a_color_n, .inl a_color_6f)), (a_painted, .inl (cs 0, a_painted_n, .inl a_painted_6f))] := ⟨hP, hD⟩
            refine lv_aload_n hx hb d_Mo_finite_110 rfl (lv_at hl 3 rfl) ?_
            refine lv_aload_n hx hb d_Mo_finite_111 rfl (lv_at hl 3 rfl) ?_
            refine va_get (D := g) (ci := 14) (v := .ref a_terms) (C := R_Mo) (T := F_Mo) (N := 23) hx hb hg ul_Mo hown hK hP 10 rfl rfl 7 (by decide) (hg _ wd_788) (fun _ h9 => h9) rfl d_Mo_finite_112 ?_
            refine lv_iload_n hx hb d_Mo_finite_115 rfl (lv_at hl 1 rfl) ?_
            refine lv_iload hx hb d_Mo_finite_116 (lv_at hl 0 rfl) ?_
            obtain ⟨r17, hc17, hok⟩ := bd_some hok
            obtain ⟨hPc, hDc, hFc⟩ := cut0 (wc := [(a_terms, .inr (11, [.ref a_terms_kind, .ref a_terms_name, .ref a_terms_first, .ref a_terms_many, .ref a_terms_part, .ref a_terms_number, .int a_terms_size, .int a_terms_parts])), (a_terms_first, .inl (cs 0, a_terms_first_n, .inl a_terms_first_f)), (a_terms_part, .inl (cs 0, a_terms_part_n, .inl a_terms_part_f))]) hP hD hS hA [4, 0, 2] (by decide) rfl
            refine va_calli (va_runV (As := [.int (a_todo_6f (2 * x2_6).toNatClampNeg), .int (a_todo_6f ((2 * x2_6) + 1).toNatClampNeg)]) (rest := [.ref a]) ⟨hx, hb, hml, hown, hg⟩ (c_MoTerms_part l g cs ka a_terms_kind a_terms_name a_terms_many a_terms_number a_terms a_terms_first a_terms_part H.size (a_todo_6f (2 * x2_6).toNatClampNeg) (a_todo_6f ((2 * x2_6) + 1).toNatClampNeg) a_terms_size a_terms_parts a_terms_first_n a_terms_first_f a_terms_part_n a_terms_part_f r17 hc17) (cwV (C := R_MoTerms) 2 hg (gw_V wd_813 wd_769 wd_770 wd_767 wd_766) rfl rfl rfl (by decide +kernel) ⟨Nat.le_of_ble_eq_true rfl, Nat.le_of_ble_eq_true rfl⟩) ⟨gP_blind, va_recv (q0 := 4) (ci := 11) (q := (R_MoTerms, F_MoTerms, 8)) hK hP rfl rfl, gP_pre hPc hDc hK hgl hkn hkr hS hFc⟩ rfl rfl hl.1 rfl (lv_room (Nat.le_of_ble_eq_true rfl)) d_Mo_finite_118 ⟨Nat.le_of_ble_eq_true rfl, Nat.le_of_ble_eq_true rfl⟩) hS (fun q _ h => hFc q h) hFc (fun r17' u t H locs ht hvm hr17 hB hz1 hk1 hS => ?_)
            subst hr17
            rw [ht] at hB
            obtain ⟨hP1, hD1⟩ := hB
            obtain ⟨hP, hD⟩ := jn_A hP hD [4, 0, 2] [1, 3, 5, 6, 7, 8, 9, 10, 11, 12] rfl rfl (by decide) (by decide) hk1 hFc hP1 hD1
            obtain ⟨hP, hD⟩ : PD g A H [(a_terms_many, .inl (cs 0, a_terms_many_n, .inl a_terms_many_f)), (a_todo, .inl (cs 0, a_todo_n, .inl (upd a_todo_6f ((2 * x2_6) + 1).toNatClampNeg ((a_todo_6f ((2 * x2_6) + 1).toNatClampNeg) + 1)))), (a_terms_kind, .inl (cs 0, a_terms_kind_n, .inl a_terms_kind_f)), (a_terms_name, .inl (cs 0, a_terms_name_n, .inl a_terms_name_f)), (a_became, .inl (cs 0, a_became_n, .inl a_became_f)), (a_node, .inl (cs 0, a_node_n, .inl a_node_f)), (a_up, .inl (cs 0, a_up_n, .inl a_up_f)), (a, .inr (14, [.int a_thrown, .int a_taped, .int a_place, .int a_resulted, .int a_marks, .ref a_tape, .ref a_result, .ref a_terms, .ref a_names, .ref a_reader, .ref a_paper, .ref a_register, .ref a_became, .ref a_node, .ref a_marked, .ref a_markedRegister, .ref a_up, .ref a_touched, .ref a_todo, .ref a_color, .int a_touches, .ref a_painted, .int a_paints_6])), (a_color, .inl (cs 1, a_color_n, .inl a_color_6f)), (a_painted, .inl (cs 0, a_painted_n, .inl a_painted_6f)), (a_terms, .inr (11, [.ref a_terms_kind, .ref a_terms_name, .ref a_terms_first, .ref a_terms_many, .ref a_terms_part, .ref a_terms_number, .int a_terms_size, .int a_terms_parts])), (a_terms_first, .inl (cs 0, a_terms_first_n, .inl a_terms_first_f)), (a_terms_part, .inl (cs 0, a_terms_part_n, .inl a_terms_part_f))] := ⟨hP, hD⟩
            obtain ⟨r18, hc18, hok⟩ := bd_some hok
            obtain ⟨hPc, hDc, hFc⟩ := cut0 (wc := [(a, .inr (14, [.int a_thrown, .int a_taped, .int a_place, .int a_resulted, .int a_marks, .ref a_tape, .ref a_result, .ref a_terms, .ref a_names, .ref a_reader, .ref a_paper, .ref a_register, .ref a_became, .ref a_node, .ref a_marked, .ref a_markedRegister, .ref a_up, .ref a_touched, .ref a_todo, .ref a_color, .int a_touches, .ref a_painted, .int a_paints_6])), (a_terms, .inr (11, [.ref a_terms_kind, .ref a_terms_name, .ref a_terms_first, .ref a_terms_many, .ref a_terms_part, .ref a_terms_number, .int a_terms_size, .int a_terms_parts])), (a_terms_kind, .inl (cs 0, a_terms_kind_n, .inl a_terms_kind_f)), (a_terms_name, .inl (cs 0, a_terms_name_n, .inl a_terms_name_f)), (a_became, .inl (cs 0, a_became_n, .inl a_became_f)), (a_node, .inl (cs 0, a_node_n, .inl a_node_f)), (a_up, .inl (cs 0, a_up_n, .inl a_up_f))]) hP hD hS hA [7, 10, 2, 3, 4, 5, 6] (by decide) rfl
            refine va_calli (va_runV (As := [.int r17]) (rest := []) ⟨hx, hb, hml, hown, hg⟩ (c_Mo_root l g cs ka a_tape a_result a_names a_reader a_paper a_register a_marked a_markedRegister a_touched a_todo a_color a_painted a_terms_first a_terms_many a_terms_part a_terms_number a a_terms a_terms_kind a_terms_name a_became a_node a_up H.size n r17 a_thrown a_taped a_place a_resulted a_marks a_touches a_paints_6 a_terms_size a_terms_parts a_terms_kind_n a_terms_kind_f a_terms_name_n a_terms_name_f a_became_n a_became_f a_node_n a_node_f a_up_n a_up_f r18 hc18) (cwV (C := R_Mo) 1 hg (gw_V wd_805 wd_806 wd_807 wd_780 wd_804) rfl rfl rfl (by decide +kernel) ⟨Nat.le_of_ble_eq_true rfl, Nat.le_of_ble_eq_true rfl⟩) ⟨gP_blind, va_recv (q0 := 7) (ci := 14) (q := (R_Mo, F_Mo, 23)) hK hP rfl rfl, gP_pre hPc hDc hK hgl hkn hkr hS hFc⟩ rfl rfl hl.1 rfl (lv_room (Nat.le_of_ble_eq_true rfl)) d_Mo_finite_121 ⟨Nat.le_of_ble_eq_true rfl, Nat.le_of_ble_eq_true rfl⟩) hS (fun q _ h => hFc q h) hFc (fun r18' u t H locs ht hvm hr18 hB hz1 hk1 hS => ?_)
            subst hr18
            rw [ht] at hB
            obtain ⟨hP1, hD1⟩ := hB
            obtain ⟨hP, hD⟩ := jn_A hP hD [7, 10, 2, 3, 4, 5, 6] [0, 1, 8, 9, 11, 12] rfl rfl (by decide) (by decide) hk1 hFc hP1 hD1
            obtain ⟨hP, hD⟩ : PD g A H [(a_terms_many, .inl (cs 0, a_terms_many_n, .inl a_terms_many_f)), (a_todo, .inl (cs 0, a_todo_n, .inl (upd a_todo_6f ((2 * x2_6) + 1).toNatClampNeg ((a_todo_6f ((2 * x2_6) + 1).toNatClampNeg) + 1)))), (a_color, .inl (cs 1, a_color_n, .inl a_color_6f)), (a_painted, .inl (cs 0, a_painted_n, .inl a_painted_6f)), (a_terms_first, .inl (cs 0, a_terms_first_n, .inl a_terms_first_f)), (a_terms_part, .inl (cs 0, a_terms_part_n, .inl a_terms_part_f)), (a, .inr (14, [.int a_thrown, .int a_taped, .int a_place, .int a_resulted, .int a_marks, .ref a_tape, .ref a_result, .ref a_terms, .ref a_names, .ref a_reader, .ref a_paper, .ref a_register, .ref a_became, .ref a_node, .ref a_marked, .ref a_markedRegister, .ref a_up, .ref a_touched, .ref a_todo, .ref a_color, .int a_touches, .ref a_painted, .int a_paints_6])), (a_terms, .inr (11, [.ref a_terms_kind, .ref a_terms_name, .ref a_terms_first, .ref a_terms_many, .ref a_terms_part, .ref a_terms_number, .int a_terms_size, .int a_terms_parts])), (a_terms_kind, .inl (cs 0, a_terms_kind_n, .inl a_terms_kind_f)), (a_terms_name, .inl (cs 0, a_terms_name_n, .inl a_terms_name_f)), (a_became, .inl (cs 0, a_became_n, .inl a_became_f)), (a_node, .inl (cs 0, a_node_n, .inl a_node_f)), (a_up, .inl (cs 0, a_up_n, .inl a_up_f))] := ⟨hP, hD⟩
            refine lv_istore hx hb d_Mo_finite_124 hl (by decide) rfl (fun ls hl => ?_)
            have hl : lv_has ls 6 [(5, .int r18), (4, .int (a_todo_6f ((2 * x2_6) + 1).toNatClampNeg)), (3, .int (a_todo_6f (2 * x2_6).toNatClampNeg)), (2, .int x2_6), (0, .ref a), (1, .int x)] := hl
            refine lv_aload_n hx hb d_Mo_finite_126 rfl (lv_at hl 4 rfl) ?_
            refine va_get (D := g) (ci := 14) (v := .ref a_color) (C := R_Mo) (T := F_Mo) (N := 23) hx hb hg ul_Mo hown hK hP 6 rfl rfl 19 (by decide) (hg _ wd_800) (fun _ h9 => h9) rfl d_Mo_finite_127 ?_
            refine lv_iload hx hb d_Mo_finite_130 (lv_at hl 0 rfl) ?_
            obtain ⟨hi19, hok⟩ := ck_some hok
            refine va_bald hx hb hK hP 2 1 rfl rfl (ixb_in hi19) d_Mo_finite_132 ?_
            refine lv_iconst (v := 1) hx hb d_Mo_finite_133 (by decide) ?_
            refine lv_icmp_ne hx hb d_Mo_finite_134 rfl (fun h20 => ?_) (fun h20 => ?_)
            · rw [if_neg h20] at hok
              refine lv_aload_n hx hb d_Mo_finite_139 rfl (lv_at hl 4 rfl) ?_
              refine va_get (D := g) (ci := 14) (v := .ref a_color) (C := R_Mo) (T := F_Mo) (N := 23) hx hb hg ul_Mo hown hK hP 6 rfl rfl 19 (by decide) (hg _ wd_800) (fun _ h9 => h9) rfl d_Mo_finite_140 ?_
              refine lv_iload hx hb d_Mo_finite_143 (lv_at hl 0 rfl) ?_
              obtain ⟨hi21, hok⟩ := ck_some hok
              refine va_bald hx hb hK hP 2 1 rfl rfl (ixb_in hi21) d_Mo_finite_145 ?_
              refine lv_iconst (v := 2) hx hb d_Mo_finite_146 (by decide) ?_
              refine lv_icmp_ne hx hb d_Mo_finite_147 rfl (fun h22 => ?_) (fun h22 => ?_)
              · rw [if_neg h22] at hok
                refine lv_aload_n hx hb d_Mo_finite_153 rfl (lv_at hl 4 rfl) ?_
                refine lv_iload hx hb d_Mo_finite_154 (lv_at hl 0 rfl) ?_
                refine lv_iconst (v := 1) hx hb d_Mo_finite_156 (by decide) ?_
                obtain ⟨⟨a_paints_23, a_color_f_23, a_painted_f_23⟩, hc23, hok⟩ := bd_some hok
                dsimp only at hok
                obtain ⟨hPc, hDc, hFc⟩ := cut0 (wc := [(a, .inr (14, [.int a_thrown, .int a_taped, .int a_place, .int a_resulted, .int a_marks, .ref a_tape, .ref a_result, .ref a_terms, .ref a_names, .ref a_reader, .ref a_paper, .ref a_register, .ref a_became, .ref a_node, .ref a_marked, .ref a_markedRegister, .ref a_up, .ref a_touched, .ref a_todo, .ref a_color, .int a_touches, .ref a_painted, .int a_paints_6])), (a_color, .inl (cs 1, a_color_n, .inl a_color_6f)), (a_painted, .inl (cs 0, a_painted_n, .inl a_painted_6f))]) hP hD hS hA [6, 2, 3] (by decide) rfl
                refine va_callv (va_runV (As := [.int r18, .int 1]) (rest := []) ⟨hx, hb, hml, hown, hg⟩ (c_Mo_paint l g cs ka a_tape a_result a_terms a_names a_reader a_paper a_register a_became a_node a_marked a_markedRegister a_up a_touched a_todo a a_color a_painted H.size r18 (1 : Int32) a_thrown a_taped a_place a_resulted a_marks a_touches a_paints_6 a_color_n a_color_6f a_painted_n a_painted_6f a_paints_23 a_color_f_23 a_painted_f_23 hc23) (cwV (C := R_Mo) 2 hg (gw_V wd_816 wd_817 wd_818 wd_780 wd_815) rfl rfl rfl (by decide +kernel) ⟨Nat.le_of_ble_eq_true rfl, Nat.le_of_ble_eq_true rfl⟩) ⟨gP_blind, va_recv (q0 := 6) (ci := 14) (q := (R_Mo, F_Mo, 23)) hK hP rfl rfl, gP_pre hPc hDc hK hgl hkn hkr hS hFc⟩ rfl rfl hl.1 rfl (lv_room (Nat.le_of_ble_eq_true rfl)) d_Mo_finite_157 ⟨Nat.le_of_ble_eq_true rfl, Nat.le_of_ble_eq_true rfl⟩) hS (fun q _ h => hFc q h) hFc (fun u t H locs ht hvm hr23 hB hz1 hk1 hS => ?_)
                rw [ht] at hB
                obtain ⟨hP1, hD1⟩ := hB
                obtain ⟨hP, hD⟩ := jn_A hP hD [6, 2, 3] [0, 1, 4, 5, 7, 8, 9, 10, 11, 12] rfl rfl (by decide) (by decide) hk1 hFc hP1 hD1
                obtain ⟨hP, hD⟩ : PD g A H [(a_terms_many, .inl (cs 0, a_terms_many_n, .inl a_terms_many_f)), (a_todo, .inl (cs 0, a_todo_n, .inl (upd a_todo_6f ((2 * x2_6) + 1).toNatClampNeg ((a_todo_6f ((2 * x2_6) + 1).toNatClampNeg) + 1)))), (a_terms_first, .inl (cs 0, a_terms_first_n, .inl a_terms_first_f)), (a_terms_part, .inl (cs 0, a_terms_part_n, .inl a_terms_part_f)), (a_terms, .inr (11, [.ref a_terms_kind, .ref a_terms_name, .ref a_terms_first, .ref a_terms_many, .ref a_terms_part, .ref a_terms_number, .int a_terms_size, .int a_terms_parts])), (a_terms_kind, .inl (cs 0, a_terms_kind_n, .inl a_terms_kind_f)), (a_terms_name, .inl (cs 0, a_terms_name_n, .inl a_terms_name_f)), (a_became, .inl (cs 0, a_became_n, .inl a_became_f)), (a_node, .inl (cs 0, a_node_n, .inl a_node_f)), (a_up, .inl (cs 0, a_up_n, .inl a_up_f)), (a, .inr (14, [.int a_thrown, .int a_taped, .int a_place, .int a_resulted, .int a_marks, .ref a_tape, .ref a_result, .ref a_terms, .ref a_names, .ref a_reader, .ref a_paper, .ref a_register, .ref a_became, .ref a_node, .ref a_marked, .ref a_markedRegister, .ref a_up, .ref a_touched, .ref a_todo, .ref a_color, .int a_touches, .ref a_painted, .int a_paints_23])), (a_color, .inl (cs 1, a_color_n, .inl a_color_f_23)), (a_painted, .inl (cs 0, a_painted_n, .inl a_painted_f_23))] := ⟨hP, hD⟩
                refine lv_iinc (k := 3) (v := x2_6 + 1) hx hb d_Mo_finite_160 hl rfl rfl (by decide) rfl (fun ls hl => ?_)
                have hl : lv_has ls 6 [(2, .int (x2_6 + 1)), (5, .int r18), (4, .int (a_todo_6f ((2 * x2_6) + 1).toNatClampNeg)), (3, .int (a_todo_6f (2 * x2_6).toNatClampNeg)), (0, .ref a), (1, .int x)] := hl
                refine lv_aload_n hx hb d_Mo_finite_163 rfl (lv_at hl 4 rfl) ?_
                refine va_get (D := g) (ci := 14) (v := .ref a_todo) (C := R_Mo) (T := F_Mo) (N := 23) hx hb hg ul_Mo hown hK hP 10 rfl rfl 18 (by decide) (hg _ wd_803) (fun _ h9 => h9) rfl d_Mo_finite_164 ?_
                refine lv_iconst (v := 2) hx hb d_Mo_finite_167 (by decide) ?_
                refine lv_iload_n hx hb d_Mo_finite_168 rfl (lv_at hl 0 rfl) ?_
                refine lv_imul hx hb d_Mo_finite_169 ?_
                refine lv_iload hx hb d_Mo_finite_170 (lv_at hl 1 rfl) ?_
                obtain ⟨hi24, hok⟩ := ck_some hok
                refine va_iast hx hb hK hP hD hS 1 0 rfl rfl (ixb_in hi24) d_Mo_finite_172 (fun H locs hP hD hS => ?_)
                obtain ⟨hP, hD⟩ : PD g A H [(a_terms_many, .inl (cs 0, a_terms_many_n, .inl a_terms_many_f)), (a_todo, .inl (cs 0, a_todo_n, .inl (upd (upd a_todo_6f ((2 * x2_6) + 1).toNatClampNeg ((a_todo_6f ((2 * x2_6) + 1).toNatClampNeg) + 1)) (2 * (x2_6 + 1)).toNatClampNeg r18))), (a_terms_first, .inl (cs 0, a_terms_first_n, .inl a_terms_first_f)), (a_terms_part, .inl (cs 0, a_terms_part_n, .inl a_terms_part_f)), (a_terms, .inr (11, [.ref a_terms_kind, .ref a_terms_name, .ref a_terms_first, .ref a_terms_many, .ref a_terms_part, .ref a_terms_number, .int a_terms_size, .int a_terms_parts])), (a_terms_kind, .inl (cs 0, a_terms_kind_n, .inl a_terms_kind_f)), (a_terms_name, .inl (cs 0, a_terms_name_n, .inl a_terms_name_f)), (a_became, .inl (cs 0, a_became_n, .inl a_became_f)), (a_node, .inl (cs 0, a_node_n, .inl a_node_f)), (a_up, .inl (cs 0, a_up_n, .inl a_up_f)), (a, .inr (14, [.int a_thrown, .int a_taped, .int a_place, .int a_resulted, .int a_marks, .ref a_tape, .ref a_result, .ref a_terms, .ref a_names, .ref a_reader, .ref a_paper, .ref a_register, .ref a_became, .ref a_node, .ref a_marked, .ref a_markedRegister, .ref a_up, .ref a_touched, .ref a_todo, .ref a_color, .int a_touches, .ref a_painted, .int a_paints_23])), (a_color, .inl (cs 1, a_color_n, .inl a_color_f_23)), (a_painted, .inl (cs 0, a_painted_n, .inl a_painted_f_23))] := ⟨hP, hD⟩
                refine lv_aload_n hx hb d_Mo_finite_173 rfl (lv_at hl 4 rfl) ?_
                refine va_get (D := g) (ci := 14) (v := .ref a_todo) (C := R_Mo) (T := F_Mo) (N := 23) hx hb hg ul_Mo hown hK hP 10 rfl rfl 18 (by decide) (hg _ wd_803) (fun _ h9 => h9) rfl d_Mo_finite_174 ?_
                refine lv_iconst (v := 2) hx hb d_Mo_finite_177 (by decide) ?_
                refine lv_iload_n hx hb d_Mo_finite_178 rfl (lv_at hl 0 rfl) ?_
                refine lv_imul hx hb d_Mo_finite_179 ?_
                refine lv_iconst (v := 1) hx hb d_Mo_finite_180 (by decide) ?_
                refine lv_iadd hx hb d_Mo_finite_181 ?_
                refine lv_iconst (v := 0) hx hb d_Mo_finite_182 (by decide) ?_
                obtain ⟨hi25, hok⟩ := ck_some hok
                refine va_iast hx hb hK hP hD hS 1 0 rfl rfl (ixb_in hi25) d_Mo_finite_183 (fun H locs hP hD hS => ?_)
                obtain ⟨hP, hD⟩ : PD g A H [(a_terms_many, .inl (cs 0, a_terms_many_n, .inl a_terms_many_f)), (a_todo, .inl (cs 0, a_todo_n, .inl (upd (upd (upd a_todo_6f ((2 * x2_6) + 1).toNatClampNeg ((a_todo_6f ((2 * x2_6) + 1).toNatClampNeg) + 1)) (2 * (x2_6 + 1)).toNatClampNeg r18) ((2 * (x2_6 + 1)) + 1).toNatClampNeg 0))), (a_terms_first, .inl (cs 0, a_terms_first_n, .inl a_terms_first_f)), (a_terms_part, .inl (cs 0, a_terms_part_n, .inl a_terms_part_f)), (a_terms, .inr (11, [.ref a_terms_kind, .ref a_terms_name, .ref a_terms_first, .ref a_terms_many, .ref a_terms_part, .ref a_terms_number, .int a_terms_size, .int a_terms_parts])), (a_terms_kind, .inl (cs 0, a_terms_kind_n, .inl a_terms_kind_f)), (a_terms_name, .inl (cs 0, a_terms_name_n, .inl a_terms_name_f)), (a_became, .inl (cs 0, a_became_n, .inl a_became_f)), (a_node, .inl (cs 0, a_node_n, .inl a_node_f)), (a_up, .inl (cs 0, a_up_n, .inl a_up_f)), (a, .inr (14, [.int a_thrown, .int a_taped, .int a_place, .int a_resulted, .int a_marks, .ref a_tape, .ref a_result, .ref a_terms, .ref a_names, .ref a_reader, .ref a_paper, .ref a_register, .ref a_became, .ref a_node, .ref a_marked, .ref a_markedRegister, .ref a_up, .ref a_touched, .ref a_todo, .ref a_color, .int a_touches, .ref a_painted, .int a_paints_23])), (a_color, .inl (cs 1, a_color_n, .inl a_color_f_23)), (a_painted, .inl (cs 0, a_painted_n, .inl a_painted_f_23))] := ⟨hP, hD⟩
                refine lv_goto hx hb d_Mo_finite_184 rfl ?_
                exact ih6 _ _ _ (x2_6 + 1) a_paints_23 (upd (upd (upd a_todo_6f ((2 * x2_6) + 1).toNatClampNeg ((a_todo_6f ((2 * x2_6) + 1).toNatClampNeg) + 1)) (2 * (x2_6 + 1)).toNatClampNeg r18) ((2 * (x2_6 + 1)) + 1).toNatClampNeg 0) a_color_f_23 a_painted_f_23 (lv_sub hl [0, 4, 5] rfl) (sub3 hP hD [2, 0, 3, 1, 4, 5, 6, 7, 8, 9, 10, 11, 12] (by decide)) hS hok
              · rw [if_pos h22] at hok
                refine lv_goto hx hb d_Mo_finite_150 rfl ?_
                exact ih6 _ _ _ x2_6 a_paints_6 (upd a_todo_6f ((2 * x2_6) + 1).toNatClampNeg ((a_todo_6f ((2 * x2_6) + 1).toNatClampNeg) + 1)) a_color_6f a_painted_6f (lv_sub hl [3, 4, 5] rfl) (sub3 hP hD [4, 0, 5, 1, 7, 8, 9, 10, 11, 12, 6, 2, 3] (by decide)) hS hok
            · rw [if_pos h20] at hok
              refine lv_iconst (v := 0) hx hb d_Mo_finite_137 (by decide) ?_
              have hq := Option.some.inj hok
              obtain ⟨hq0, hq⟩ := Prod.mk.inj hq
              obtain ⟨hq1, hq⟩ := Prod.mk.inj hq
              obtain ⟨hq2, hq⟩ := Prod.mk.inj hq
              obtain ⟨hq3, hq⟩ := Prod.mk.inj hq
              have hq4 := hq
              subst hq0
              subst hq1
              subst hq2
              subst hq3
              subst hq4
              obtain ⟨hP9, hD9⟩ := sub2 (ws' := [(a, .inr (14, [.int a_thrown, .int a_taped, .int a_place, .int a_resulted, .int a_marks, .ref a_tape, .ref a_result, .ref a_terms, .ref a_names, .ref a_reader, .ref a_paper, .ref a_register, .ref a_became, .ref a_node, .ref a_marked, .ref a_markedRegister, .ref a_up, .ref a_touched, .ref a_todo, .ref a_color, .int a_touches, .ref a_painted, .int a_paints_6])), (a_terms, .inr (11, [.ref a_terms_kind, .ref a_terms_name, .ref a_terms_first, .ref a_terms_many, .ref a_terms_part, .ref a_terms_number, .int a_terms_size, .int a_terms_parts])), (a_terms_kind, .inl (cs 0, a_terms_kind_n, .inl a_terms_kind_f)), (a_terms_name, .inl (cs 0, a_terms_name_n, .inl a_terms_name_f)), (a_terms_first, .inl (cs 0, a_terms_first_n, .inl a_terms_first_f)), (a_terms_many, .inl (cs 0, a_terms_many_n, .inl a_terms_many_f)), (a_terms_part, .inl (cs 0, a_terms_part_n, .inl a_terms_part_f)), (a_became, .inl (cs 0, a_became_n, .inl a_became_f)), (a_node, .inl (cs 0, a_node_n, .inl a_node_f)), (a_up, .inl (cs 0, a_up_n, .inl a_up_f)), (a_todo, .inl (cs 0, a_todo_n, .inl (upd a_todo_6f ((2 * x2_6) + 1).toNatClampNeg ((a_todo_6f ((2 * x2_6) + 1).toNatClampNeg) + 1)))), (a_color, .inl (cs 1, a_color_n, .inl a_color_6f)), (a_painted, .inl (cs 0, a_painted_n, .inl a_painted_6f))]) hP hD [6, 7, 8, 9, 4, 0, 5, 10, 11, 12, 1, 2, 3] rfl (by decide) rfl
              rw [hQ]
              exact W.zret (v := 0) hx hb hr rfl (fun t ht hW => ⟨⟨_, (), rfl, rfl, by rw [ht]; exact hP9, hD9⟩, hS.F ht⟩) hS.2.2 d_Mo_finite_138
          · rw [if_neg h14] at hok
            refine lv_aload_n hx hb d_Mo_finite_83 rfl (lv_at hl 3 rfl) ?_
            refine va_get (D := g) (ci := 14) (v := .ref a_color) (C := R_Mo) (T := F_Mo) (N := 23) hx hb hg ul_Mo hown hK hP 10 rfl rfl 19 (by decide) (hg _ wd_800) (fun _ h9 => h9) rfl d_Mo_finite_84 ?_
            refine lv_iload_n hx hb d_Mo_finite_87 rfl (lv_at hl 1 rfl) ?_
            refine lv_iconst (v := 2) hx hb d_Mo_finite_88 (by decide) ?_
            obtain ⟨hi26, hok⟩ := ck_some hok
            refine va_bast hx hb hK hP hD hS 11 1 rfl rfl (ixb_in hi26) d_Mo_finite_89 (fun H locs hP hD hS => ?_)
            obtain ⟨hP, hD⟩ : PD g A H [(a_terms_first, .inl (cs 0, a_terms_first_n, .inl a_terms_first_f)), (a_terms_many, .inl (cs 0, a_terms_many_n, .inl a_terms_many_f)), (a_terms_part, .inl (cs 0, a_terms_part_n, .inl a_terms_part_f)), (a_todo, .inl (cs 0, a_todo_n, .inl a_todo_6f)), (a_terms, .inr (11, [.ref a_terms_kind, .ref a_terms_name, .ref a_terms_first, .ref a_terms_many, .ref a_terms_part, .ref a_terms_number, .int a_terms_size, .int a_terms_parts])), (a_terms_kind, .inl (cs 0, a_terms_kind_n, .inl a_terms_kind_f)), (a_terms_name, .inl (cs 0, a_terms_name_n, .inl a_terms_name_f)), (a_became, .inl (cs 0, a_became_n, .inl a_became_f)), (a_node, .inl (cs 0, a_node_n, .inl a_node_f)), (a_up, .inl (cs 0, a_up_n, .inl a_up_f)), (a, .inr (14, [.int a_thrown, .int a_taped, .int a_place, .int a_resulted, .int a_marks, .ref a_tape, .ref a_result, .ref a_terms, .ref a_names, .ref a_reader, .ref a_paper, .ref a_register, .ref a_became, .ref a_node, .ref a_marked, .ref a_markedRegister, .ref a_up, .ref a_touched, .ref a_todo, .ref a_color, .int a_touches, .ref a_painted, .int a_paints_6])), (a_color, .inl (cs 1, a_color_n, .inl (upd a_color_6f (a_todo_6f (2 * x2_6).toNatClampNeg).toNatClampNeg (vp_nar .byte 2)))), (a_painted, .inl (cs 0, a_painted_n, .inl a_painted_6f))] := ⟨hP, hD⟩
            refine lv_iinc (k := 2) (v := x2_6 + (-1)) hx hb d_Mo_finite_90 hl rfl rfl (by decide) rfl (fun ls hl => ?_)
            have hl : lv_has ls 6 [(2, .int (x2_6 + (-1))), (4, .int (a_todo_6f ((2 * x2_6) + 1).toNatClampNeg)), (3, .int (a_todo_6f (2 * x2_6).toNatClampNeg)), (0, .ref a), (1, .int x)] := hl
            refine lv_goto hx hb d_Mo_finite_93 rfl ?_
            exact ih6 _ _ _ (x2_6 + (-1)) a_paints_6 a_todo_6f (upd a_color_6f (a_todo_6f (2 * x2_6).toNatClampNeg).toNatClampNeg (vp_nar .byte 2)) a_painted_6f (lv_sub hl [0, 3, 4] rfl) (sub3 hP hD [0, 1, 2, 3, 4, 5, 6, 7, 8, 9, 10, 11, 12] (by decide)) hS hok
  exact J6 n H locs ls (0 : Int32) a_paints_5 (upd (upd a_todo_f (0 : Int32).toNatClampNeg r1) (1 : Int32).toNatClampNeg 0) a_color_f_5 a_painted_f_5 hl ⟨hP, hD⟩ hS hok

theorem d_Mo_unify_0 : decode b_Mo_unify 0 = .ok (.aload_n 0, 1) := by decide +kernel
theorem d_Mo_unify_1 : decode b_Mo_unify 1 = .ok (.iload_n 1, 1) := by decide +kernel
theorem d_Mo_unify_2 : decode b_Mo_unify 2 = .ok (.invokestatic 124, 3) := by decide +kernel
theorem d_Mo_unify_5 : decode b_Mo_unify 5 = .ok (.ifCond .ne 10, 3) := by decide +kernel
theorem d_Mo_unify_8 : decode b_Mo_unify 8 = .ok (.iload_n 2, 1) := by decide +kernel
theorem d_Mo_unify_9 : decode b_Mo_unify 9 = .ok (.invokestatic 124, 3) := by decide +kernel
theorem d_Mo_unify_12 : decode b_Mo_unify 12 = .ok (.ifCond .eq 7, 3) := by decide +kernel
theorem d_Mo_unify_15 : decode b_Mo_unify 15 = .ok (.iconst 1, 1) := by decide +kernel
theorem d_Mo_unify_16 : decode b_Mo_unify 16 = .ok (.goto 4, 3) := by decide +kernel
theorem d_Mo_unify_19 : decode b_Mo_unify 19 = .ok (.iconst 0, 1) := by decide +kernel
theorem d_Mo_unify_20 : decode b_Mo_unify 20 = .ok (.putfield 91, 3) := by decide +kernel
theorem d_Mo_unify_23 : decode b_Mo_unify 23 = .ok (.aload_n 0, 1) := by decide +kernel
theorem d_Mo_unify_24 : decode b_Mo_unify 24 = .ok (.getfield 91, 3) := by decide +kernel
theorem d_Mo_unify_27 : decode b_Mo_unify 27 = .ok (.ifCond .le 5, 3) := by decide +kernel
theorem d_Mo_unify_30 : decode b_Mo_unify 30 = .ok (.iconst 0, 1) := by decide +kernel
theorem d_Mo_unify_31 : decode b_Mo_unify 31 = .ok (.ireturn, 1) := by decide +kernel
theorem d_Mo_unify_32 : decode b_Mo_unify 32 = .ok (.aload_n 0, 1) := by decide +kernel
theorem d_Mo_unify_33 : decode b_Mo_unify 33 = .ok (.aload_n 0, 1) := by decide +kernel
theorem d_Mo_unify_34 : decode b_Mo_unify 34 = .ok (.getfield 50, 3) := by decide +kernel
theorem d_Mo_unify_37 : decode b_Mo_unify 37 = .ok (.iload_n 1, 1) := by decide +kernel
theorem d_Mo_unify_38 : decode b_Mo_unify 38 = .ok (.iaload, 1) := by decide +kernel
theorem d_Mo_unify_39 : decode b_Mo_unify 39 = .ok (.aload_n 0, 1) := by decide +kernel
theorem d_Mo_unify_40 : decode b_Mo_unify 40 = .ok (.getfield 50, 3) := by decide +kernel
theorem d_Mo_unify_43 : decode b_Mo_unify 43 = .ok (.iload_n 2, 1) := by decide +kernel
theorem d_Mo_unify_44 : decode b_Mo_unify 44 = .ok (.iaload, 1) := by decide +kernel
theorem d_Mo_unify_45 : decode b_Mo_unify 45 = .ok (.iconst 0, 1) := by decide +kernel
theorem d_Mo_unify_46 : decode b_Mo_unify 46 = .ok (.invokevirtual 169, 3) := by decide +kernel
theorem d_Mo_unify_49 : decode b_Mo_unify 49 = .ok (.ifCond .eq 20, 3) := by decide +kernel
theorem d_Mo_unify_52 : decode b_Mo_unify 52 = .ok (.aload_n 0, 1) := by decide +kernel
theorem d_Mo_unify_53 : decode b_Mo_unify 53 = .ok (.aload_n 0, 1) := by decide +kernel
theorem d_Mo_unify_54 : decode b_Mo_unify 54 = .ok (.getfield 50, 3) := by decide +kernel
theorem d_Mo_unify_57 : decode b_Mo_unify 57 = .ok (.iload_n 1, 1) := by decide +kernel
theorem d_Mo_unify_58 : decode b_Mo_unify 58 = .ok (.iaload, 1) := by decide +kernel
theorem d_Mo_unify_59 : decode b_Mo_unify 59 = .ok (.invokevirtual 173, 3) := by decide +kernel
theorem d_Mo_unify_62 : decode b_Mo_unify 62 = .ok (.ifCond .eq 7, 3) := by decide +kernel
theorem d_Mo_unify_65 : decode b_Mo_unify 65 = .ok (.iconst 1, 1) := by decide +kernel
theorem d_Mo_unify_66 : decode b_Mo_unify 66 = .ok (.goto 4, 3) := by decide +kernel
theorem d_Mo_unify_69 : decode b_Mo_unify 69 = .ok (.iconst 0, 1) := by decide +kernel
theorem d_Mo_unify_70 : decode b_Mo_unify 70 = .ok (.istore_n 3, 1) := by decide +kernel
theorem d_Mo_unify_71 : decode b_Mo_unify 71 = .ok (.iconst 0, 1) := by decide +kernel
theorem d_Mo_unify_72 : decode b_Mo_unify 72 = .ok (.istore 4, 2) := by decide +kernel
theorem d_Mo_unify_74 : decode b_Mo_unify 74 = .ok (.iload 4, 2) := by decide +kernel
theorem d_Mo_unify_76 : decode b_Mo_unify 76 = .ok (.aload_n 0, 1) := by decide +kernel
theorem d_Mo_unify_77 : decode b_Mo_unify 77 = .ok (.getfield 166, 3) := by decide +kernel
theorem d_Mo_unify_80 : decode b_Mo_unify 80 = .ok (.if_icmp .ge 22, 3) := by decide +kernel
theorem d_Mo_unify_83 : decode b_Mo_unify 83 = .ok (.aload_n 0, 1) := by decide +kernel
theorem d_Mo_unify_84 : decode b_Mo_unify 84 = .ok (.getfield 79, 3) := by decide +kernel
theorem d_Mo_unify_87 : decode b_Mo_unify 87 = .ok (.aload_n 0, 1) := by decide +kernel
theorem d_Mo_unify_88 : decode b_Mo_unify 88 = .ok (.getfield 82, 3) := by decide +kernel
theorem d_Mo_unify_91 : decode b_Mo_unify 91 = .ok (.iload 4, 2) := by decide +kernel
theorem d_Mo_unify_93 : decode b_Mo_unify 93 = .ok (.iaload, 1) := by decide +kernel
theorem d_Mo_unify_94 : decode b_Mo_unify 94 = .ok (.iconst 0, 1) := by decide +kernel
theorem d_Mo_unify_95 : decode b_Mo_unify 95 = .ok (.bastore, 1) := by decide +kernel
theorem d_Mo_unify_96 : decode b_Mo_unify 96 = .ok (.iinc 4 1, 3) := by decide +kernel
theorem d_Mo_unify_99 : decode b_Mo_unify 99 = .ok (.goto (-25), 3) := by decide +kernel
theorem d_Mo_unify_102 : decode b_Mo_unify 102 = .ok (.aload_n 0, 1) := by decide +kernel
theorem d_Mo_unify_103 : decode b_Mo_unify 103 = .ok (.iconst 0, 1) := by decide +kernel
theorem d_Mo_unify_104 : decode b_Mo_unify 104 = .ok (.putfield 166, 3) := by decide +kernel
theorem d_Mo_unify_107 : decode b_Mo_unify 107 = .ok (.iconst 0, 1) := by decide +kernel
theorem d_Mo_unify_108 : decode b_Mo_unify 108 = .ok (.istore 4, 2) := by decide +kernel
theorem d_Mo_unify_110 : decode b_Mo_unify 110 = .ok (.iconst 0, 1) := by decide +kernel
theorem d_Mo_unify_111 : decode b_Mo_unify 111 = .ok (.istore 5, 2) := by decide +kernel
theorem d_Mo_unify_113 : decode b_Mo_unify 113 = .ok (.iload_n 3, 1) := by decide +kernel
theorem d_Mo_unify_114 : decode b_Mo_unify 114 = .ok (.ifCond .eq 98, 3) := by decide +kernel
theorem d_Mo_unify_117 : decode b_Mo_unify 117 = .ok (.iload 5, 2) := by decide +kernel
theorem d_Mo_unify_119 : decode b_Mo_unify 119 = .ok (.aload_n 0, 1) := by decide +kernel
theorem d_Mo_unify_120 : decode b_Mo_unify 120 = .ok (.getfield 39, 3) := by decide +kernel
theorem d_Mo_unify_123 : decode b_Mo_unify 123 = .ok (.getfield 111, 3) := by decide +kernel
theorem d_Mo_unify_126 : decode b_Mo_unify 126 = .ok (.if_icmp .ge 86, 3) := by decide +kernel
theorem d_Mo_unify_129 : decode b_Mo_unify 129 = .ok (.aload_n 0, 1) := by decide +kernel
theorem d_Mo_unify_130 : decode b_Mo_unify 130 = .ok (.getfield 54, 3) := by decide +kernel
theorem d_Mo_unify_133 : decode b_Mo_unify 133 = .ok (.iload 5, 2) := by decide +kernel
theorem d_Mo_unify_135 : decode b_Mo_unify 135 = .ok (.iaload, 1) := by decide +kernel
theorem d_Mo_unify_136 : decode b_Mo_unify 136 = .ok (.iconst (-1), 1) := by decide +kernel
theorem d_Mo_unify_137 : decode b_Mo_unify 137 = .ok (.if_icmp .ne 69, 3) := by decide +kernel
theorem d_Mo_unify_140 : decode b_Mo_unify 140 = .ok (.aload_n 0, 1) := by decide +kernel
theorem d_Mo_unify_141 : decode b_Mo_unify 141 = .ok (.getfield 57, 3) := by decide +kernel
theorem d_Mo_unify_144 : decode b_Mo_unify 144 = .ok (.iload 5, 2) := by decide +kernel
theorem d_Mo_unify_146 : decode b_Mo_unify 146 = .ok (.iaload, 1) := by decide +kernel
theorem d_Mo_unify_147 : decode b_Mo_unify 147 = .ok (.iconst (-1), 1) := by decide +kernel
theorem d_Mo_unify_148 : decode b_Mo_unify 148 = .ok (.if_icmp .ne 6, 3) := by decide +kernel
theorem d_Mo_unify_151 : decode b_Mo_unify 151 = .ok (.goto 55, 3) := by decide +kernel
theorem d_Mo_unify_154 : decode b_Mo_unify 154 = .ok (.aload_n 0, 1) := by decide +kernel
theorem d_Mo_unify_155 : decode b_Mo_unify 155 = .ok (.aload_n 0, 1) := by decide +kernel
theorem d_Mo_unify_156 : decode b_Mo_unify 156 = .ok (.getfield 57, 3) := by decide +kernel
theorem d_Mo_unify_159 : decode b_Mo_unify 159 = .ok (.iload 5, 2) := by decide +kernel
theorem d_Mo_unify_161 : decode b_Mo_unify 161 = .ok (.iaload, 1) := by decide +kernel
theorem d_Mo_unify_162 : decode b_Mo_unify 162 = .ok (.invokevirtual 145, 3) := by decide +kernel
theorem d_Mo_unify_165 : decode b_Mo_unify 165 = .ok (.istore 6, 2) := by decide +kernel
theorem d_Mo_unify_167 : decode b_Mo_unify 167 = .ok (.iload 6, 2) := by decide +kernel
theorem d_Mo_unify_169 : decode b_Mo_unify 169 = .ok (.aload_n 0, 1) := by decide +kernel
theorem d_Mo_unify_170 : decode b_Mo_unify 170 = .ok (.getfield 57, 3) := by decide +kernel
theorem d_Mo_unify_173 : decode b_Mo_unify 173 = .ok (.iload 5, 2) := by decide +kernel
theorem d_Mo_unify_175 : decode b_Mo_unify 175 = .ok (.iaload, 1) := by decide +kernel
theorem d_Mo_unify_176 : decode b_Mo_unify 176 = .ok (.if_icmp .ne 6, 3) := by decide +kernel
theorem d_Mo_unify_179 : decode b_Mo_unify 179 = .ok (.goto 27, 3) := by decide +kernel
theorem d_Mo_unify_182 : decode b_Mo_unify 182 = .ok (.aload_n 0, 1) := by decide +kernel
theorem d_Mo_unify_183 : decode b_Mo_unify 183 = .ok (.getfield 76, 3) := by decide +kernel
theorem d_Mo_unify_186 : decode b_Mo_unify 186 = .ok (.iload 4, 2) := by decide +kernel
theorem d_Mo_unify_188 : decode b_Mo_unify 188 = .ok (.iinc 4 1, 3) := by decide +kernel
theorem d_Mo_unify_191 : decode b_Mo_unify 191 = .ok (.iload 5, 2) := by decide +kernel
theorem d_Mo_unify_193 : decode b_Mo_unify 193 = .ok (.iastore, 1) := by decide +kernel
theorem d_Mo_unify_194 : decode b_Mo_unify 194 = .ok (.aload_n 0, 1) := by decide +kernel
theorem d_Mo_unify_195 : decode b_Mo_unify 195 = .ok (.getfield 76, 3) := by decide +kernel
theorem d_Mo_unify_198 : decode b_Mo_unify 198 = .ok (.iload 4, 2) := by decide +kernel
theorem d_Mo_unify_200 : decode b_Mo_unify 200 = .ok (.iinc 4 1, 3) := by decide +kernel
theorem d_Mo_unify_203 : decode b_Mo_unify 203 = .ok (.iload 6, 2) := by decide +kernel
theorem d_Mo_unify_205 : decode b_Mo_unify 205 = .ok (.iastore, 1) := by decide +kernel
theorem d_Mo_unify_206 : decode b_Mo_unify 206 = .ok (.iinc 5 1, 3) := by decide +kernel
theorem d_Mo_unify_209 : decode b_Mo_unify 209 = .ok (.goto (-96), 3) := by decide +kernel
theorem d_Mo_unify_212 : decode b_Mo_unify 212 = .ok (.aload_n 0, 1) := by decide +kernel
theorem d_Mo_unify_213 : decode b_Mo_unify 213 = .ok (.invokevirtual 176, 3) := by decide +kernel
theorem d_Mo_unify_216 : decode b_Mo_unify 216 = .ok (.iconst 0, 1) := by decide +kernel
theorem d_Mo_unify_217 : decode b_Mo_unify 217 = .ok (.istore 5, 2) := by decide +kernel
theorem d_Mo_unify_219 : decode b_Mo_unify 219 = .ok (.iload 5, 2) := by decide +kernel
theorem d_Mo_unify_221 : decode b_Mo_unify 221 = .ok (.iload 4, 2) := by decide +kernel
theorem d_Mo_unify_223 : decode b_Mo_unify 223 = .ok (.if_icmp .ge 30, 3) := by decide +kernel
theorem d_Mo_unify_226 : decode b_Mo_unify 226 = .ok (.aload_n 0, 1) := by decide +kernel
theorem d_Mo_unify_227 : decode b_Mo_unify 227 = .ok (.getfield 54, 3) := by decide +kernel
theorem d_Mo_unify_230 : decode b_Mo_unify 230 = .ok (.aload_n 0, 1) := by decide +kernel
theorem d_Mo_unify_231 : decode b_Mo_unify 231 = .ok (.getfield 76, 3) := by decide +kernel
theorem d_Mo_unify_234 : decode b_Mo_unify 234 = .ok (.iload 5, 2) := by decide +kernel
theorem d_Mo_unify_236 : decode b_Mo_unify 236 = .ok (.iaload, 1) := by decide +kernel
theorem d_Mo_unify_237 : decode b_Mo_unify 237 = .ok (.aload_n 0, 1) := by decide +kernel
theorem d_Mo_unify_238 : decode b_Mo_unify 238 = .ok (.getfield 76, 3) := by decide +kernel
theorem d_Mo_unify_241 : decode b_Mo_unify 241 = .ok (.iload 5, 2) := by decide +kernel
theorem d_Mo_unify_243 : decode b_Mo_unify 243 = .ok (.iconst 1, 1) := by decide +kernel
theorem d_Mo_unify_244 : decode b_Mo_unify 244 = .ok (.iadd, 1) := by decide +kernel
theorem d_Mo_unify_245 : decode b_Mo_unify 245 = .ok (.iaload, 1) := by decide +kernel
theorem d_Mo_unify_246 : decode b_Mo_unify 246 = .ok (.iastore, 1) := by decide +kernel
theorem d_Mo_unify_247 : decode b_Mo_unify 247 = .ok (.iinc 5 2, 3) := by decide +kernel
theorem d_Mo_unify_250 : decode b_Mo_unify 250 = .ok (.goto (-31), 3) := by decide +kernel
theorem d_Mo_unify_253 : decode b_Mo_unify 253 = .ok (.iload_n 3, 1) := by decide +kernel
theorem d_Mo_unify_254 : decode b_Mo_unify 254 = .ok (.ireturn, 1) := by decide +kernel
def p_Mo_unify_219 (n : Nat) (a_became_n : Nat) (a_todo_n : Nat) (a_painted_f : Nat → Int32) (y0_2 : Int32) (a_touched_f_6 : Nat → Int32) (x4_10 : Int32) (a_todo_10f : Nat → Int32) (a_touches_12 : Int32) (a_up_f_12 : Nat → Int32) (a_color_f_12 : Nat → Int32) (kf13 : Nat) (x5_13 : Int32) (a_became_13f : Nat → Int32) : Option (Int32 × Int32 × Int32 × Int32 × (Nat → Int32) × (Nat → Int32) × (Nat → Int32) × (Nat → Int32) × (Nat → Int32) × (Nat → Int32)) := match kf13 with
  | 0 => none
  | kf13 + 1 => if x4_10 ≤ x5_13 then (some ((0 : Int32), y0_2, a_touches_12, (0 : Int32), a_became_13f, a_up_f_12, a_touched_f_6, a_todo_10f, a_color_f_12, a_painted_f)) else (ck (ixb x5_13 a_todo_n) (ck (ixb (x5_13 + 1) a_todo_n) (ck (ixb (a_todo_10f x5_13.toNatClampNeg) a_became_n) (p_Mo_unify_219 n a_became_n a_todo_n a_painted_f y0_2 a_touched_f_6 x4_10 a_todo_10f a_touches_12 a_up_f_12 a_color_f_12 kf13 (x5_13 + 2) (upd a_became_13f (a_todo_10f x5_13.toNatClampNeg).toNatClampNeg (a_todo_10f (x5_13 + 1).toNatClampNeg))))))
def p_Mo_unify_113 (n : Nat) (a_taped : Int32) (a_place : Int32) (a_resulted : Int32) (a_marks : Int32) (a_became_n : Nat) (a_became_f : Nat → Int32) (a_up_n : Nat) (a_touched_n : Nat) (a_todo_n : Nat) (a_color_n : Nat) (a_painted_f : Nat → Int32) (y0_2 : Int32) (a_touches_6 : Int32) (a_up_f_6 : Nat → Int32) (a_touched_f_6 : Nat → Int32) (a_color_8f : Nat → Int32) (kf10 : Nat) (x5_10 : Int32) (x4_10 : Int32) (a_todo_10f : Nat → Int32) : Option (Int32 × Int32 × Int32 × Int32 × (Nat → Int32) × (Nat → Int32) × (Nat → Int32) × (Nat → Int32) × (Nat → Int32) × (Nat → Int32)) := match kf10 with
  | 0 => none
  | kf10 + 1 => (p_Mo_part_ n y0_2 a_taped a_place a_resulted a_marks a_touches_6 (0 : Int32) a_up_n a_up_f_6 a_touched_n a_touched_f_6 a_color_n a_color_8f).bind (fun (a_touches_12, a_up_f_12, a_color_f_12) => p_Mo_unify_219 n a_became_n a_todo_n a_painted_f y0_2 a_touched_f_6 x4_10 a_todo_10f a_touches_12 a_up_f_12 a_color_f_12 n (0 : Int32) a_became_f)
def p_Mo_unify_74 (n : Nat) (a_taped : Int32) (a_place : Int32) (a_resulted : Int32) (a_marks : Int32) (a_paints : Int32) (a_became_n : Nat) (a_became_f : Nat → Int32) (a_up_n : Nat) (a_touched_n : Nat) (a_todo_n : Nat) (a_color_n : Nat) (a_painted_n : Nat) (a_painted_f : Nat → Int32) (y0_2 : Int32) (a_touches_6 : Int32) (a_up_f_6 : Nat → Int32) (a_touched_f_6 : Nat → Int32) (a_todo_f_6 : Nat → Int32) (kf8 : Nat) (x4_8 : Int32) (a_color_8f : Nat → Int32) : Option (Int32 × Int32 × Int32 × Int32 × (Nat → Int32) × (Nat → Int32) × (Nat → Int32) × (Nat → Int32) × (Nat → Int32) × (Nat → Int32)) := match kf8 with
  | 0 => none
  | kf8 + 1 => if a_paints ≤ x4_8 then (p_Mo_unify_113 n a_taped a_place a_resulted a_marks a_became_n a_became_f a_up_n a_touched_n a_todo_n a_color_n a_painted_f y0_2 a_touches_6 a_up_f_6 a_touched_f_6 a_color_8f n (0 : Int32) (0 : Int32) a_todo_f_6) else (ck (ixb x4_8 a_painted_n) (ck (ixb (a_painted_f x4_8.toNatClampNeg) a_color_n) (p_Mo_unify_74 n a_taped a_place a_resulted a_marks a_paints a_became_n a_became_f a_up_n a_touched_n a_todo_n a_color_n a_painted_n a_painted_f y0_2 a_touches_6 a_up_f_6 a_touched_f_6 a_todo_f_6 kf8 (x4_8 + 1) (upd a_color_8f (a_painted_f x4_8.toNatClampNeg).toNatClampNeg (vp_nar .byte 0)))))
def p_Mo_unify_219_28 (n : Nat) (a_became_n : Nat) (a_todo_n : Nat) (y0_2 : Int32) (a_touched_f_6 : Nat → Int32) (a_painted_f_21 : Nat → Int32) (x4_25 : Int32) (a_todo_25f : Nat → Int32) (a_touches_27 : Int32) (a_up_f_27 : Nat → Int32) (a_color_f_27 : Nat → Int32) (kf28 : Nat) (x5_28 : Int32) (a_became_28f : Nat → Int32) : Option (Int32 × Int32 × Int32 × Int32 × (Nat → Int32) × (Nat → Int32) × (Nat → Int32) × (Nat → Int32) × (Nat → Int32) × (Nat → Int32)) := match kf28 with
  | 0 => none
  | kf28 + 1 => if x4_25 ≤ x5_28 then (some ((0 : Int32), y0_2, a_touches_27, (0 : Int32), a_became_28f, a_up_f_27, a_touched_f_6, a_todo_25f, a_color_f_27, a_painted_f_21)) else (ck (ixb x5_28 a_todo_n) (ck (ixb (x5_28 + 1) a_todo_n) (ck (ixb (a_todo_25f x5_28.toNatClampNeg) a_became_n) (p_Mo_unify_219_28 n a_became_n a_todo_n y0_2 a_touched_f_6 a_painted_f_21 x4_25 a_todo_25f a_touches_27 a_up_f_27 a_color_f_27 kf28 (x5_28 + 2) (upd a_became_28f (a_todo_25f x5_28.toNatClampNeg).toNatClampNeg (a_todo_25f (x5_28 + 1).toNatClampNeg))))))
def p_Mo_unify_113_25 (n : Nat) (a_taped : Int32) (a_place : Int32) (a_resulted : Int32) (a_marks : Int32) (a_became_n : Nat) (a_became_f : Nat → Int32) (a_up_n : Nat) (a_touched_n : Nat) (a_todo_n : Nat) (a_color_n : Nat) (y0_2 : Int32) (a_touches_6 : Int32) (a_up_f_6 : Nat → Int32) (a_touched_f_6 : Nat → Int32) (a_painted_f_21 : Nat → Int32) (a_color_23f : Nat → Int32) (kf25 : Nat) (x5_25 : Int32) (x4_25 : Int32) (a_todo_25f : Nat → Int32) : Option (Int32 × Int32 × Int32 × Int32 × (Nat → Int32) × (Nat → Int32) × (Nat → Int32) × (Nat → Int32) × (Nat → Int32) × (Nat → Int32)) := match kf25 with
  | 0 => none
  | kf25 + 1 => (p_Mo_part_ n y0_2 a_taped a_place a_resulted a_marks a_touches_6 (0 : Int32) a_up_n a_up_f_6 a_touched_n a_touched_f_6 a_color_n a_color_23f).bind (fun (a_touches_27, a_up_f_27, a_color_f_27) => p_Mo_unify_219_28 n a_became_n a_todo_n y0_2 a_touched_f_6 a_painted_f_21 x4_25 a_todo_25f a_touches_27 a_up_f_27 a_color_f_27 n (0 : Int32) a_became_f)
def p_Mo_unify_74_23 (n : Nat) (a_taped : Int32) (a_place : Int32) (a_resulted : Int32) (a_marks : Int32) (a_became_n : Nat) (a_became_f : Nat → Int32) (a_up_n : Nat) (a_touched_n : Nat) (a_todo_n : Nat) (a_color_n : Nat) (a_painted_n : Nat) (y0_2 : Int32) (a_touches_6 : Int32) (a_up_f_6 : Nat → Int32) (a_touched_f_6 : Nat → Int32) (a_paints_21 : Int32) (a_todo_f_21 : Nat → Int32) (a_painted_f_21 : Nat → Int32) (kf23 : Nat) (x4_23 : Int32) (a_color_23f : Nat → Int32) : Option (Int32 × Int32 × Int32 × Int32 × (Nat → Int32) × (Nat → Int32) × (Nat → Int32) × (Nat → Int32) × (Nat → Int32) × (Nat → Int32)) := match kf23 with
  | 0 => none
  | kf23 + 1 => if a_paints_21 ≤ x4_23 then (p_Mo_unify_113_25 n a_taped a_place a_resulted a_marks a_became_n a_became_f a_up_n a_touched_n a_todo_n a_color_n y0_2 a_touches_6 a_up_f_6 a_touched_f_6 a_painted_f_21 a_color_23f n (0 : Int32) (0 : Int32) a_todo_f_21) else (ck (ixb x4_23 a_painted_n) (ck (ixb (a_painted_f_21 x4_23.toNatClampNeg) a_color_n) (p_Mo_unify_74_23 n a_taped a_place a_resulted a_marks a_became_n a_became_f a_up_n a_touched_n a_todo_n a_color_n a_painted_n y0_2 a_touches_6 a_up_f_6 a_touched_f_6 a_paints_21 a_todo_f_21 a_painted_f_21 kf23 (x4_23 + 1) (upd a_color_23f (a_painted_f_21 x4_23.toNatClampNeg).toNatClampNeg (vp_nar .byte 0)))))
def p_Mo_unify_219_41 (n : Nat) (a_became_n : Nat) (a_todo_n : Nat) (y0_2 : Int32) (a_touched_f_6 : Nat → Int32) (a_painted_f_21 : Nat → Int32) (x4_37 : Int32) (a_todo_37f : Nat → Int32) (a_touches_40 : Int32) (a_up_f_40 : Nat → Int32) (a_color_f_40 : Nat → Int32) (kf41 : Nat) (x5_41 : Int32) (a_became_41f : Nat → Int32) : Option (Int32 × Int32 × Int32 × Int32 × (Nat → Int32) × (Nat → Int32) × (Nat → Int32) × (Nat → Int32) × (Nat → Int32) × (Nat → Int32)) := match kf41 with
  | 0 => none
  | kf41 + 1 => if x4_37 ≤ x5_41 then (some ((1 : Int32), y0_2, a_touches_40, (0 : Int32), a_became_41f, a_up_f_40, a_touched_f_6, a_todo_37f, a_color_f_40, a_painted_f_21)) else (ck (ixb x5_41 a_todo_n) (ck (ixb (x5_41 + 1) a_todo_n) (ck (ixb (a_todo_37f x5_41.toNatClampNeg) a_became_n) (p_Mo_unify_219_41 n a_became_n a_todo_n y0_2 a_touched_f_6 a_painted_f_21 x4_37 a_todo_37f a_touches_40 a_up_f_40 a_color_f_40 kf41 (x5_41 + 2) (upd a_became_41f (a_todo_37f x5_41.toNatClampNeg).toNatClampNeg (a_todo_37f (x5_41 + 1).toNatClampNeg))))))
def p_Mo_unify_113_37 (n : Nat) (a_taped : Int32) (a_place : Int32) (a_resulted : Int32) (a_marks : Int32) (a_terms_size : Int32) (a_terms_parts : Int32) (a_terms_kind_n : Nat) (a_terms_kind_f : Nat → Int32) (a_terms_name_n : Nat) (a_terms_name_f : Nat → Int32) (a_reader_variabled : Int32) (a_became_n : Nat) (a_became_f : Nat → Int32) (a_node_n : Nat) (a_node_f : Nat → Int32) (a_up_n : Nat) (a_touched_n : Nat) (a_todo_n : Nat) (a_color_n : Nat) (y0_2 : Int32) (a_touches_6 : Int32) (a_up_f_6 : Nat → Int32) (a_touched_f_6 : Nat → Int32) (a_painted_f_21 : Nat → Int32) (a_color_35f : Nat → Int32) (kf37 : Nat) (x5_37 : Int32) (x4_37 : Int32) (a_todo_37f : Nat → Int32) : Option (Int32 × Int32 × Int32 × Int32 × (Nat → Int32) × (Nat → Int32) × (Nat → Int32) × (Nat → Int32) × (Nat → Int32) × (Nat → Int32)) := match kf37 with
  | 0 => none
  | kf37 + 1 => if a_reader_variabled ≤ x5_37 then ((p_Mo_part_ n y0_2 a_taped a_place a_resulted a_marks a_touches_6 (0 : Int32) a_up_n a_up_f_6 a_touched_n a_touched_f_6 a_color_n a_color_35f).bind (fun (a_touches_40, a_up_f_40, a_color_f_40) => p_Mo_unify_219_41 n a_became_n a_todo_n y0_2 a_touched_f_6 a_painted_f_21 x4_37 a_todo_37f a_touches_40 a_up_f_40 a_color_f_40 n (0 : Int32) a_became_f)) else (ck (ixb x5_37 a_became_n) (if (a_became_f x5_37.toNatClampNeg) = (-1) then (ck (ixb x5_37 a_node_n) (if (a_node_f x5_37.toNatClampNeg) = (-1) then (p_Mo_unify_113_37 n a_taped a_place a_resulted a_marks a_terms_size a_terms_parts a_terms_kind_n a_terms_kind_f a_terms_name_n a_terms_name_f a_reader_variabled a_became_n a_became_f a_node_n a_node_f a_up_n a_touched_n a_todo_n a_color_n y0_2 a_touches_6 a_up_f_6 a_touched_f_6 a_painted_f_21 a_color_35f kf37 (x5_37 + 1) x4_37 a_todo_37f) else (ck (ixb x5_37 a_node_n) ((p_Mo_root n (a_node_f x5_37.toNatClampNeg) y0_2 a_taped a_place a_resulted a_marks a_touches_6 (0 : Int32) a_terms_size a_terms_parts a_terms_kind_n a_terms_kind_f a_terms_name_n a_terms_name_f a_became_n a_became_f a_node_n a_node_f a_up_n a_up_f_6).bind (fun r51 => ck (ixb x5_37 a_node_n) (if r51 = (a_node_f x5_37.toNatClampNeg) then (p_Mo_unify_113_37 n a_taped a_place a_resulted a_marks a_terms_size a_terms_parts a_terms_kind_n a_terms_kind_f a_terms_name_n a_terms_name_f a_reader_variabled a_became_n a_became_f a_node_n a_node_f a_up_n a_touched_n a_todo_n a_color_n y0_2 a_touches_6 a_up_f_6 a_touched_f_6 a_painted_f_21 a_color_35f kf37 (x5_37 + 1) x4_37 a_todo_37f) else (ck (ixb x4_37 a_todo_n) (ck (ixb (x4_37 + 1) a_todo_n) (p_Mo_unify_113_37 n a_taped a_place a_resulted a_marks a_terms_size a_terms_parts a_terms_kind_n a_terms_kind_f a_terms_name_n a_terms_name_f a_reader_variabled a_became_n a_became_f a_node_n a_node_f a_up_n a_touched_n a_todo_n a_color_n y0_2 a_touches_6 a_up_f_6 a_touched_f_6 a_painted_f_21 a_color_35f kf37 (x5_37 + 1) ((x4_37 + 1) + 1) (upd (upd a_todo_37f x4_37.toNatClampNeg x5_37) (x4_37 + 1).toNatClampNeg r51)))))))))) else (p_Mo_unify_113_37 n a_taped a_place a_resulted a_marks a_terms_size a_terms_parts a_terms_kind_n a_terms_kind_f a_terms_name_n a_terms_name_f a_reader_variabled a_became_n a_became_f a_node_n a_node_f a_up_n a_touched_n a_todo_n a_color_n y0_2 a_touches_6 a_up_f_6 a_touched_f_6 a_painted_f_21 a_color_35f kf37 (x5_37 + 1) x4_37 a_todo_37f)))
def p_Mo_unify_74_35 (n : Nat) (a_taped : Int32) (a_place : Int32) (a_resulted : Int32) (a_marks : Int32) (a_terms_size : Int32) (a_terms_parts : Int32) (a_terms_kind_n : Nat) (a_terms_kind_f : Nat → Int32) (a_terms_name_n : Nat) (a_terms_name_f : Nat → Int32) (a_reader_variabled : Int32) (a_became_n : Nat) (a_became_f : Nat → Int32) (a_node_n : Nat) (a_node_f : Nat → Int32) (a_up_n : Nat) (a_touched_n : Nat) (a_todo_n : Nat) (a_color_n : Nat) (a_painted_n : Nat) (y0_2 : Int32) (a_touches_6 : Int32) (a_up_f_6 : Nat → Int32) (a_touched_f_6 : Nat → Int32) (a_paints_21 : Int32) (a_todo_f_21 : Nat → Int32) (a_painted_f_21 : Nat → Int32) (kf35 : Nat) (x4_35 : Int32) (a_color_35f : Nat → Int32) : Option (Int32 × Int32 × Int32 × Int32 × (Nat → Int32) × (Nat → Int32) × (Nat → Int32) × (Nat → Int32) × (Nat → Int32) × (Nat → Int32)) := match kf35 with
  | 0 => none
  | kf35 + 1 => if a_paints_21 ≤ x4_35 then (p_Mo_unify_113_37 n a_taped a_place a_resulted a_marks a_terms_size a_terms_parts a_terms_kind_n a_terms_kind_f a_terms_name_n a_terms_name_f a_reader_variabled a_became_n a_became_f a_node_n a_node_f a_up_n a_touched_n a_todo_n a_color_n y0_2 a_touches_6 a_up_f_6 a_touched_f_6 a_painted_f_21 a_color_35f n (0 : Int32) (0 : Int32) a_todo_f_21) else (ck (ixb x4_35 a_painted_n) (ck (ixb (a_painted_f_21 x4_35.toNatClampNeg) a_color_n) (p_Mo_unify_74_35 n a_taped a_place a_resulted a_marks a_terms_size a_terms_parts a_terms_kind_n a_terms_kind_f a_terms_name_n a_terms_name_f a_reader_variabled a_became_n a_became_f a_node_n a_node_f a_up_n a_touched_n a_todo_n a_color_n a_painted_n y0_2 a_touches_6 a_up_f_6 a_touched_f_6 a_paints_21 a_todo_f_21 a_painted_f_21 kf35 (x4_35 + 1) (upd a_color_35f (a_painted_f_21 x4_35.toNatClampNeg).toNatClampNeg (vp_nar .byte 0)))))
def p_Mo_unify_20 (n : Nat) (x : Int32) (y : Int32) (a_taped : Int32) (a_place : Int32) (a_resulted : Int32) (a_marks : Int32) (a_touches : Int32) (a_paints : Int32) (a_terms_size : Int32) (a_terms_parts : Int32) (a_terms_kind_n : Nat) (a_terms_kind_f : Nat → Int32) (a_terms_name_n : Nat) (a_terms_name_f : Nat → Int32) (a_terms_first_n : Nat) (a_terms_first_f : Nat → Int32) (a_terms_many_n : Nat) (a_terms_many_f : Nat → Int32) (a_terms_part_n : Nat) (a_terms_part_f : Nat → Int32) (a_terms_number_n : Nat) (a_terms_number_f : Nat → Int64) (a_reader_variabled : Int32) (a_register_n : Nat) (a_register_f : Nat → Int32) (a_became_n : Nat) (a_became_f : Nat → Int32) (a_node_n : Nat) (a_node_f : Nat → Int32) (a_up_n : Nat) (a_up_f : Nat → Int32) (a_touched_n : Nat) (a_touched_f : Nat → Int32) (a_todo_n : Nat) (a_todo_f : Nat → Int32) (a_color_n : Nat) (a_color_f : Nat → Int32) (a_painted_n : Nat) (a_painted_f : Nat → Int32) (y0_2 : Int32) : Option (Int32 × Int32 × Int32 × Int32 × (Nat → Int32) × (Nat → Int32) × (Nat → Int32) × (Nat → Int32) × (Nat → Int32) × (Nat → Int32)) := if y0_2 ≤ 0 then (ck (ixb x a_register_n) (ck (ixb y a_register_n) ((p_Mo_classes n (a_register_f x.toNatClampNeg) (a_register_f y.toNatClampNeg) (0 : Int32) y0_2 a_taped a_place a_resulted a_marks a_touches a_paints a_terms_size a_terms_parts a_terms_kind_n a_terms_kind_f a_terms_name_n a_terms_name_f a_terms_first_n a_terms_first_f a_terms_many_n a_terms_many_f a_terms_part_n a_terms_part_f a_terms_number_n a_terms_number_f a_became_n a_became_f a_node_n a_node_f a_up_n a_up_f a_touched_n a_touched_f a_todo_n a_todo_f).bind (fun (r6, a_touches_6, a_up_f_6, a_touched_f_6, a_todo_f_6) => if r6 = 0 then (p_Mo_unify_74 n a_taped a_place a_resulted a_marks a_paints a_became_n a_became_f a_up_n a_touched_n a_todo_n a_color_n a_painted_n a_painted_f y0_2 a_touches_6 a_up_f_6 a_touched_f_6 a_todo_f_6 n (0 : Int32) a_color_f) else (ck (ixb x a_register_n) ((p_Mo_finite n (a_register_f x.toNatClampNeg) y0_2 a_taped a_place a_resulted a_marks a_touches_6 a_paints a_terms_size a_terms_parts a_terms_kind_n a_terms_kind_f a_terms_name_n a_terms_name_f a_terms_first_n a_terms_first_f a_terms_many_n a_terms_many_f a_terms_part_n a_terms_part_f a_became_n a_became_f a_node_n a_node_f a_up_n a_up_f_6 a_todo_n a_todo_f_6 a_color_n a_color_f a_painted_n a_painted_f).bind (fun (r21, a_paints_21, a_todo_f_21, a_color_f_21, a_painted_f_21) => if r21 = 0 then (p_Mo_unify_74_23 n a_taped a_place a_resulted a_marks a_became_n a_became_f a_up_n a_touched_n a_todo_n a_color_n a_painted_n y0_2 a_touches_6 a_up_f_6 a_touched_f_6 a_paints_21 a_todo_f_21 a_painted_f_21 n (0 : Int32) a_color_f_21) else (p_Mo_unify_74_35 n a_taped a_place a_resulted a_marks a_terms_size a_terms_parts a_terms_kind_n a_terms_kind_f a_terms_name_n a_terms_name_f a_reader_variabled a_became_n a_became_f a_node_n a_node_f a_up_n a_touched_n a_todo_n a_color_n a_painted_n y0_2 a_touches_6 a_up_f_6 a_touched_f_6 a_paints_21 a_todo_f_21 a_painted_f_21 n (0 : Int32) a_color_f_21)))))))) else (some ((0 : Int32), y0_2, a_touches, a_paints, a_became_f, a_up_f, a_touched_f, a_todo_f, a_color_f, a_painted_f))
def p_Mo_unify_15 (n : Nat) (x : Int32) (y : Int32) (a_taped : Int32) (a_place : Int32) (a_resulted : Int32) (a_marks : Int32) (a_touches : Int32) (a_paints : Int32) (a_terms_size : Int32) (a_terms_parts : Int32) (a_terms_kind_n : Nat) (a_terms_kind_f : Nat → Int32) (a_terms_name_n : Nat) (a_terms_name_f : Nat → Int32) (a_terms_first_n : Nat) (a_terms_first_f : Nat → Int32) (a_terms_many_n : Nat) (a_terms_many_f : Nat → Int32) (a_terms_part_n : Nat) (a_terms_part_f : Nat → Int32) (a_terms_number_n : Nat) (a_terms_number_f : Nat → Int64) (a_reader_variabled : Int32) (a_register_n : Nat) (a_register_f : Nat → Int32) (a_became_n : Nat) (a_became_f : Nat → Int32) (a_node_n : Nat) (a_node_f : Nat → Int32) (a_up_n : Nat) (a_up_f : Nat → Int32) (a_touched_n : Nat) (a_touched_f : Nat → Int32) (a_todo_n : Nat) (a_todo_f : Nat → Int32) (a_color_n : Nat) (a_color_f : Nat → Int32) (a_painted_n : Nat) (a_painted_f : Nat → Int32) : Option (Int32 × Int32 × Int32 × Int32 × (Nat → Int32) × (Nat → Int32) × (Nat → Int32) × (Nat → Int32) × (Nat → Int32) × (Nat → Int32)) := p_Mo_unify_20 n x y a_taped a_place a_resulted a_marks a_touches a_paints a_terms_size a_terms_parts a_terms_kind_n a_terms_kind_f a_terms_name_n a_terms_name_f a_terms_first_n a_terms_first_f a_terms_many_n a_terms_many_f a_terms_part_n a_terms_part_f a_terms_number_n a_terms_number_f a_reader_variabled a_register_n a_register_f a_became_n a_became_f a_node_n a_node_f a_up_n a_up_f a_touched_n a_touched_f a_todo_n a_todo_f a_color_n a_color_f a_painted_n a_painted_f (1 : Int32)
def p_Mo_unify (n : Nat) (x : Int32) (y : Int32) (a_thrown : Int32) (a_taped : Int32) (a_place : Int32) (a_resulted : Int32) (a_marks : Int32) (a_touches : Int32) (a_paints : Int32) (a_terms_size : Int32) (a_terms_parts : Int32) (a_terms_kind_n : Nat) (a_terms_kind_f : Nat → Int32) (a_terms_name_n : Nat) (a_terms_name_f : Nat → Int32) (a_terms_first_n : Nat) (a_terms_first_f : Nat → Int32) (a_terms_many_n : Nat) (a_terms_many_f : Nat → Int32) (a_terms_part_n : Nat) (a_terms_part_f : Nat → Int32) (a_terms_number_n : Nat) (a_terms_number_f : Nat → Int64) (a_reader_n : Int32) (a_reader_at : Int32) (a_reader_behind : Int32) (a_reader_token : Int32) (a_reader_open : Int32) (a_reader_number : Int64) (a_reader_letters : Int32) (a_reader_top : Int32) (a_reader_place : Int32) (a_reader_variabled : Int32) (a_reader_known : Int32) (a_reader_rank : Int32) (a_register_n : Nat) (a_register_f : Nat → Int32) (a_became_n : Nat) (a_became_f : Nat → Int32) (a_node_n : Nat) (a_node_f : Nat → Int32) (a_up_n : Nat) (a_up_f : Nat → Int32) (a_touched_n : Nat) (a_touched_f : Nat → Int32) (a_todo_n : Nat) (a_todo_f : Nat → Int32) (a_color_n : Nat) (a_color_f : Nat → Int32) (a_painted_n : Nat) (a_painted_f : Nat → Int32) : Option (Int32 × Int32 × Int32 × Int32 × (Nat → Int32) × (Nat → Int32) × (Nat → Int32) × (Nat → Int32) × (Nat → Int32) × (Nat → Int32)) := (p_Mo_none x).bind (fun r1 => if r1 = 0 then ((p_Mo_none y).bind (fun r60 => if r60 = 0 then (p_Mo_unify_20 n x y a_taped a_place a_resulted a_marks a_touches a_paints a_terms_size a_terms_parts a_terms_kind_n a_terms_kind_f a_terms_name_n a_terms_name_f a_terms_first_n a_terms_first_f a_terms_many_n a_terms_many_f a_terms_part_n a_terms_part_f a_terms_number_n a_terms_number_f a_reader_variabled a_register_n a_register_f a_became_n a_became_f a_node_n a_node_f a_up_n a_up_f a_touched_n a_touched_f a_todo_n a_todo_f a_color_n a_color_f a_painted_n a_painted_f (0 : Int32)) else (p_Mo_unify_15 n x y a_taped a_place a_resulted a_marks a_touches a_paints a_terms_size a_terms_parts a_terms_kind_n a_terms_kind_f a_terms_name_n a_terms_name_f a_terms_first_n a_terms_first_f a_terms_many_n a_terms_many_f a_terms_part_n a_terms_part_f a_terms_number_n a_terms_number_f a_reader_variabled a_register_n a_register_f a_became_n a_became_f a_node_n a_node_f a_up_n a_up_f a_touched_n a_touched_f a_todo_n a_todo_f a_color_n a_color_f a_painted_n a_painted_f))) else (p_Mo_unify_15 n x y a_taped a_place a_resulted a_marks a_touches a_paints a_terms_size a_terms_parts a_terms_kind_n a_terms_kind_f a_terms_name_n a_terms_name_f a_terms_first_n a_terms_first_f a_terms_many_n a_terms_many_f a_terms_part_n a_terms_part_f a_terms_number_n a_terms_number_f a_reader_variabled a_register_n a_register_f a_became_n a_became_f a_node_n a_node_f a_up_n a_up_f a_touched_n a_touched_f a_todo_n a_todo_f a_color_n a_color_f a_painted_n a_painted_f))
set_option maxHeartbeats 40000000 in
set_option maxRecDepth 100000 in
theorem c_Mo_unify (l : Launch) (g : va_G) (cs : Nat → ClassId) (ka : Nat → Nat) (a_tape : Nat) (a_result : Nat) (a_names : Nat) (a_paper : Nat) (a_marked : Nat) (a_markedRegister : Nat) (a_reader_sides : Nat) (a_reader_ranks : Nat) (a_reader_stop : Nat) (a_reader_terms : Nat) (a_reader_names : Nat) (a_reader_word : Nat) (a_reader_stack : Nat) (a_reader_variables : Nat) (a_reader_kept : Nat) (a a_terms a_terms_kind a_terms_name a_terms_first a_terms_many a_terms_part a_terms_number a_reader a_register a_became a_node a_up a_touched a_todo a_color a_painted : Nat) (a_reader_s : Value) (sz : Nat) (n : Nat) (x : Int32) (y : Int32) (a_thrown : Int32) (a_taped : Int32) (a_place : Int32) (a_resulted : Int32) (a_marks : Int32) (a_touches : Int32) (a_paints : Int32) (a_terms_size : Int32) (a_terms_parts : Int32) (a_terms_kind_n : Nat) (a_terms_kind_f : Nat → Int32) (a_terms_name_n : Nat) (a_terms_name_f : Nat → Int32) (a_terms_first_n : Nat) (a_terms_first_f : Nat → Int32) (a_terms_many_n : Nat) (a_terms_many_f : Nat → Int32) (a_terms_part_n : Nat) (a_terms_part_f : Nat → Int32) (a_terms_number_n : Nat) (a_terms_number_f : Nat → Int64) (a_reader_n : Int32) (a_reader_at : Int32) (a_reader_behind : Int32) (a_reader_token : Int32) (a_reader_open : Int32) (a_reader_number : Int64) (a_reader_letters : Int32) (a_reader_top : Int32) (a_reader_place : Int32) (a_reader_variabled : Int32) (a_reader_known : Int32) (a_reader_rank : Int32) (a_register_n : Nat) (a_register_f : Nat → Int32) (a_became_n : Nat) (a_became_f : Nat → Int32) (a_node_n : Nat) (a_node_f : Nat → Int32) (a_up_n : Nat) (a_up_f : Nat → Int32) (a_touched_n : Nat) (a_touched_f : Nat → Int32) (a_todo_n : Nat) (a_todo_f : Nat → Int32) (a_color_n : Nat) (a_color_f : Nat → Int32) (a_painted_n : Nat) (a_painted_f : Nat → Int32) (r : Int32) (o_a_thrown : Int32) (o_a_touches : Int32) (o_a_paints : Int32) (o_a_became_f : Nat → Int32) (o_a_up_f : Nat → Int32) (o_a_touched_f : Nat → Int32) (o_a_todo_f : Nat → Int32) (o_a_color_f : Nat → Int32) (o_a_painted_f : Nat → Int32) (hok : p_Mo_unify n x y a_thrown a_taped a_place a_resulted a_marks a_touches a_paints a_terms_size a_terms_parts a_terms_kind_n a_terms_kind_f a_terms_name_n a_terms_name_f a_terms_first_n a_terms_first_f a_terms_many_n a_terms_many_f a_terms_part_n a_terms_part_f a_terms_number_n a_terms_number_f a_reader_n a_reader_at a_reader_behind a_reader_token a_reader_open a_reader_number a_reader_letters a_reader_top a_reader_place a_reader_variabled a_reader_known a_reader_rank a_register_n a_register_f a_became_n a_became_f a_node_n a_node_f a_up_n a_up_f a_touched_n a_touched_f a_todo_n a_todo_f a_color_n a_color_f a_painted_n a_painted_f = some (r, o_a_thrown, o_a_touches, o_a_paints, o_a_became_f, o_a_up_f, o_a_touched_f, o_a_todo_f, o_a_color_f, o_a_painted_f)) : Met l y_Mo_unify (.code y_Mo_unify b_Mo_unify 7 (some .boolean) :: GW) { frames := 3, cells := 0, slots := 0, locals := 74 } (va_Pc [.ref a, .int x, .int y] (gP g cs ka [(a, .inr (14, [.int a_thrown, .int a_taped, .int a_place, .int a_resulted, .int a_marks, .ref a_tape, .ref a_result, .ref a_terms, .ref a_names, .ref a_reader, .ref a_paper, .ref a_register, .ref a_became, .ref a_node, .ref a_marked, .ref a_markedRegister, .ref a_up, .ref a_touched, .ref a_todo, .ref a_color, .int a_touches, .ref a_painted, .int a_paints])), (a_terms, .inr (11, [.ref a_terms_kind, .ref a_terms_name, .ref a_terms_first, .ref a_terms_many, .ref a_terms_part, .ref a_terms_number, .int a_terms_size, .int a_terms_parts])), (a_terms_kind, .inl (cs 0, a_terms_kind_n, .inl a_terms_kind_f)), (a_terms_name, .inl (cs 0, a_terms_name_n, .inl a_terms_name_f)), (a_terms_first, .inl (cs 0, a_terms_first_n, .inl a_terms_first_f)), (a_terms_many, .inl (cs 0, a_terms_many_n, .inl a_terms_many_f)), (a_terms_part, .inl (cs 0, a_terms_part_n, .inl a_terms_part_f)), (a_terms_number, .inl (cs 2, a_terms_number_n, .inr (.inl a_terms_number_f))), (a_reader, .inr (12, [.ref a_reader_sides, .ref a_reader_ranks, .ref a_reader_stop, .ref a_reader_terms, .ref a_reader_names, a_reader_s, .int a_reader_n, .int a_reader_at, .int a_reader_behind, .int a_reader_token, .int a_reader_open, .long a_reader_number, .ref a_reader_word, .int a_reader_letters, .ref a_reader_stack, .int a_reader_top, .int a_reader_place, .ref a_reader_variables, .int a_reader_variabled, .int a_reader_known, .int a_reader_rank, .ref a_reader_kept])), (a_register, .inl (cs 0, a_register_n, .inl a_register_f)), (a_became, .inl (cs 0, a_became_n, .inl a_became_f)), (a_node, .inl (cs 0, a_node_n, .inl a_node_f)), (a_up, .inl (cs 0, a_up_n, .inl a_up_f)), (a_touched, .inl (cs 0, a_touched_n, .inl a_touched_f)), (a_todo, .inl (cs 0, a_todo_n, .inl a_todo_f)), (a_color, .inl (cs 1, a_color_n, .inl a_color_f)), (a_painted, .inl (cs 0, a_painted_n, .inl a_painted_f))] sz)) (va_Qi (fun (r' : Int32) (_ : Unit) => r = r') (fun _ t => va_P g classes [(a, .inr (14, [.int o_a_thrown, .int a_taped, .int a_place, .int a_resulted, .int a_marks, .ref a_tape, .ref a_result, .ref a_terms, .ref a_names, .ref a_reader, .ref a_paper, .ref a_register, .ref a_became, .ref a_node, .ref a_marked, .ref a_markedRegister, .ref a_up, .ref a_touched, .ref a_todo, .ref a_color, .int o_a_touches, .ref a_painted, .int o_a_paints])), (a_terms, .inr (11, [.ref a_terms_kind, .ref a_terms_name, .ref a_terms_first, .ref a_terms_many, .ref a_terms_part, .ref a_terms_number, .int a_terms_size, .int a_terms_parts])), (a_terms_kind, .inl (cs 0, a_terms_kind_n, .inl a_terms_kind_f)), (a_terms_name, .inl (cs 0, a_terms_name_n, .inl a_terms_name_f)), (a_terms_first, .inl (cs 0, a_terms_first_n, .inl a_terms_first_f)), (a_terms_many, .inl (cs 0, a_terms_many_n, .inl a_terms_many_f)), (a_terms_part, .inl (cs 0, a_terms_part_n, .inl a_terms_part_f)), (a_terms_number, .inl (cs 2, a_terms_number_n, .inr (.inl a_terms_number_f))), (a_reader, .inr (12, [.ref a_reader_sides, .ref a_reader_ranks, .ref a_reader_stop, .ref a_reader_terms, .ref a_reader_names, a_reader_s, .int a_reader_n, .int a_reader_at, .int a_reader_behind, .int a_reader_token, .int a_reader_open, .long a_reader_number, .ref a_reader_word, .int a_reader_letters, .ref a_reader_stack, .int a_reader_top, .int a_reader_place, .ref a_reader_variables, .int a_reader_variabled, .int a_reader_known, .int a_reader_rank, .ref a_reader_kept])), (a_register, .inl (cs 0, a_register_n, .inl a_register_f)), (a_became, .inl (cs 0, a_became_n, .inl o_a_became_f)), (a_node, .inl (cs 0, a_node_n, .inl a_node_f)), (a_up, .inl (cs 0, a_up_n, .inl o_a_up_f)), (a_touched, .inl (cs 0, a_touched_n, .inl o_a_touched_f)), (a_todo, .inl (cs 0, a_todo_n, .inl o_a_todo_f)), (a_color, .inl (cs 1, a_color_n, .inl o_a_color_f)), (a_painted, .inl (cs 0, a_painted_n, .inl o_a_painted_f))] t.heap ∧ va_D (va_A [(a, .inr (14, [.int a_thrown, .int a_taped, .int a_place, .int a_resulted, .int a_marks, .ref a_tape, .ref a_result, .ref a_terms, .ref a_names, .ref a_reader, .ref a_paper, .ref a_register, .ref a_became, .ref a_node, .ref a_marked, .ref a_markedRegister, .ref a_up, .ref a_touched, .ref a_todo, .ref a_color, .int a_touches, .ref a_painted, .int a_paints])), (a_terms, .inr (11, [.ref a_terms_kind, .ref a_terms_name, .ref a_terms_first, .ref a_terms_many, .ref a_terms_part, .ref a_terms_number, .int a_terms_size, .int a_terms_parts])), (a_terms_kind, .inl (cs 0, a_terms_kind_n, .inl a_terms_kind_f)), (a_terms_name, .inl (cs 0, a_terms_name_n, .inl a_terms_name_f)), (a_terms_first, .inl (cs 0, a_terms_first_n, .inl a_terms_first_f)), (a_terms_many, .inl (cs 0, a_terms_many_n, .inl a_terms_many_f)), (a_terms_part, .inl (cs 0, a_terms_part_n, .inl a_terms_part_f)), (a_terms_number, .inl (cs 2, a_terms_number_n, .inr (.inl a_terms_number_f))), (a_reader, .inr (12, [.ref a_reader_sides, .ref a_reader_ranks, .ref a_reader_stop, .ref a_reader_terms, .ref a_reader_names, a_reader_s, .int a_reader_n, .int a_reader_at, .int a_reader_behind, .int a_reader_token, .int a_reader_open, .long a_reader_number, .ref a_reader_word, .int a_reader_letters, .ref a_reader_stack, .int a_reader_top, .int a_reader_place, .ref a_reader_variables, .int a_reader_variabled, .int a_reader_known, .int a_reader_rank, .ref a_reader_kept])), (a_register, .inl (cs 0, a_register_n, .inl a_register_f)), (a_became, .inl (cs 0, a_became_n, .inl a_became_f)), (a_node, .inl (cs 0, a_node_n, .inl a_node_f)), (a_up, .inl (cs 0, a_up_n, .inl a_up_f)), (a_touched, .inl (cs 0, a_touched_n, .inl a_touched_f)), (a_todo, .inl (cs 0, a_todo_n, .inl a_todo_f)), (a_color, .inl (cs 1, a_color_n, .inl a_color_f)), (a_painted, .inl (cs 0, a_painted_n, .inl a_painted_f))] sz) [(a, .inr (14, [.int o_a_thrown, .int a_taped, .int a_place, .int a_resulted, .int a_marks, .ref a_tape, .ref a_result, .ref a_terms, .ref a_names, .ref a_reader, .ref a_paper, .ref a_register, .ref a_became, .ref a_node, .ref a_marked, .ref a_markedRegister, .ref a_up, .ref a_touched, .ref a_todo, .ref a_color, .int o_a_touches, .ref a_painted, .int o_a_paints])), (a_terms, .inr (11, [.ref a_terms_kind, .ref a_terms_name, .ref a_terms_first, .ref a_terms_many, .ref a_terms_part, .ref a_terms_number, .int a_terms_size, .int a_terms_parts])), (a_terms_kind, .inl (cs 0, a_terms_kind_n, .inl a_terms_kind_f)), (a_terms_name, .inl (cs 0, a_terms_name_n, .inl a_terms_name_f)), (a_terms_first, .inl (cs 0, a_terms_first_n, .inl a_terms_first_f)), (a_terms_many, .inl (cs 0, a_terms_many_n, .inl a_terms_many_f)), (a_terms_part, .inl (cs 0, a_terms_part_n, .inl a_terms_part_f)), (a_terms_number, .inl (cs 2, a_terms_number_n, .inr (.inl a_terms_number_f))), (a_reader, .inr (12, [.ref a_reader_sides, .ref a_reader_ranks, .ref a_reader_stop, .ref a_reader_terms, .ref a_reader_names, a_reader_s, .int a_reader_n, .int a_reader_at, .int a_reader_behind, .int a_reader_token, .int a_reader_open, .long a_reader_number, .ref a_reader_word, .int a_reader_letters, .ref a_reader_stack, .int a_reader_top, .int a_reader_place, .ref a_reader_variables, .int a_reader_variabled, .int a_reader_known, .int a_reader_rank, .ref a_reader_kept])), (a_register, .inl (cs 0, a_register_n, .inl a_register_f)), (a_became, .inl (cs 0, a_became_n, .inl o_a_became_f)), (a_node, .inl (cs 0, a_node_n, .inl a_node_f)), (a_up, .inl (cs 0, a_up_n, .inl o_a_up_f)), (a_touched, .inl (cs 0, a_touched_n, .inl o_a_touched_f)), (a_todo, .inl (cs 0, a_todo_n, .inl o_a_todo_f)), (a_color, .inl (cs 1, a_color_n, .inl o_a_color_f)), (a_painted, .inl (cs 0, a_painted_n, .inl o_a_painted_f))]) (va_A [(a, .inr (14, [.int a_thrown, .int a_taped, .int a_place, .int a_resulted, .int a_marks, .ref a_tape, .ref a_result, .ref a_terms, .ref a_names, .ref a_reader, .ref a_paper, .ref a_register, .ref a_became, .ref a_node, .ref a_marked, .ref a_markedRegister, .ref a_up, .ref a_touched, .ref a_todo, .ref a_color, .int a_touches, .ref a_painted, .int a_paints])), (a_terms, .inr (11, [.ref a_terms_kind, .ref a_terms_name, .ref a_terms_first, .ref a_terms_many, .ref a_terms_part, .ref a_terms_number, .int a_terms_size, .int a_terms_parts])), (a_terms_kind, .inl (cs 0, a_terms_kind_n, .inl a_terms_kind_f)), (a_terms_name, .inl (cs 0, a_terms_name_n, .inl a_terms_name_f)), (a_terms_first, .inl (cs 0, a_terms_first_n, .inl a_terms_first_f)), (a_terms_many, .inl (cs 0, a_terms_many_n, .inl a_terms_many_f)), (a_terms_part, .inl (cs 0, a_terms_part_n, .inl a_terms_part_f)), (a_terms_number, .inl (cs 2, a_terms_number_n, .inr (.inl a_terms_number_f))), (a_reader, .inr (12, [.ref a_reader_sides, .ref a_reader_ranks, .ref a_reader_stop, .ref a_reader_terms, .ref a_reader_names, a_reader_s, .int a_reader_n, .int a_reader_at, .int a_reader_behind, .int a_reader_token, .int a_reader_open, .long a_reader_number, .ref a_reader_word, .int a_reader_letters, .ref a_reader_stack, .int a_reader_top, .int a_reader_place, .ref a_reader_variables, .int a_reader_variabled, .int a_reader_known, .int a_reader_rank, .ref a_reader_kept])), (a_register, .inl (cs 0, a_register_n, .inl a_register_f)), (a_became, .inl (cs 0, a_became_n, .inl a_became_f)), (a_node, .inl (cs 0, a_node_n, .inl a_node_f)), (a_up, .inl (cs 0, a_up_n, .inl a_up_f)), (a_touched, .inl (cs 0, a_touched_n, .inl a_touched_f)), (a_todo, .inl (cs 0, a_todo_n, .inl a_todo_f)), (a_color, .inl (cs 1, a_color_n, .inl a_color_f)), (a_painted, .inl (cs 0, a_painted_n, .inl a_painted_f))] sz)) 0 0 (va_A [(a, .inr (14, [.int a_thrown, .int a_taped, .int a_place, .int a_resulted, .int a_marks, .ref a_tape, .ref a_result, .ref a_terms, .ref a_names, .ref a_reader, .ref a_paper, .ref a_register, .ref a_became, .ref a_node, .ref a_marked, .ref a_markedRegister, .ref a_up, .ref a_touched, .ref a_todo, .ref a_color, .int a_touches, .ref a_painted, .int a_paints])), (a_terms, .inr (11, [.ref a_terms_kind, .ref a_terms_name, .ref a_terms_first, .ref a_terms_many, .ref a_terms_part, .ref a_terms_number, .int a_terms_size, .int a_terms_parts])), (a_terms_kind, .inl (cs 0, a_terms_kind_n, .inl a_terms_kind_f)), (a_terms_name, .inl (cs 0, a_terms_name_n, .inl a_terms_name_f)), (a_terms_first, .inl (cs 0, a_terms_first_n, .inl a_terms_first_f)), (a_terms_many, .inl (cs 0, a_terms_many_n, .inl a_terms_many_f)), (a_terms_part, .inl (cs 0, a_terms_part_n, .inl a_terms_part_f)), (a_terms_number, .inl (cs 2, a_terms_number_n, .inr (.inl a_terms_number_f))), (a_reader, .inr (12, [.ref a_reader_sides, .ref a_reader_ranks, .ref a_reader_stop, .ref a_reader_terms, .ref a_reader_names, a_reader_s, .int a_reader_n, .int a_reader_at, .int a_reader_behind, .int a_reader_token, .int a_reader_open, .long a_reader_number, .ref a_reader_word, .int a_reader_letters, .ref a_reader_stack, .int a_reader_top, .int a_reader_place, .ref a_reader_variables, .int a_reader_variabled, .int a_reader_known, .int a_reader_rank, .ref a_reader_kept])), (a_register, .inl (cs 0, a_register_n, .inl a_register_f)), (a_became, .inl (cs 0, a_became_n, .inl a_became_f)), (a_node, .inl (cs 0, a_node_n, .inl a_node_f)), (a_up, .inl (cs 0, a_up_n, .inl a_up_f)), (a_touched, .inl (cs 0, a_touched_n, .inl a_touched_f)), (a_todo, .inl (cs 0, a_todo_n, .inl a_todo_f)), (a_color, .inl (cs 1, a_color_n, .inl a_color_f)), (a_painted, .inl (cs 0, a_painted_n, .inl a_painted_f))] sz) := by
  refine Met.ofW (cc := b_Mo_unify) (maxL := 7) (ret := (some .boolean)) (by decide) rfl ?_
  intro p e s m args below meth c s₁ B hml hv
  obtain ⟨rfl, hsz, hP, hK, hD0, hgl, hkn, hkr⟩ := hv
  have hx := B.exec
  have hb := B.bytes
  have hr := B.returns
  have hg : ∀ w ∈ GW, w.before ([.ref a, .int x, .int y] : List Value).toArray s = true := fun w hw => atoms_spec (ws := .code y_Mo_unify b_Mo_unify 7 (some .boolean) :: GW) B.pre w (List.mem_cons_of_mem _ hw)
  have hown : s.vm.findClass R_Mo = some m.cls := findClass_of_methodNamed B.named
  have hlocks := B.notSynchronized
  subst hsz
  have hD := hD0.self (sz := s.heap.size)
  generalize hAe : va_A [(a, .inr (14, [.int a_thrown, .int a_taped, .int a_place, .int a_resulted, .int a_marks, .ref a_tape, .ref a_result, .ref a_terms, .ref a_names, .ref a_reader, .ref a_paper, .ref a_register, .ref a_became, .ref a_node, .ref a_marked, .ref a_markedRegister, .ref a_up, .ref a_touched, .ref a_todo, .ref a_color, .int a_touches, .ref a_painted, .int a_paints])), (a_terms, .inr (11, [.ref a_terms_kind, .ref a_terms_name, .ref a_terms_first, .ref a_terms_many, .ref a_terms_part, .ref a_terms_number, .int a_terms_size, .int a_terms_parts])), (a_terms_kind, .inl (cs 0, a_terms_kind_n, .inl a_terms_kind_f)), (a_terms_name, .inl (cs 0, a_terms_name_n, .inl a_terms_name_f)), (a_terms_first, .inl (cs 0, a_terms_first_n, .inl a_terms_first_f)), (a_terms_many, .inl (cs 0, a_terms_many_n, .inl a_terms_many_f)), (a_terms_part, .inl (cs 0, a_terms_part_n, .inl a_terms_part_f)), (a_terms_number, .inl (cs 2, a_terms_number_n, .inr (.inl a_terms_number_f))), (a_reader, .inr (12, [.ref a_reader_sides, .ref a_reader_ranks, .ref a_reader_stop, .ref a_reader_terms, .ref a_reader_names, a_reader_s, .int a_reader_n, .int a_reader_at, .int a_reader_behind, .int a_reader_token, .int a_reader_open, .long a_reader_number, .ref a_reader_word, .int a_reader_letters, .ref a_reader_stack, .int a_reader_top, .int a_reader_place, .ref a_reader_variables, .int a_reader_variabled, .int a_reader_known, .int a_reader_rank, .ref a_reader_kept])), (a_register, .inl (cs 0, a_register_n, .inl a_register_f)), (a_became, .inl (cs 0, a_became_n, .inl a_became_f)), (a_node, .inl (cs 0, a_node_n, .inl a_node_f)), (a_up, .inl (cs 0, a_up_n, .inl a_up_f)), (a_touched, .inl (cs 0, a_touched_n, .inl a_touched_f)), (a_todo, .inl (cs 0, a_todo_n, .inl a_todo_f)), (a_color, .inl (cs 1, a_color_n, .inl a_color_f)), (a_painted, .inl (cs 0, a_painted_n, .inl a_painted_f))] s.heap.size = A at hD hkn ⊢
  have hA : ∀ q : Nat, s.heap.size ≤ q → A q := fun q h => by rw [← hAe]; exact Or.inr h
  have hS : va_S A s.heap s.heap [] := va_S.rf
  have hP : va_P g classes [(a, .inr (14, [.int a_thrown, .int a_taped, .int a_place, .int a_resulted, .int a_marks, .ref a_tape, .ref a_result, .ref a_terms, .ref a_names, .ref a_reader, .ref a_paper, .ref a_register, .ref a_became, .ref a_node, .ref a_marked, .ref a_markedRegister, .ref a_up, .ref a_touched, .ref a_todo, .ref a_color, .int a_touches, .ref a_painted, .int a_paints])), (a_terms, .inr (11, [.ref a_terms_kind, .ref a_terms_name, .ref a_terms_first, .ref a_terms_many, .ref a_terms_part, .ref a_terms_number, .int a_terms_size, .int a_terms_parts])), (a_terms_kind, .inl (cs 0, a_terms_kind_n, .inl a_terms_kind_f)), (a_terms_name, .inl (cs 0, a_terms_name_n, .inl a_terms_name_f)), (a_terms_first, .inl (cs 0, a_terms_first_n, .inl a_terms_first_f)), (a_terms_many, .inl (cs 0, a_terms_many_n, .inl a_terms_many_f)), (a_terms_part, .inl (cs 0, a_terms_part_n, .inl a_terms_part_f)), (a_terms_number, .inl (cs 2, a_terms_number_n, .inr (.inl a_terms_number_f))), (a_reader, .inr (12, [.ref a_reader_sides, .ref a_reader_ranks, .ref a_reader_stop, .ref a_reader_terms, .ref a_reader_names, a_reader_s, .int a_reader_n, .int a_reader_at, .int a_reader_behind, .int a_reader_token, .int a_reader_open, .long a_reader_number, .ref a_reader_word, .int a_reader_letters, .ref a_reader_stack, .int a_reader_top, .int a_reader_place, .ref a_reader_variables, .int a_reader_variabled, .int a_reader_known, .int a_reader_rank, .ref a_reader_kept])), (a_register, .inl (cs 0, a_register_n, .inl a_register_f)), (a_became, .inl (cs 0, a_became_n, .inl a_became_f)), (a_node, .inl (cs 0, a_node_n, .inl a_node_f)), (a_up, .inl (cs 0, a_up_n, .inl a_up_f)), (a_touched, .inl (cs 0, a_touched_n, .inl a_touched_f)), (a_todo, .inl (cs 0, a_todo_n, .inl a_todo_f)), (a_color, .inl (cs 1, a_color_n, .inl a_color_f)), (a_painted, .inl (cs 0, a_painted_n, .inl a_painted_f))] s.heap := hP
  have hl := lv_entry ([.ref a, .int x, .int y]) (n := 7) (Nat.le_of_ble_eq_true rfl)
  rw [lg_entry_eq]
  generalize (lg_sl ([.ref a, .int x, .int y]) ++ List.replicate (7 - (lg_sl ([.ref a, .int x, .int y])).length) Slot.unset).toArray = ls at hl ⊢
  have hl : lv_has ls 7 [(0, .ref a), (1, .int x), (2, .int y)] := hl
  refine gq (fun Q hQ => ?_)
  obtain ⟨H, hH⟩ : ∃ H : Heap, H = s.heap := ⟨_, rfl⟩
  rw [← hH] at hP
  have hS : va_S A s.heap H [] := by rw [hH]; exact hS
  refine W.eqH hH ?_
  obtain ⟨locs, hlc⟩ : ∃ L : List Loc, L = [] := ⟨_, rfl⟩
  rw [← hlc] at hS ⊢
  unfold p_Mo_unify at hok
  refine lv_aload_n hx hb d_Mo_unify_0 rfl (lv_at hl 0 rfl) ?_
  refine lv_iload_n hx hb d_Mo_unify_1 rfl (lv_at hl 1 rfl) ?_
  obtain ⟨r1, hc1, hok⟩ := bd_some hok
  obtain ⟨hPc, hDc, hFc⟩ := cut0 (wc := []) hP hD hS hA [] (by decide) rfl
  refine va_calli (va_runS (As := [.int x]) (rest := [.ref a]) ⟨hx, hb, hml, hown, hg⟩ (c_Mo_none l g cs ka H.size x r1 hc1) (va_cwS 1 hg (gw_S wd_820 wd_821 wd_780 wd_819) rfl rfl rfl (by decide +kernel) ⟨Nat.le_of_ble_eq_true rfl, Nat.le_of_ble_eq_true rfl⟩) ⟨gP_blind, gP_pre hPc hDc hK hgl hkn hkr hS hFc⟩ rfl rfl hl.1 rfl (lv_room (Nat.le_of_ble_eq_true rfl)) d_Mo_unify_2 ⟨Nat.le_of_ble_eq_true rfl, Nat.le_of_ble_eq_true rfl⟩) hS (fun q _ h => hFc q h) hFc (fun r1' u t H locs ht hvm hr1 hB hz1 hk1 hS => ?_)
  subst hr1
  rw [ht] at hB
  obtain ⟨hP1, hD1⟩ := hB
  obtain ⟨hP, hD⟩ := jn_A hP hD [] [0, 1, 2, 3, 4, 5, 6, 7, 8, 9, 10, 11, 12, 13, 14, 15, 16] rfl rfl (by decide) (by decide) hk1 hFc hP1 hD1
  obtain ⟨hP, hD⟩ : PD g A H [(a, .inr (14, [.int a_thrown, .int a_taped, .int a_place, .int a_resulted, .int a_marks, .ref a_tape, .ref a_result, .ref a_terms, .ref a_names, .ref a_reader, .ref a_paper, .ref a_register, .ref a_became, .ref a_node, .ref a_marked, .ref a_markedRegister, .ref a_up, .ref a_touched, .ref a_todo, .ref a_color, .int a_touches, .ref a_painted, .int a_paints])), (a_terms, .inr (11, [.ref a_terms_kind, .ref a_terms_name, .ref a_terms_first, .ref a_terms_many, .ref a_terms_part, .ref a_terms_number, .int a_terms_size, .int a_terms_parts])), (a_terms_kind, .inl (cs 0, a_terms_kind_n, .inl a_terms_kind_f)), (a_terms_name, .inl (cs 0, a_terms_name_n, .inl a_terms_name_f)), (a_terms_first, .inl (cs 0, a_terms_first_n, .inl a_terms_first_f)), (a_terms_many, .inl (cs 0, a_terms_many_n, .inl a_terms_many_f)), (a_terms_part, .inl (cs 0, a_terms_part_n, .inl a_terms_part_f)), (a_terms_number, .inl (cs 2, a_terms_number_n, .inr (.inl a_terms_number_f))), (a_reader, .inr (12, [.ref a_reader_sides, .ref a_reader_ranks, .ref a_reader_stop, .ref a_reader_terms, .ref a_reader_names, a_reader_s, .int a_reader_n, .int a_reader_at, .int a_reader_behind, .int a_reader_token, .int a_reader_open, .long a_reader_number, .ref a_reader_word, .int a_reader_letters, .ref a_reader_stack, .int a_reader_top, .int a_reader_place, .ref a_reader_variables, .int a_reader_variabled, .int a_reader_known, .int a_reader_rank, .ref a_reader_kept])), (a_register, .inl (cs 0, a_register_n, .inl a_register_f)), (a_became, .inl (cs 0, a_became_n, .inl a_became_f)), (a_node, .inl (cs 0, a_node_n, .inl a_node_f)), (a_up, .inl (cs 0, a_up_n, .inl a_up_f)), (a_touched, .inl (cs 0, a_touched_n, .inl a_touched_f)), (a_todo, .inl (cs 0, a_todo_n, .inl a_todo_f)), (a_color, .inl (cs 1, a_color_n, .inl a_color_f)), (a_painted, .inl (cs 0, a_painted_n, .inl a_painted_f))] := ⟨hP, hD⟩
  have J2 : ∀ (H : Heap) (locs : List Loc) (ls : Array Slot) (y0_2 : Int32), lv_has ls 7 [(0, .ref a), (1, .int x), (2, .int y)] → PD g A H [(a, .inr (14, [.int a_thrown, .int a_taped, .int a_place, .int a_resulted, .int a_marks, .ref a_tape, .ref a_result, .ref a_terms, .ref a_names, .ref a_reader, .ref a_paper, .ref a_register, .ref a_became, .ref a_node, .ref a_marked, .ref a_markedRegister, .ref a_up, .ref a_touched, .ref a_todo, .ref a_color, .int a_touches, .ref a_painted, .int a_paints])), (a_terms, .inr (11, [.ref a_terms_kind, .ref a_terms_name, .ref a_terms_first, .ref a_terms_many, .ref a_terms_part, .ref a_terms_number, .int a_terms_size, .int a_terms_parts])), (a_terms_kind, .inl (cs 0, a_terms_kind_n, .inl a_terms_kind_f)), (a_terms_name, .inl (cs 0, a_terms_name_n, .inl a_terms_name_f)), (a_terms_first, .inl (cs 0, a_terms_first_n, .inl a_terms_first_f)), (a_terms_many, .inl (cs 0, a_terms_many_n, .inl a_terms_many_f)), (a_terms_part, .inl (cs 0, a_terms_part_n, .inl a_terms_part_f)), (a_terms_number, .inl (cs 2, a_terms_number_n, .inr (.inl a_terms_number_f))), (a_reader, .inr (12, [.ref a_reader_sides, .ref a_reader_ranks, .ref a_reader_stop, .ref a_reader_terms, .ref a_reader_names, a_reader_s, .int a_reader_n, .int a_reader_at, .int a_reader_behind, .int a_reader_token, .int a_reader_open, .long a_reader_number, .ref a_reader_word, .int a_reader_letters, .ref a_reader_stack, .int a_reader_top, .int a_reader_place, .ref a_reader_variables, .int a_reader_variabled, .int a_reader_known, .int a_reader_rank, .ref a_reader_kept])), (a_register, .inl (cs 0, a_register_n, .inl a_register_f)), (a_became, .inl (cs 0, a_became_n, .inl a_became_f)), (a_node, .inl (cs 0, a_node_n, .inl a_node_f)), (a_up, .inl (cs 0, a_up_n, .inl a_up_f)), (a_touched, .inl (cs 0, a_touched_n, .inl a_touched_f)), (a_todo, .inl (cs 0, a_todo_n, .inl a_todo_f)), (a_color, .inl (cs 1, a_color_n, .inl a_color_f)), (a_painted, .inl (cs 0, a_painted_n, .inl a_painted_f))] → va_S A s.heap H locs → p_Mo_unify_20 n x y a_taped a_place a_resulted a_marks a_touches a_paints a_terms_size a_terms_parts a_terms_kind_n a_terms_kind_f a_terms_name_n a_terms_name_f a_terms_first_n a_terms_first_f a_terms_many_n a_terms_many_f a_terms_part_n a_terms_part_f a_terms_number_n a_terms_number_f a_reader_variabled a_register_n a_register_f a_became_n a_became_f a_node_n a_node_f a_up_n a_up_f a_touched_n a_touched_f a_todo_n a_todo_f a_color_n a_color_f a_painted_n a_painted_f y0_2 = some (r, o_a_thrown, o_a_touches, o_a_paints, o_a_became_f, o_a_up_f, o_a_touched_f, o_a_todo_f, o_a_color_f, o_a_painted_f) → W p l e (headSpec (.code y_Mo_unify b_Mo_unify 7 (some .boolean) :: GW) { frames := 3, cells := 0, slots := 0, locals := 74 }).room s m ([.ref a, .int x, .int y] : List Value).toArray below meth c H locs 0 0 Q (F0 m 20 ls [.int y0_2, .ref a]) := by
    intro H locs ls y0_2 hl ⟨hP, hD⟩ hS hok
    unfold p_Mo_unify_20 at hok
    refine va_put (D := g) (ci := 14) (v := .int y0_2) (ty := .int) (C := R_Mo) (T := F_Mo) (N := 23) hx hb hg ul_Mo t_Mo tk_Mo n_Mo hown hK hP hD hS 0 rfl rfl 0 (by decide) (hg _ wd_776) (fun _ h9 => h9) rfl (by decide +kernel) rfl rfl (Nat.le_of_ble_eq_true rfl) d_Mo_unify_20 (fun H locs hP hD hS => ?_)
    obtain ⟨hP, hD⟩ : PD g A H [(a, .inr (14, [.int y0_2, .int a_taped, .int a_place, .int a_resulted, .int a_marks, .ref a_tape, .ref a_result, .ref a_terms, .ref a_names, .ref a_reader, .ref a_paper, .ref a_register, .ref a_became, .ref a_node, .ref a_marked, .ref a_markedRegister, .ref a_up, .ref a_touched, .ref a_todo, .ref a_color, .int a_touches, .ref a_painted, .int a_paints])), (a_terms, .inr (11, [.ref a_terms_kind, .ref a_terms_name, .ref a_terms_first, .ref a_terms_many, .ref a_terms_part, .ref a_terms_number, .int a_terms_size, .int a_terms_parts])), (a_terms_kind, .inl (cs 0, a_terms_kind_n, .inl a_terms_kind_f)), (a_terms_name, .inl (cs 0, a_terms_name_n, .inl a_terms_name_f)), (a_terms_first, .inl (cs 0, a_terms_first_n, .inl a_terms_first_f)), (a_terms_many, .inl (cs 0, a_terms_many_n, .inl a_terms_many_f)), (a_terms_part, .inl (cs 0, a_terms_part_n, .inl a_terms_part_f)), (a_terms_number, .inl (cs 2, a_terms_number_n, .inr (.inl a_terms_number_f))), (a_reader, .inr (12, [.ref a_reader_sides, .ref a_reader_ranks, .ref a_reader_stop, .ref a_reader_terms, .ref a_reader_names, a_reader_s, .int a_reader_n, .int a_reader_at, .int a_reader_behind, .int a_reader_token, .int a_reader_open, .long a_reader_number, .ref a_reader_word, .int a_reader_letters, .ref a_reader_stack, .int a_reader_top, .int a_reader_place, .ref a_reader_variables, .int a_reader_variabled, .int a_reader_known, .int a_reader_rank, .ref a_reader_kept])), (a_register, .inl (cs 0, a_register_n, .inl a_register_f)), (a_became, .inl (cs 0, a_became_n, .inl a_became_f)), (a_node, .inl (cs 0, a_node_n, .inl a_node_f)), (a_up, .inl (cs 0, a_up_n, .inl a_up_f)), (a_touched, .inl (cs 0, a_touched_n, .inl a_touched_f)), (a_todo, .inl (cs 0, a_todo_n, .inl a_todo_f)), (a_color, .inl (cs 1, a_color_n, .inl a_color_f)), (a_painted, .inl (cs 0, a_painted_n, .inl a_painted_f))] := ⟨hP, hD⟩
    refine lv_aload_n hx hb d_Mo_unify_23 rfl (lv_at hl 0 rfl) ?_
    refine va_get (D := g) (ci := 14) (v := .int y0_2) (C := R_Mo) (T := F_Mo) (N := 23) hx hb hg ul_Mo hown hK hP 0 rfl rfl 0 (by decide) (hg _ wd_776) (fun _ h9 => h9) rfl d_Mo_unify_24 ?_
    refine lv_if_le hx hb d_Mo_unify_27 rfl (fun h3 => ?_) (fun h3 => ?_)
    · rw [if_pos h3] at hok
      refine lv_aload_n hx hb d_Mo_unify_32 rfl (lv_at hl 0 rfl) ?_
      refine lv_aload_n hx hb d_Mo_unify_33 rfl (lv_at hl 0 rfl) ?_
      refine va_get (D := g) (ci := 14) (v := .ref a_register) (C := R_Mo) (T := F_Mo) (N := 23) hx hb hg ul_Mo hown hK hP 0 rfl rfl 11 (by decide) (hg _ wd_822) (fun _ h9 => h9) rfl d_Mo_unify_34 ?_
      refine lv_iload_n hx hb d_Mo_unify_37 rfl (lv_at hl 1 rfl) ?_
      obtain ⟨hi4, hok⟩ := ck_some hok
      refine va_iald hx hb hK hP 9 0 rfl rfl (ixb_in hi4) d_Mo_unify_38 ?_
      refine lv_aload_n hx hb d_Mo_unify_39 rfl (lv_at hl 0 rfl) ?_
      refine va_get (D := g) (ci := 14) (v := .ref a_register) (C := R_Mo) (T := F_Mo) (N := 23) hx hb hg ul_Mo hown hK hP 0 rfl rfl 11 (by decide) (hg _ wd_822) (fun _ h9 => h9) rfl d_Mo_unify_40 ?_
      refine lv_iload_n hx hb d_Mo_unify_43 rfl (lv_at hl 2 rfl) ?_
      obtain ⟨hi5, hok⟩ := ck_some hok
      refine va_iald hx hb hK hP 9 0 rfl rfl (ixb_in hi5) d_Mo_unify_44 ?_
      refine lv_iconst (v := 0) hx hb d_Mo_unify_45 (by decide) ?_
      obtain ⟨⟨r6, a_touches_6, a_up_f_6, a_touched_f_6, a_todo_f_6⟩, hc6, hok⟩ := bd_some hok
      dsimp only at hok
      obtain ⟨hPc, hDc, hFc⟩ := cut0 (wc := [(a, .inr (14, [.int y0_2, .int a_taped, .int a_place, .int a_resulted, .int a_marks, .ref a_tape, .ref a_result, .ref a_terms, .ref a_names, .ref a_reader, .ref a_paper, .ref a_register, .ref a_became, .ref a_node, .ref a_marked, .ref a_markedRegister, .ref a_up, .ref a_touched, .ref a_todo, .ref a_color, .int a_touches, .ref a_painted, .int a_paints])), (a_terms, .inr (11, [.ref a_terms_kind, .ref a_terms_name, .ref a_terms_first, .ref a_terms_many, .ref a_terms_part, .ref a_terms_number, .int a_terms_size, .int a_terms_parts])), (a_terms_kind, .inl (cs 0, a_terms_kind_n, .inl a_terms_kind_f)), (a_terms_name, .inl (cs 0, a_terms_name_n, .inl a_terms_name_f)), (a_terms_first, .inl (cs 0, a_terms_first_n, .inl a_terms_first_f)), (a_terms_many, .inl (cs 0, a_terms_many_n, .inl a_terms_many_f)), (a_terms_part, .inl (cs 0, a_terms_part_n, .inl a_terms_part_f)), (a_terms_number, .inl (cs 2, a_terms_number_n, .inr (.inl a_terms_number_f))), (a_became, .inl (cs 0, a_became_n, .inl a_became_f)), (a_node, .inl (cs 0, a_node_n, .inl a_node_f)), (a_up, .inl (cs 0, a_up_n, .inl a_up_f)), (a_touched, .inl (cs 0, a_touched_n, .inl a_touched_f)), (a_todo, .inl (cs 0, a_todo_n, .inl a_todo_f))]) hP hD hS hA [0, 1, 2, 3, 4, 5, 6, 7, 10, 11, 12, 13, 14] (by decide) rfl
      refine va_calli (va_runV (As := [.int (a_register_f x.toNatClampNeg), .int (a_register_f y.toNatClampNeg), .int 0]) (rest := []) ⟨hx, hb, hml, hown, hg⟩ (c_Mo_classes l g cs ka a_tape a_result a_names a_reader a_paper a_register a_marked a_markedRegister a_color a_painted a a_terms a_terms_kind a_terms_name a_terms_first a_terms_many a_terms_part a_terms_number a_became a_node a_up a_touched a_todo H.size n (a_register_f x.toNatClampNeg) (a_register_f y.toNatClampNeg) (0 : Int32) y0_2 a_taped a_place a_resulted a_marks a_touches a_paints a_terms_size a_terms_parts a_terms_kind_n a_terms_kind_f a_terms_name_n a_terms_name_f a_terms_first_n a_terms_first_f a_terms_many_n a_terms_many_f a_terms_part_n a_terms_part_f a_terms_number_n a_terms_number_f a_became_n a_became_f a_node_n a_node_f a_up_n a_up_f a_touched_n a_touched_f a_todo_n a_todo_f r6 a_touches_6 a_up_f_6 a_touched_f_6 a_todo_f_6 hc6) (cwV (C := R_Mo) 3 hg (gw_V wd_824 wd_825 wd_826 wd_780 wd_823) rfl rfl rfl (by decide +kernel) ⟨Nat.le_of_ble_eq_true rfl, Nat.le_of_ble_eq_true rfl⟩) ⟨gP_blind, va_recv (q0 := 0) (ci := 14) (q := (R_Mo, F_Mo, 23)) hK hP rfl rfl, gP_pre hPc hDc hK hgl hkn hkr hS hFc⟩ rfl rfl hl.1 rfl (lv_room (Nat.le_of_ble_eq_true rfl)) d_Mo_unify_46 ⟨Nat.le_of_ble_eq_true rfl, Nat.le_of_ble_eq_true rfl⟩) hS (fun q _ h => hFc q h) hFc (fun r6' u t H locs ht hvm hr6 hB hz1 hk1 hS => ?_)
      subst hr6
      rw [ht] at hB
      obtain ⟨hP1, hD1⟩ := hB
      obtain ⟨hP, hD⟩ := jn_A hP hD [0, 1, 2, 3, 4, 5, 6, 7, 10, 11, 12, 13, 14] [8, 9, 15, 16] rfl rfl (by decide) (by decide) hk1 hFc hP1 hD1
      obtain ⟨hP, hD⟩ : PD g A H [(a_reader, .inr (12, [.ref a_reader_sides, .ref a_reader_ranks, .ref a_reader_stop, .ref a_reader_terms, .ref a_reader_names, a_reader_s, .int a_reader_n, .int a_reader_at, .int a_reader_behind, .int a_reader_token, .int a_reader_open, .long a_reader_number, .ref a_reader_word, .int a_reader_letters, .ref a_reader_stack, .int a_reader_top, .int a_reader_place, .ref a_reader_variables, .int a_reader_variabled, .int a_reader_known, .int a_reader_rank, .ref a_reader_kept])), (a_register, .inl (cs 0, a_register_n, .inl a_register_f)), (a_color, .inl (cs 1, a_color_n, .inl a_color_f)), (a_painted, .inl (cs 0, a_painted_n, .inl a_painted_f)), (a, .inr (14, [.int y0_2, .int a_taped, .int a_place, .int a_resulted, .int a_marks, .ref a_tape, .ref a_result, .ref a_terms, .ref a_names, .ref a_reader, .ref a_paper, .ref a_register, .ref a_became, .ref a_node, .ref a_marked, .ref a_markedRegister, .ref a_up, .ref a_touched, .ref a_todo, .ref a_color, .int a_touches_6, .ref a_painted, .int a_paints])), (a_terms, .inr (11, [.ref a_terms_kind, .ref a_terms_name, .ref a_terms_first, .ref a_terms_many, .ref a_terms_part, .ref a_terms_number, .int a_terms_size, .int a_terms_parts])), (a_terms_kind, .inl (cs 0, a_terms_kind_n, .inl a_terms_kind_f)), (a_terms_name, .inl (cs 0, a_terms_name_n, .inl a_terms_name_f)), (a_terms_first, .inl (cs 0, a_terms_first_n, .inl a_terms_first_f)), (a_terms_many, .inl (cs 0, a_terms_many_n, .inl a_terms_many_f)), (a_terms_part, .inl (cs 0, a_terms_part_n, .inl a_terms_part_f)), (a_terms_number, .inl (cs 2, a_terms_number_n, .inr (.inl a_terms_number_f))), (a_became, .inl (cs 0, a_became_n, .inl a_became_f)), (a_node, .inl (cs 0, a_node_n, .inl a_node_f)), (a_up, .inl (cs 0, a_up_n, .inl a_up_f_6)), (a_touched, .inl (cs 0, a_touched_n, .inl a_touched_f_6)), (a_todo, .inl (cs 0, a_todo_n, .inl a_todo_f_6))] := ⟨hP, hD⟩
      refine lv_if_eq hx hb d_Mo_unify_49 rfl (fun h7 => ?_) (fun h7 => ?_)
      · rw [if_pos h7] at hok
        refine lv_iconst (v := 0) hx hb d_Mo_unify_69 (by decide) ?_
        refine lv_istore_n hx hb d_Mo_unify_70 rfl hl (by decide) rfl (fun ls hl => ?_)
        have hl : lv_has ls 7 [(3, .int 0), (0, .ref a), (1, .int x), (2, .int y)] := hl
        refine lv_iconst (v := 0) hx hb d_Mo_unify_71 (by decide) ?_
        refine lv_istore hx hb d_Mo_unify_72 hl (by decide) rfl (fun ls hl => ?_)
        have hl : lv_has ls 7 [(4, .int 0), (3, .int 0), (0, .ref a), (1, .int x), (2, .int y)] := hl
        have J8 : ∀ (kf8 : Nat) (H : Heap) (locs : List Loc) (ls : Array Slot) (x4_8 : Int32) (a_color_8f : Nat → Int32), lv_has ls 7 [(4, .int x4_8), (3, .int 0), (0, .ref a), (1, .int x), (2, .int y)] → PD g A H [(a_reader, .inr (12, [.ref a_reader_sides, .ref a_reader_ranks, .ref a_reader_stop, .ref a_reader_terms, .ref a_reader_names, a_reader_s, .int a_reader_n, .int a_reader_at, .int a_reader_behind, .int a_reader_token, .int a_reader_open, .long a_reader_number, .ref a_reader_word, .int a_reader_letters, .ref a_reader_stack, .int a_reader_top, .int a_reader_place, .ref a_reader_variables, .int a_reader_variabled, .int a_reader_known, .int a_reader_rank, .ref a_reader_kept])), (a_register, .inl (cs 0, a_register_n, .inl a_register_f)), (a_color, .inl (cs 1, a_color_n, .inl a_color_8f)), (a_painted, .inl (cs 0, a_painted_n, .inl a_painted_f)), (a, .inr (14, [.int y0_2, .int a_taped, .int a_place, .int a_resulted, .int a_marks, .ref a_tape, .ref a_result, .ref a_terms, .ref a_names, .ref a_reader, .ref a_paper, .ref a_register, .ref a_became, .ref a_node, .ref a_marked, .ref a_markedRegister, .ref a_up, .ref a_touched, .ref a_todo, .ref a_color, .int a_touches_6, .ref a_painted, .int a_paints])), (a_terms, .inr (11, [.ref a_terms_kind, .ref a_terms_name, .ref a_terms_first, .ref a_terms_many, .ref a_terms_part, .ref a_terms_number, .int a_terms_size, .int a_terms_parts])), (a_terms_kind, .inl (cs 0, a_terms_kind_n, .inl a_terms_kind_f)), (a_terms_name, .inl (cs 0, a_terms_name_n, .inl a_terms_name_f)), (a_terms_first, .inl (cs 0, a_terms_first_n, .inl a_terms_first_f)), (a_terms_many, .inl (cs 0, a_terms_many_n, .inl a_terms_many_f)), (a_terms_part, .inl (cs 0, a_terms_part_n, .inl a_terms_part_f)), (a_terms_number, .inl (cs 2, a_terms_number_n, .inr (.inl a_terms_number_f))), (a_became, .inl (cs 0, a_became_n, .inl a_became_f)), (a_node, .inl (cs 0, a_node_n, .inl a_node_f)), (a_up, .inl (cs 0, a_up_n, .inl a_up_f_6)), (a_touched, .inl (cs 0, a_touched_n, .inl a_touched_f_6)), (a_todo, .inl (cs 0, a_todo_n, .inl a_todo_f_6))] → va_S A s.heap H locs → p_Mo_unify_74 n a_taped a_place a_resulted a_marks a_paints a_became_n a_became_f a_up_n a_touched_n a_todo_n a_color_n a_painted_n a_painted_f y0_2 a_touches_6 a_up_f_6 a_touched_f_6 a_todo_f_6 kf8 x4_8 a_color_8f = some (r, o_a_thrown, o_a_touches, o_a_paints, o_a_became_f, o_a_up_f, o_a_touched_f, o_a_todo_f, o_a_color_f, o_a_painted_f) → W p l e (headSpec (.code y_Mo_unify b_Mo_unify 7 (some .boolean) :: GW) { frames := 3, cells := 0, slots := 0, locals := 74 }).room s m ([.ref a, .int x, .int y] : List Value).toArray below meth c H locs 0 0 Q (F0 m 74 ls []) := by
          intro kf8
          induction kf8 with
          | zero => intro H locs ls x4_8 a_color_8f hl ⟨hP, hD⟩ hS hok; rw [p_Mo_unify_74] at hok; cases hok
          | succ kf8 ih8 =>
            intro H locs ls x4_8 a_color_8f hl ⟨hP, hD⟩ hS hok
            rw [p_Mo_unify_74] at hok
            refine lv_iload hx hb d_Mo_unify_74 (lv_at hl 0 rfl) ?_
            refine lv_aload_n hx hb d_Mo_unify_76 rfl (lv_at hl 2 rfl) ?_
            refine va_get (D := g) (ci := 14) (v := .int a_paints) (C := R_Mo) (T := F_Mo) (N := 23) hx hb hg ul_Mo hown hK hP 4 rfl rfl 22 (by decide) (hg _ wd_802) (fun _ h9 => h9) rfl d_Mo_unify_77 ?_
            refine lv_icmp_ge hx hb d_Mo_unify_80 rfl (fun h9 => ?_) (fun h9 => ?_)
            · rw [if_pos h9] at hok
              refine lv_aload_n hx hb d_Mo_unify_102 rfl (lv_at hl 2 rfl) ?_
              refine lv_iconst (v := 0) hx hb d_Mo_unify_103 (by decide) ?_
              refine va_put (D := g) (ci := 14) (v := .int 0) (ty := .int) (C := R_Mo) (T := F_Mo) (N := 23) hx hb hg ul_Mo t_Mo tk_Mo n_Mo hown hK hP hD hS 4 rfl rfl 22 (by decide) (hg _ wd_802) (fun _ h9 => h9) rfl (by decide +kernel) rfl rfl (Nat.le_of_ble_eq_true rfl) d_Mo_unify_104 (fun H locs hP hD hS => ?_)
              obtain ⟨hP, hD⟩ : PD g A H [(a_reader, .inr (12, [.ref a_reader_sides, .ref a_reader_ranks, .ref a_reader_stop, .ref a_reader_terms, .ref a_reader_names, a_reader_s, .int a_reader_n, .int a_reader_at, .int a_reader_behind, .int a_reader_token, .int a_reader_open, .long a_reader_number, .ref a_reader_word, .int a_reader_letters, .ref a_reader_stack, .int a_reader_top, .int a_reader_place, .ref a_reader_variables, .int a_reader_variabled, .int a_reader_known, .int a_reader_rank, .ref a_reader_kept])), (a_register, .inl (cs 0, a_register_n, .inl a_register_f)), (a_color, .inl (cs 1, a_color_n, .inl a_color_8f)), (a_painted, .inl (cs 0, a_painted_n, .inl a_painted_f)), (a, .inr (14, [.int y0_2, .int a_taped, .int a_place, .int a_resulted, .int a_marks, .ref a_tape, .ref a_result, .ref a_terms, .ref a_names, .ref a_reader, .ref a_paper, .ref a_register, .ref a_became, .ref a_node, .ref a_marked, .ref a_markedRegister, .ref a_up, .ref a_touched, .ref a_todo, .ref a_color, .int a_touches_6, .ref a_painted, .int 0])), (a_terms, .inr (11, [.ref a_terms_kind, .ref a_terms_name, .ref a_terms_first, .ref a_terms_many, .ref a_terms_part, .ref a_terms_number, .int a_terms_size, .int a_terms_parts])), (a_terms_kind, .inl (cs 0, a_terms_kind_n, .inl a_terms_kind_f)), (a_terms_name, .inl (cs 0, a_terms_name_n, .inl a_terms_name_f)), (a_terms_first, .inl (cs 0, a_terms_first_n, .inl a_terms_first_f)), (a_terms_many, .inl (cs 0, a_terms_many_n, .inl a_terms_many_f)), (a_terms_part, .inl (cs 0, a_terms_part_n, .inl a_terms_part_f)), (a_terms_number, .inl (cs 2, a_terms_number_n, .inr (.inl a_terms_number_f))), (a_became, .inl (cs 0, a_became_n, .inl a_became_f)), (a_node, .inl (cs 0, a_node_n, .inl a_node_f)), (a_up, .inl (cs 0, a_up_n, .inl a_up_f_6)), (a_touched, .inl (cs 0, a_touched_n, .inl a_touched_f_6)), (a_todo, .inl (cs 0, a_todo_n, .inl a_todo_f_6))] := ⟨hP, hD⟩
              refine lv_iconst (v := 0) hx hb d_Mo_unify_107 (by decide) ?_
              refine lv_istore hx hb d_Mo_unify_108 hl (by decide) rfl (fun ls hl => ?_)
              have hl : lv_has ls 7 [(4, .int 0), (3, .int 0), (0, .ref a), (1, .int x), (2, .int y)] := hl
              refine lv_iconst (v := 0) hx hb d_Mo_unify_110 (by decide) ?_
              refine lv_istore hx hb d_Mo_unify_111 hl (by decide) rfl (fun ls hl => ?_)
              have hl : lv_has ls 7 [(5, .int 0), (4, .int 0), (3, .int 0), (0, .ref a), (1, .int x), (2, .int y)] := hl
              have J10 : ∀ (kf10 : Nat) (H : Heap) (locs : List Loc) (ls : Array Slot) (x5_10 : Int32) (x4_10 : Int32) (a_todo_10f : Nat → Int32), lv_has ls 7 [(5, .int x5_10), (4, .int x4_10), (3, .int 0), (0, .ref a), (1, .int x), (2, .int y)] → PD g A H [(a_reader, .inr (12, [.ref a_reader_sides, .ref a_reader_ranks, .ref a_reader_stop, .ref a_reader_terms, .ref a_reader_names, a_reader_s, .int a_reader_n, .int a_reader_at, .int a_reader_behind, .int a_reader_token, .int a_reader_open, .long a_reader_number, .ref a_reader_word, .int a_reader_letters, .ref a_reader_stack, .int a_reader_top, .int a_reader_place, .ref a_reader_variables, .int a_reader_variabled, .int a_reader_known, .int a_reader_rank, .ref a_reader_kept])), (a_register, .inl (cs 0, a_register_n, .inl a_register_f)), (a_color, .inl (cs 1, a_color_n, .inl a_color_8f)), (a_painted, .inl (cs 0, a_painted_n, .inl a_painted_f)), (a, .inr (14, [.int y0_2, .int a_taped, .int a_place, .int a_resulted, .int a_marks, .ref a_tape, .ref a_result, .ref a_terms, .ref a_names, .ref a_reader, .ref a_paper, .ref a_register, .ref a_became, .ref a_node, .ref a_marked, .ref a_markedRegister, .ref a_up, .ref a_touched, .ref a_todo, .ref a_color, .int a_touches_6, .ref a_painted, .int 0])), (a_terms, .inr (11, [.ref a_terms_kind, .ref a_terms_name, .ref a_terms_first, .ref a_terms_many, .ref a_terms_part, .ref a_terms_number, .int a_terms_size, .int a_terms_parts])), (a_terms_kind, .inl (cs 0, a_terms_kind_n, .inl a_terms_kind_f)), (a_terms_name, .inl (cs 0, a_terms_name_n, .inl a_terms_name_f)), (a_terms_first, .inl (cs 0, a_terms_first_n, .inl a_terms_first_f)), (a_terms_many, .inl (cs 0, a_terms_many_n, .inl a_terms_many_f)), (a_terms_part, .inl (cs 0, a_terms_part_n, .inl a_terms_part_f)), (a_terms_number, .inl (cs 2, a_terms_number_n, .inr (.inl a_terms_number_f))), (a_became, .inl (cs 0, a_became_n, .inl a_became_f)), (a_node, .inl (cs 0, a_node_n, .inl a_node_f)), (a_up, .inl (cs 0, a_up_n, .inl a_up_f_6)), (a_touched, .inl (cs 0, a_touched_n, .inl a_touched_f_6)), (a_todo, .inl (cs 0, a_todo_n, .inl a_todo_10f))] → va_S A s.heap H locs → p_Mo_unify_113 n a_taped a_place a_resulted a_marks a_became_n a_became_f a_up_n a_touched_n a_todo_n a_color_n a_painted_f y0_2 a_touches_6 a_up_f_6 a_touched_f_6 a_color_8f kf10 x5_10 x4_10 a_todo_10f = some (r, o_a_thrown, o_a_touches, o_a_paints, o_a_became_f, o_a_up_f, o_a_touched_f, o_a_todo_f, o_a_color_f, o_a_painted_f) → W p l e (headSpec (.code y_Mo_unify b_Mo_unify 7 (some .boolean) :: GW) { frames := 3, cells := 0, slots := 0, locals := 74 }).room s m ([.ref a, .int x, .int y] : List Value).toArray below meth c H locs 0 0 Q (F0 m 113 ls []) := by
                intro kf10
                induction kf10 with
                | zero => intro H locs ls x5_10 x4_10 a_todo_10f hl ⟨hP, hD⟩ hS hok; rw [p_Mo_unify_113] at hok; cases hok
                | succ kf10 ih10 =>
                  intro H locs ls x5_10 x4_10 a_todo_10f hl ⟨hP, hD⟩ hS hok
                  rw [p_Mo_unify_113] at hok
                  refine lv_iload_n hx hb d_Mo_unify_113 rfl (lv_at hl 2 rfl) ?_
                  refine lv_if_eq hx hb d_Mo_unify_114 rfl (fun h11 => ?_) (fun h11 => ?_)
                  · refine lv_aload_n hx hb d_Mo_unify_212 rfl (lv_at hl 3 rfl) ?_
                    obtain ⟨⟨a_touches_12, a_up_f_12, a_color_f_12⟩, hc12, hok⟩ := bd_some hok
                    dsimp only at hok
                    obtain ⟨hPc, hDc, hFc⟩ := cut0 (wc := [(a, .inr (14, [.int y0_2, .int a_taped, .int a_place, .int a_resulted, .int a_marks, .ref a_tape, .ref a_result, .ref a_terms, .ref a_names, .ref a_reader, .ref a_paper, .ref a_register, .ref a_became, .ref a_node, .ref a_marked, .ref a_markedRegister, .ref a_up, .ref a_touched, .ref a_todo, .ref a_color, .int a_touches_6, .ref a_painted, .int 0])), (a_up, .inl (cs 0, a_up_n, .inl a_up_f_6)), (a_touched, .inl (cs 0, a_touched_n, .inl a_touched_f_6)), (a_color, .inl (cs 1, a_color_n, .inl a_color_8f))]) hP hD hS hA [4, 14, 15, 2] (by decide) rfl
                    refine va_callv (va_runV (As := []) (rest := []) ⟨hx, hb, hml, hown, hg⟩ (c_Mo_part_ l g cs ka a_tape a_result a_terms a_names a_reader a_paper a_register a_became a_node a_marked a_markedRegister a_todo a_painted a a_up a_touched a_color H.size n y0_2 a_taped a_place a_resulted a_marks a_touches_6 (0 : Int32) a_up_n a_up_f_6 a_touched_n a_touched_f_6 a_color_n a_color_8f a_touches_12 a_up_f_12 a_color_f_12 hc12) (cwV (C := R_Mo) 0 hg (gw_V wd_828 wd_829 wd_830 wd_780 wd_827) rfl rfl rfl (by decide +kernel) ⟨Nat.le_of_ble_eq_true rfl, Nat.le_of_ble_eq_true rfl⟩) ⟨gP_blind, va_recv (q0 := 4) (ci := 14) (q := (R_Mo, F_Mo, 23)) hK hP rfl rfl, gP_pre hPc hDc hK hgl hkn hkr hS hFc⟩ rfl rfl hl.1 rfl (lv_room (Nat.le_of_ble_eq_true rfl)) d_Mo_unify_213 ⟨Nat.le_of_ble_eq_true rfl, Nat.le_of_ble_eq_true rfl⟩) hS (fun q _ h => hFc q h) hFc (fun u t H locs ht hvm hr12 hB hz1 hk1 hS => ?_)
                    rw [ht] at hB
                    obtain ⟨hP1, hD1⟩ := hB
                    obtain ⟨hP, hD⟩ := jn_A hP hD [4, 14, 15, 2] [0, 1, 3, 5, 6, 7, 8, 9, 10, 11, 12, 13, 16] rfl rfl (by decide) (by decide) hk1 hFc hP1 hD1
                    obtain ⟨hP, hD⟩ : PD g A H [(a_reader, .inr (12, [.ref a_reader_sides, .ref a_reader_ranks, .ref a_reader_stop, .ref a_reader_terms, .ref a_reader_names, a_reader_s, .int a_reader_n, .int a_reader_at, .int a_reader_behind, .int a_reader_token, .int a_reader_open, .long a_reader_number, .ref a_reader_word, .int a_reader_letters, .ref a_reader_stack, .int a_reader_top, .int a_reader_place, .ref a_reader_variables, .int a_reader_variabled, .int a_reader_known, .int a_reader_rank, .ref a_reader_kept])), (a_register, .inl (cs 0, a_register_n, .inl a_register_f)), (a_painted, .inl (cs 0, a_painted_n, .inl a_painted_f)), (a_terms, .inr (11, [.ref a_terms_kind, .ref a_terms_name, .ref a_terms_first, .ref a_terms_many, .ref a_terms_part, .ref a_terms_number, .int a_terms_size, .int a_terms_parts])), (a_terms_kind, .inl (cs 0, a_terms_kind_n, .inl a_terms_kind_f)), (a_terms_name, .inl (cs 0, a_terms_name_n, .inl a_terms_name_f)), (a_terms_first, .inl (cs 0, a_terms_first_n, .inl a_terms_first_f)), (a_terms_many, .inl (cs 0, a_terms_many_n, .inl a_terms_many_f)), (a_terms_part, .inl (cs 0, a_terms_part_n, .inl a_terms_part_f)), (a_terms_number, .inl (cs 2, a_terms_number_n, .inr (.inl a_terms_number_f))), (a_became, .inl (cs 0, a_became_n, .inl a_became_f)), (a_node, .inl (cs 0, a_node_n, .inl a_node_f)), (a_todo, .inl (cs 0, a_todo_n, .inl a_todo_10f)), (a, .inr (14, [.int y0_2, .int a_taped, .int a_place, .int a_resulted, .int a_marks, .ref a_tape, .ref a_result, .ref a_terms, .ref a_names, .ref a_reader, .ref a_paper, .ref a_register, .ref a_became, .ref a_node, .ref a_marked, .ref a_markedRegister, .ref a_up, .ref a_touched, .ref a_todo, .ref a_color, .int a_touches_12, .ref a_painted, .int 0])), (a_up, .inl (cs 0, a_up_n, .inl a_up_f_12)), (a_touched, .inl (cs 0, a_touched_n, .inl a_touched_f_6)), (a_color, .inl (cs 1, a_color_n, .inl a_color_f_12))] := ⟨hP, hD⟩
                    refine lv_iconst (v := 0) hx hb d_Mo_unify_216 (by decide) ?_
                    refine lv_istore hx hb d_Mo_unify_217 hl (by decide) rfl (fun ls hl => ?_)
                    have hl : lv_has ls 7 [(5, .int 0), (4, .int x4_10), (3, .int 0), (0, .ref a), (1, .int x), (2, .int y)] := hl
                    have J13 : ∀ (kf13 : Nat) (H : Heap) (locs : List Loc) (ls : Array Slot) (x5_13 : Int32) (a_became_13f : Nat → Int32), lv_has ls 7 [(5, .int x5_13), (4, .int x4_10), (3, .int 0), (0, .ref a), (1, .int x), (2, .int y)] → PD g A H [(a_reader, .inr (12, [.ref a_reader_sides, .ref a_reader_ranks, .ref a_reader_stop, .ref a_reader_terms, .ref a_reader_names, a_reader_s, .int a_reader_n, .int a_reader_at, .int a_reader_behind, .int a_reader_token, .int a_reader_open, .long a_reader_number, .ref a_reader_word, .int a_reader_letters, .ref a_reader_stack, .int a_reader_top, .int a_reader_place, .ref a_reader_variables, .int a_reader_variabled, .int a_reader_known, .int a_reader_rank, .ref a_reader_kept])), (a_register, .inl (cs 0, a_register_n, .inl a_register_f)), (a_painted, .inl (cs 0, a_painted_n, .inl a_painted_f)), (a_terms, .inr (11, [.ref a_terms_kind, .ref a_terms_name, .ref a_terms_first, .ref a_terms_many, .ref a_terms_part, .ref a_terms_number, .int a_terms_size, .int a_terms_parts])), (a_terms_kind, .inl (cs 0, a_terms_kind_n, .inl a_terms_kind_f)), (a_terms_name, .inl (cs 0, a_terms_name_n, .inl a_terms_name_f)), (a_terms_first, .inl (cs 0, a_terms_first_n, .inl a_terms_first_f)), (a_terms_many, .inl (cs 0, a_terms_many_n, .inl a_terms_many_f)), (a_terms_part, .inl (cs 0, a_terms_part_n, .inl a_terms_part_f)), (a_terms_number, .inl (cs 2, a_terms_number_n, .inr (.inl a_terms_number_f))), (a_became, .inl (cs 0, a_became_n, .inl a_became_13f)), (a_node, .inl (cs 0, a_node_n, .inl a_node_f)), (a_todo, .inl (cs 0, a_todo_n, .inl a_todo_10f)), (a, .inr (14, [.int y0_2, .int a_taped, .int a_place, .int a_resulted, .int a_marks, .ref a_tape, .ref a_result, .ref a_terms, .ref a_names, .ref a_reader, .ref a_paper, .ref a_register, .ref a_became, .ref a_node, .ref a_marked, .ref a_markedRegister, .ref a_up, .ref a_touched, .ref a_todo, .ref a_color, .int a_touches_12, .ref a_painted, .int 0])), (a_up, .inl (cs 0, a_up_n, .inl a_up_f_12)), (a_touched, .inl (cs 0, a_touched_n, .inl a_touched_f_6)), (a_color, .inl (cs 1, a_color_n, .inl a_color_f_12))] → va_S A s.heap H locs → p_Mo_unify_219 n a_became_n a_todo_n a_painted_f y0_2 a_touched_f_6 x4_10 a_todo_10f a_touches_12 a_up_f_12 a_color_f_12 kf13 x5_13 a_became_13f = some (r, o_a_thrown, o_a_touches, o_a_paints, o_a_became_f, o_a_up_f, o_a_touched_f, o_a_todo_f, o_a_color_f, o_a_painted_f) → W p l e (headSpec (.code y_Mo_unify b_Mo_unify 7 (some .boolean) :: GW) { frames := 3, cells := 0, slots := 0, locals := 74 }).room s m ([.ref a, .int x, .int y] : List Value).toArray below meth c H locs 0 0 Q (F0 m 219 ls []) := by
                      intro kf13
                      induction kf13 with
                      | zero => intro H locs ls x5_13 a_became_13f hl ⟨hP, hD⟩ hS hok; rw [p_Mo_unify_219] at hok; cases hok
                      | succ kf13 ih13 =>
                        intro H locs ls x5_13 a_became_13f hl ⟨hP, hD⟩ hS hok
                        rw [p_Mo_unify_219] at hok
                        refine lv_iload hx hb d_Mo_unify_219 (lv_at hl 0 rfl) ?_
                        refine lv_iload hx hb d_Mo_unify_221 (lv_at hl 1 rfl) ?_
                        refine lv_icmp_ge hx hb d_Mo_unify_223 rfl (fun h14 => ?_) (fun h14 => ?_)
                        · rw [if_pos h14] at hok
                          refine lv_iload_n hx hb d_Mo_unify_253 rfl (lv_at hl 2 rfl) ?_
                          have hq := Option.some.inj hok
                          obtain ⟨hq0, hq⟩ := Prod.mk.inj hq
                          obtain ⟨hq1, hq⟩ := Prod.mk.inj hq
                          obtain ⟨hq2, hq⟩ := Prod.mk.inj hq
                          obtain ⟨hq3, hq⟩ := Prod.mk.inj hq
                          obtain ⟨hq4, hq⟩ := Prod.mk.inj hq
                          obtain ⟨hq5, hq⟩ := Prod.mk.inj hq
                          obtain ⟨hq6, hq⟩ := Prod.mk.inj hq
                          obtain ⟨hq7, hq⟩ := Prod.mk.inj hq
                          obtain ⟨hq8, hq⟩ := Prod.mk.inj hq
                          have hq9 := hq
                          subst hq0
                          subst hq1
                          subst hq2
                          subst hq3
                          subst hq4
                          subst hq5
                          subst hq6
                          subst hq7
                          subst hq8
                          subst hq9
                          obtain ⟨hP9, hD9⟩ := sub2 (ws' := [(a, .inr (14, [.int y0_2, .int a_taped, .int a_place, .int a_resulted, .int a_marks, .ref a_tape, .ref a_result, .ref a_terms, .ref a_names, .ref a_reader, .ref a_paper, .ref a_register, .ref a_became, .ref a_node, .ref a_marked, .ref a_markedRegister, .ref a_up, .ref a_touched, .ref a_todo, .ref a_color, .int a_touches_12, .ref a_painted, .int 0])), (a_terms, .inr (11, [.ref a_terms_kind, .ref a_terms_name, .ref a_terms_first, .ref a_terms_many, .ref a_terms_part, .ref a_terms_number, .int a_terms_size, .int a_terms_parts])), (a_terms_kind, .inl (cs 0, a_terms_kind_n, .inl a_terms_kind_f)), (a_terms_name, .inl (cs 0, a_terms_name_n, .inl a_terms_name_f)), (a_terms_first, .inl (cs 0, a_terms_first_n, .inl a_terms_first_f)), (a_terms_many, .inl (cs 0, a_terms_many_n, .inl a_terms_many_f)), (a_terms_part, .inl (cs 0, a_terms_part_n, .inl a_terms_part_f)), (a_terms_number, .inl (cs 2, a_terms_number_n, .inr (.inl a_terms_number_f))), (a_reader, .inr (12, [.ref a_reader_sides, .ref a_reader_ranks, .ref a_reader_stop, .ref a_reader_terms, .ref a_reader_names, a_reader_s, .int a_reader_n, .int a_reader_at, .int a_reader_behind, .int a_reader_token, .int a_reader_open, .long a_reader_number, .ref a_reader_word, .int a_reader_letters, .ref a_reader_stack, .int a_reader_top, .int a_reader_place, .ref a_reader_variables, .int a_reader_variabled, .int a_reader_known, .int a_reader_rank, .ref a_reader_kept])), (a_register, .inl (cs 0, a_register_n, .inl a_register_f)), (a_became, .inl (cs 0, a_became_n, .inl a_became_13f)), (a_node, .inl (cs 0, a_node_n, .inl a_node_f)), (a_up, .inl (cs 0, a_up_n, .inl a_up_f_12)), (a_touched, .inl (cs 0, a_touched_n, .inl a_touched_f_6)), (a_todo, .inl (cs 0, a_todo_n, .inl a_todo_10f)), (a_color, .inl (cs 1, a_color_n, .inl a_color_f_12)), (a_painted, .inl (cs 0, a_painted_n, .inl a_painted_f))]) hP hD [13, 3, 4, 5, 6, 7, 8, 9, 0, 1, 10, 11, 14, 15, 12, 16, 2] rfl (by decide) rfl
                          rw [hQ]
                          exact W.zret (v := 0) hx hb hr rfl (fun t ht hW => ⟨⟨_, (), rfl, rfl, by rw [ht]; exact hP9, hD9⟩, hS.F ht⟩) hS.2.2 d_Mo_unify_254
                        · rw [if_neg h14] at hok
                          refine lv_aload_n hx hb d_Mo_unify_226 rfl (lv_at hl 3 rfl) ?_
                          refine va_get (D := g) (ci := 14) (v := .ref a_became) (C := R_Mo) (T := F_Mo) (N := 23) hx hb hg ul_Mo hown hK hP 13 rfl rfl 12 (by decide) (hg _ wd_791) (fun _ h9 => h9) rfl d_Mo_unify_227 ?_
                          refine lv_aload_n hx hb d_Mo_unify_230 rfl (lv_at hl 3 rfl) ?_
                          refine va_get (D := g) (ci := 14) (v := .ref a_todo) (C := R_Mo) (T := F_Mo) (N := 23) hx hb hg ul_Mo hown hK hP 13 rfl rfl 18 (by decide) (hg _ wd_803) (fun _ h9 => h9) rfl d_Mo_unify_231 ?_
                          refine lv_iload hx hb d_Mo_unify_234 (lv_at hl 0 rfl) ?_
                          obtain ⟨hi15, hok⟩ := ck_some hok
                          refine va_iald hx hb hK hP 12 0 rfl rfl (ixb_in hi15) d_Mo_unify_236 ?_
                          refine lv_aload_n hx hb d_Mo_unify_237 rfl (lv_at hl 3 rfl) ?_
                          refine va_get (D := g) (ci := 14) (v := .ref a_todo) (C := R_Mo) (T := F_Mo) (N := 23) hx hb hg ul_Mo hown hK hP 13 rfl rfl 18 (by decide) (hg _ wd_803) (fun _ h9 => h9) rfl d_Mo_unify_238 ?_
                          refine lv_iload hx hb d_Mo_unify_241 (lv_at hl 0 rfl) ?_
                          refine lv_iconst (v := 1) hx hb d_Mo_unify_243 (by decide) ?_
                          refine lv_iadd hx hb d_Mo_unify_244 ?_
                          obtain ⟨hi16, hok⟩ := ck_some hok
                          refine va_iald hx hb hK hP 12 0 rfl rfl (ixb_in hi16) d_Mo_unify_245 ?_
                          obtain ⟨hi17, hok⟩ := ck_some hok
                          refine va_iast hx hb hK hP hD hS 10 0 rfl rfl (ixb_in hi17) d_Mo_unify_246 (fun H locs hP hD hS => ?_)
                          obtain ⟨hP, hD⟩ : PD g A H [(a_reader, .inr (12, [.ref a_reader_sides, .ref a_reader_ranks, .ref a_reader_stop, .ref a_reader_terms, .ref a_reader_names, a_reader_s, .int a_reader_n, .int a_reader_at, .int a_reader_behind, .int a_reader_token, .int a_reader_open, .long a_reader_number, .ref a_reader_word, .int a_reader_letters, .ref a_reader_stack, .int a_reader_top, .int a_reader_place, .ref a_reader_variables, .int a_reader_variabled, .int a_reader_known, .int a_reader_rank, .ref a_reader_kept])), (a_register, .inl (cs 0, a_register_n, .inl a_register_f)), (a_painted, .inl (cs 0, a_painted_n, .inl a_painted_f)), (a_terms, .inr (11, [.ref a_terms_kind, .ref a_terms_name, .ref a_terms_first, .ref a_terms_many, .ref a_terms_part, .ref a_terms_number, .int a_terms_size, .int a_terms_parts])), (a_terms_kind, .inl (cs 0, a_terms_kind_n, .inl a_terms_kind_f)), (a_terms_name, .inl (cs 0, a_terms_name_n, .inl a_terms_name_f)), (a_terms_first, .inl (cs 0, a_terms_first_n, .inl a_terms_first_f)), (a_terms_many, .inl (cs 0, a_terms_many_n, .inl a_terms_many_f)), (a_terms_part, .inl (cs 0, a_terms_part_n, .inl a_terms_part_f)), (a_terms_number, .inl (cs 2, a_terms_number_n, .inr (.inl a_terms_number_f))), (a_became, .inl (cs 0, a_became_n, .inl (upd a_became_13f (a_todo_10f x5_13.toNatClampNeg).toNatClampNeg (a_todo_10f (x5_13 + 1).toNatClampNeg)))), (a_node, .inl (cs 0, a_node_n, .inl a_node_f)), (a_todo, .inl (cs 0, a_todo_n, .inl a_todo_10f)), (a, .inr (14, [.int y0_2, .int a_taped, .int a_place, .int a_resulted, .int a_marks, .ref a_tape, .ref a_result, .ref a_terms, .ref a_names, .ref a_reader, .ref a_paper, .ref a_register, .ref a_became, .ref a_node, .ref a_marked, .ref a_markedRegister, .ref a_up, .ref a_touched, .ref a_todo, .ref a_color, .int a_touches_12, .ref a_painted, .int 0])), (a_up, .inl (cs 0, a_up_n, .inl a_up_f_12)), (a_touched, .inl (cs 0, a_touched_n, .inl a_touched_f_6)), (a_color, .inl (cs 1, a_color_n, .inl a_color_f_12))] := ⟨hP, hD⟩
                          refine lv_iinc (k := 0) (v := x5_13 + 2) hx hb d_Mo_unify_247 hl rfl rfl (by decide) rfl (fun ls hl => ?_)
                          have hl : lv_has ls 7 [(5, .int (x5_13 + 2)), (4, .int x4_10), (3, .int 0), (0, .ref a), (1, .int x), (2, .int y)] := hl
                          refine lv_goto hx hb d_Mo_unify_250 rfl ?_
                          exact ih13 _ _ _ (x5_13 + 2) (upd a_became_13f (a_todo_10f x5_13.toNatClampNeg).toNatClampNeg (a_todo_10f (x5_13 + 1).toNatClampNeg)) (lv_sub hl [0, 1, 2, 3, 4, 5] rfl) (sub3 hP hD [0, 1, 2, 3, 4, 5, 6, 7, 8, 9, 10, 11, 12, 13, 14, 15, 16] (by decide)) hS hok
                    exact J13 n H locs ls (0 : Int32) a_became_f hl ⟨hP, hD⟩ hS hok
                  · exact absurd h11 (by decide)
              exact J10 n H locs ls (0 : Int32) (0 : Int32) a_todo_f_6 hl ⟨hP, hD⟩ hS hok
            · rw [if_neg h9] at hok
              refine lv_aload_n hx hb d_Mo_unify_83 rfl (lv_at hl 2 rfl) ?_
              refine va_get (D := g) (ci := 14) (v := .ref a_color) (C := R_Mo) (T := F_Mo) (N := 23) hx hb hg ul_Mo hown hK hP 4 rfl rfl 19 (by decide) (hg _ wd_800) (fun _ h9 => h9) rfl d_Mo_unify_84 ?_
              refine lv_aload_n hx hb d_Mo_unify_87 rfl (lv_at hl 2 rfl) ?_
              refine va_get (D := g) (ci := 14) (v := .ref a_painted) (C := R_Mo) (T := F_Mo) (N := 23) hx hb hg ul_Mo hown hK hP 4 rfl rfl 21 (by decide) (hg _ wd_801) (fun _ h9 => h9) rfl d_Mo_unify_88 ?_
              refine lv_iload hx hb d_Mo_unify_91 (lv_at hl 0 rfl) ?_
              obtain ⟨hi18, hok⟩ := ck_some hok
              refine va_iald hx hb hK hP 3 0 rfl rfl (ixb_in hi18) d_Mo_unify_93 ?_
              refine lv_iconst (v := 0) hx hb d_Mo_unify_94 (by decide) ?_
              obtain ⟨hi19, hok⟩ := ck_some hok
              refine va_bast hx hb hK hP hD hS 2 1 rfl rfl (ixb_in hi19) d_Mo_unify_95 (fun H locs hP hD hS => ?_)
              obtain ⟨hP, hD⟩ : PD g A H [(a_reader, .inr (12, [.ref a_reader_sides, .ref a_reader_ranks, .ref a_reader_stop, .ref a_reader_terms, .ref a_reader_names, a_reader_s, .int a_reader_n, .int a_reader_at, .int a_reader_behind, .int a_reader_token, .int a_reader_open, .long a_reader_number, .ref a_reader_word, .int a_reader_letters, .ref a_reader_stack, .int a_reader_top, .int a_reader_place, .ref a_reader_variables, .int a_reader_variabled, .int a_reader_known, .int a_reader_rank, .ref a_reader_kept])), (a_register, .inl (cs 0, a_register_n, .inl a_register_f)), (a_color, .inl (cs 1, a_color_n, .inl (upd a_color_8f (a_painted_f x4_8.toNatClampNeg).toNatClampNeg (vp_nar .byte 0)))), (a_painted, .inl (cs 0, a_painted_n, .inl a_painted_f)), (a, .inr (14, [.int y0_2, .int a_taped, .int a_place, .int a_resulted, .int a_marks, .ref a_tape, .ref a_result, .ref a_terms, .ref a_names, .ref a_reader, .ref a_paper, .ref a_register, .ref a_became, .ref a_node, .ref a_marked, .ref a_markedRegister, .ref a_up, .ref a_touched, .ref a_todo, .ref a_color, .int a_touches_6, .ref a_painted, .int a_paints])), (a_terms, .inr (11, [.ref a_terms_kind, .ref a_terms_name, .ref a_terms_first, .ref a_terms_many, .ref a_terms_part, .ref a_terms_number, .int a_terms_size, .int a_terms_parts])), (a_terms_kind, .inl (cs 0, a_terms_kind_n, .inl a_terms_kind_f)), (a_terms_name, .inl (cs 0, a_terms_name_n, .inl a_terms_name_f)), (a_terms_first, .inl (cs 0, a_terms_first_n, .inl a_terms_first_f)), (a_terms_many, .inl (cs 0, a_terms_many_n, .inl a_terms_many_f)), (a_terms_part, .inl (cs 0, a_terms_part_n, .inl a_terms_part_f)), (a_terms_number, .inl (cs 2, a_terms_number_n, .inr (.inl a_terms_number_f))), (a_became, .inl (cs 0, a_became_n, .inl a_became_f)), (a_node, .inl (cs 0, a_node_n, .inl a_node_f)), (a_up, .inl (cs 0, a_up_n, .inl a_up_f_6)), (a_touched, .inl (cs 0, a_touched_n, .inl a_touched_f_6)), (a_todo, .inl (cs 0, a_todo_n, .inl a_todo_f_6))] := ⟨hP, hD⟩
              refine lv_iinc (k := 0) (v := x4_8 + 1) hx hb d_Mo_unify_96 hl rfl rfl (by decide) rfl (fun ls hl => ?_)
              have hl : lv_has ls 7 [(4, .int (x4_8 + 1)), (3, .int 0), (0, .ref a), (1, .int x), (2, .int y)] := hl
              refine lv_goto hx hb d_Mo_unify_99 rfl ?_
              exact ih8 _ _ _ (x4_8 + 1) (upd a_color_8f (a_painted_f x4_8.toNatClampNeg).toNatClampNeg (vp_nar .byte 0)) (lv_sub hl [0, 1, 2, 3, 4] rfl) (sub3 hP hD [0, 1, 2, 3, 4, 5, 6, 7, 8, 9, 10, 11, 12, 13, 14, 15, 16] (by decide)) hS hok
        exact J8 n H locs ls (0 : Int32) a_color_f hl ⟨hP, hD⟩ hS hok
      · rw [if_neg h7] at hok
        refine lv_aload_n hx hb d_Mo_unify_52 rfl (lv_at hl 0 rfl) ?_
        refine lv_aload_n hx hb d_Mo_unify_53 rfl (lv_at hl 0 rfl) ?_
        refine va_get (D := g) (ci := 14) (v := .ref a_register) (C := R_Mo) (T := F_Mo) (N := 23) hx hb hg ul_Mo hown hK hP 4 rfl rfl 11 (by decide) (hg _ wd_822) (fun _ h9 => h9) rfl d_Mo_unify_54 ?_
        refine lv_iload_n hx hb d_Mo_unify_57 rfl (lv_at hl 1 rfl) ?_
        obtain ⟨hi20, hok⟩ := ck_some hok
        refine va_iald hx hb hK hP 1 0 rfl rfl (ixb_in hi20) d_Mo_unify_58 ?_
        obtain ⟨⟨r21, a_paints_21, a_todo_f_21, a_color_f_21, a_painted_f_21⟩, hc21, hok⟩ := bd_some hok
        dsimp only at hok
        obtain ⟨hPc, hDc, hFc⟩ := cut0 (wc := [(a, .inr (14, [.int y0_2, .int a_taped, .int a_place, .int a_resulted, .int a_marks, .ref a_tape, .ref a_result, .ref a_terms, .ref a_names, .ref a_reader, .ref a_paper, .ref a_register, .ref a_became, .ref a_node, .ref a_marked, .ref a_markedRegister, .ref a_up, .ref a_touched, .ref a_todo, .ref a_color, .int a_touches_6, .ref a_painted, .int a_paints])), (a_terms, .inr (11, [.ref a_terms_kind, .ref a_terms_name, .ref a_terms_first, .ref a_terms_many, .ref a_terms_part, .ref a_terms_number, .int a_terms_size, .int a_terms_parts])), (a_terms_kind, .inl (cs 0, a_terms_kind_n, .inl a_terms_kind_f)), (a_terms_name, .inl (cs 0, a_terms_name_n, .inl a_terms_name_f)), (a_terms_first, .inl (cs 0, a_terms_first_n, .inl a_terms_first_f)), (a_terms_many, .inl (cs 0, a_terms_many_n, .inl a_terms_many_f)), (a_terms_part, .inl (cs 0, a_terms_part_n, .inl a_terms_part_f)), (a_became, .inl (cs 0, a_became_n, .inl a_became_f)), (a_node, .inl (cs 0, a_node_n, .inl a_node_f)), (a_up, .inl (cs 0, a_up_n, .inl a_up_f_6)), (a_todo, .inl (cs 0, a_todo_n, .inl a_todo_f_6)), (a_color, .inl (cs 1, a_color_n, .inl a_color_f)), (a_painted, .inl (cs 0, a_painted_n, .inl a_painted_f))]) hP hD hS hA [4, 5, 6, 7, 8, 9, 10, 12, 13, 14, 16, 2, 3] (by decide) rfl
        refine va_calli (va_runV (As := [.int (a_register_f x.toNatClampNeg)]) (rest := []) ⟨hx, hb, hml, hown, hg⟩ (c_Mo_finite l g cs ka a_tape a_result a_names a_reader a_paper a_register a_marked a_markedRegister a_touched a_terms_number a a_terms a_terms_kind a_terms_name a_terms_first a_terms_many a_terms_part a_became a_node a_up a_todo a_color a_painted H.size n (a_register_f x.toNatClampNeg) y0_2 a_taped a_place a_resulted a_marks a_touches_6 a_paints a_terms_size a_terms_parts a_terms_kind_n a_terms_kind_f a_terms_name_n a_terms_name_f a_terms_first_n a_terms_first_f a_terms_many_n a_terms_many_f a_terms_part_n a_terms_part_f a_became_n a_became_f a_node_n a_node_f a_up_n a_up_f_6 a_todo_n a_todo_f_6 a_color_n a_color_f a_painted_n a_painted_f r21 a_paints_21 a_todo_f_21 a_color_f_21 a_painted_f_21 hc21) (cwV (C := R_Mo) 1 hg (gw_V wd_832 wd_833 wd_834 wd_780 wd_831) rfl rfl rfl (by decide +kernel) ⟨Nat.le_of_ble_eq_true rfl, Nat.le_of_ble_eq_true rfl⟩) ⟨gP_blind, va_recv (q0 := 4) (ci := 14) (q := (R_Mo, F_Mo, 23)) hK hP rfl rfl, gP_pre hPc hDc hK hgl hkn hkr hS hFc⟩ rfl rfl hl.1 rfl (lv_room (Nat.le_of_ble_eq_true rfl)) d_Mo_unify_59 ⟨Nat.le_of_ble_eq_true rfl, Nat.le_of_ble_eq_true rfl⟩) hS (fun q _ h => hFc q h) hFc (fun r21' u t H locs ht hvm hr21 hB hz1 hk1 hS => ?_)
        subst hr21
        rw [ht] at hB
        obtain ⟨hP1, hD1⟩ := hB
        obtain ⟨hP, hD⟩ := jn_A hP hD [4, 5, 6, 7, 8, 9, 10, 12, 13, 14, 16, 2, 3] [0, 1, 11, 15] rfl rfl (by decide) (by decide) hk1 hFc hP1 hD1
        obtain ⟨hP, hD⟩ : PD g A H [(a_reader, .inr (12, [.ref a_reader_sides, .ref a_reader_ranks, .ref a_reader_stop, .ref a_reader_terms, .ref a_reader_names, a_reader_s, .int a_reader_n, .int a_reader_at, .int a_reader_behind, .int a_reader_token, .int a_reader_open, .long a_reader_number, .ref a_reader_word, .int a_reader_letters, .ref a_reader_stack, .int a_reader_top, .int a_reader_place, .ref a_reader_variables, .int a_reader_variabled, .int a_reader_known, .int a_reader_rank, .ref a_reader_kept])), (a_register, .inl (cs 0, a_register_n, .inl a_register_f)), (a_terms_number, .inl (cs 2, a_terms_number_n, .inr (.inl a_terms_number_f))), (a_touched, .inl (cs 0, a_touched_n, .inl a_touched_f_6)), (a, .inr (14, [.int y0_2, .int a_taped, .int a_place, .int a_resulted, .int a_marks, .ref a_tape, .ref a_result, .ref a_terms, .ref a_names, .ref a_reader, .ref a_paper, .ref a_register, .ref a_became, .ref a_node, .ref a_marked, .ref a_markedRegister, .ref a_up, .ref a_touched, .ref a_todo, .ref a_color, .int a_touches_6, .ref a_painted, .int a_paints_21])), (a_terms, .inr (11, [.ref a_terms_kind, .ref a_terms_name, .ref a_terms_first, .ref a_terms_many, .ref a_terms_part, .ref a_terms_number, .int a_terms_size, .int a_terms_parts])), (a_terms_kind, .inl (cs 0, a_terms_kind_n, .inl a_terms_kind_f)), (a_terms_name, .inl (cs 0, a_terms_name_n, .inl a_terms_name_f)), (a_terms_first, .inl (cs 0, a_terms_first_n, .inl a_terms_first_f)), (a_terms_many, .inl (cs 0, a_terms_many_n, .inl a_terms_many_f)), (a_terms_part, .inl (cs 0, a_terms_part_n, .inl a_terms_part_f)), (a_became, .inl (cs 0, a_became_n, .inl a_became_f)), (a_node, .inl (cs 0, a_node_n, .inl a_node_f)), (a_up, .inl (cs 0, a_up_n, .inl a_up_f_6)), (a_todo, .inl (cs 0, a_todo_n, .inl a_todo_f_21)), (a_color, .inl (cs 1, a_color_n, .inl a_color_f_21)), (a_painted, .inl (cs 0, a_painted_n, .inl a_painted_f_21))] := ⟨hP, hD⟩
        refine lv_if_eq hx hb d_Mo_unify_62 rfl (fun h22 => ?_) (fun h22 => ?_)
        · rw [if_pos h22] at hok
          refine lv_iconst (v := 0) hx hb d_Mo_unify_69 (by decide) ?_
          refine lv_istore_n hx hb d_Mo_unify_70 rfl hl (by decide) rfl (fun ls hl => ?_)
          have hl : lv_has ls 7 [(3, .int 0), (0, .ref a), (1, .int x), (2, .int y)] := hl
          refine lv_iconst (v := 0) hx hb d_Mo_unify_71 (by decide) ?_
          refine lv_istore hx hb d_Mo_unify_72 hl (by decide) rfl (fun ls hl => ?_)
          have hl : lv_has ls 7 [(4, .int 0), (3, .int 0), (0, .ref a), (1, .int x), (2, .int y)] := hl
          have J23 : ∀ (kf23 : Nat) (H : Heap) (locs : List Loc) (ls : Array Slot) (x4_23 : Int32) (a_color_23f : Nat → Int32), lv_has ls 7 [(4, .int x4_23), (3, .int 0), (0, .ref a), (1, .int x), (2, .int y)] → PD g A H [(a_reader, .inr (12, [.ref a_reader_sides, .ref a_reader_ranks, .ref a_reader_stop, .ref a_reader_terms, .ref a_reader_names, a_reader_s, .int a_reader_n, .int a_reader_at, .int a_reader_behind, .int a_reader_token, .int a_reader_open, .long a_reader_number, .ref a_reader_word, .int a_reader_letters, .ref a_reader_stack, .int a_reader_top, .int a_reader_place, .ref a_reader_variables, .int a_reader_variabled, .int a_reader_known, .int a_reader_rank, .ref a_reader_kept])), (a_register, .inl (cs 0, a_register_n, .inl a_register_f)), (a_terms_number, .inl (cs 2, a_terms_number_n, .inr (.inl a_terms_number_f))), (a_touched, .inl (cs 0, a_touched_n, .inl a_touched_f_6)), (a, .inr (14, [.int y0_2, .int a_taped, .int a_place, .int a_resulted, .int a_marks, .ref a_tape, .ref a_result, .ref a_terms, .ref a_names, .ref a_reader, .ref a_paper, .ref a_register, .ref a_became, .ref a_node, .ref a_marked, .ref a_markedRegister, .ref a_up, .ref a_touched, .ref a_todo, .ref a_color, .int a_touches_6, .ref a_painted, .int a_paints_21])), (a_terms, .inr (11, [.ref a_terms_kind, .ref a_terms_name, .ref a_terms_first, .ref a_terms_many, .ref a_terms_part, .ref a_terms_number, .int a_terms_size, .int a_terms_parts])), (a_terms_kind, .inl (cs 0, a_terms_kind_n, .inl a_terms_kind_f)), (a_terms_name, .inl (cs 0, a_terms_name_n, .inl a_terms_name_f)), (a_terms_first, .inl (cs 0, a_terms_first_n, .inl a_terms_first_f)), (a_terms_many, .inl (cs 0, a_terms_many_n, .inl a_terms_many_f)), (a_terms_part, .inl (cs 0, a_terms_part_n, .inl a_terms_part_f)), (a_became, .inl (cs 0, a_became_n, .inl a_became_f)), (a_node, .inl (cs 0, a_node_n, .inl a_node_f)), (a_up, .inl (cs 0, a_up_n, .inl a_up_f_6)), (a_todo, .inl (cs 0, a_todo_n, .inl a_todo_f_21)), (a_color, .inl (cs 1, a_color_n, .inl a_color_23f)), (a_painted, .inl (cs 0, a_painted_n, .inl a_painted_f_21))] → va_S A s.heap H locs → p_Mo_unify_74_23 n a_taped a_place a_resulted a_marks a_became_n a_became_f a_up_n a_touched_n a_todo_n a_color_n a_painted_n y0_2 a_touches_6 a_up_f_6 a_touched_f_6 a_paints_21 a_todo_f_21 a_painted_f_21 kf23 x4_23 a_color_23f = some (r, o_a_thrown, o_a_touches, o_a_paints, o_a_became_f, o_a_up_f, o_a_touched_f, o_a_todo_f, o_a_color_f, o_a_painted_f) → W p l e (headSpec (.code y_Mo_unify b_Mo_unify 7 (some .boolean) :: GW) { frames := 3, cells := 0, slots := 0, locals := 74 }).room s m ([.ref a, .int x, .int y] : List Value).toArray below meth c H locs 0 0 Q (F0 m 74 ls []) := by
            intro kf23
            induction kf23 with
            | zero => intro H locs ls x4_23 a_color_23f hl ⟨hP, hD⟩ hS hok; rw [p_Mo_unify_74_23] at hok; cases hok
            | succ kf23 ih23 =>
              intro H locs ls x4_23 a_color_23f hl ⟨hP, hD⟩ hS hok
              rw [p_Mo_unify_74_23] at hok
              refine lv_iload hx hb d_Mo_unify_74 (lv_at hl 0 rfl) ?_
              refine lv_aload_n hx hb d_Mo_unify_76 rfl (lv_at hl 2 rfl) ?_
              refine va_get (D := g) (ci := 14) (v := .int a_paints_21) (C := R_Mo) (T := F_Mo) (N := 23) hx hb hg ul_Mo hown hK hP 4 rfl rfl 22 (by decide) (hg _ wd_802) (fun _ h9 => h9) rfl d_Mo_unify_77 ?_
              refine lv_icmp_ge hx hb d_Mo_unify_80 rfl (fun h24 => ?_) (fun h24 => ?_)
              · rw [if_pos h24] at hok
                refine lv_aload_n hx hb d_Mo_unify_102 rfl (lv_at hl 2 rfl) ?_
                refine lv_iconst (v := 0) hx hb d_Mo_unify_103 (by decide) ?_
                refine va_put (D := g) (ci := 14) (v := .int 0) (ty := .int) (C := R_Mo) (T := F_Mo) (N := 23) hx hb hg ul_Mo t_Mo tk_Mo n_Mo hown hK hP hD hS 4 rfl rfl 22 (by decide) (hg _ wd_802) (fun _ h9 => h9) rfl (by decide +kernel) rfl rfl (Nat.le_of_ble_eq_true rfl) d_Mo_unify_104 (fun H locs hP hD hS => ?_)
                obtain ⟨hP, hD⟩ : PD g A H [(a_reader, .inr (12, [.ref a_reader_sides, .ref a_reader_ranks, .ref a_reader_stop, .ref a_reader_terms, .ref a_reader_names, a_reader_s, .int a_reader_n, .int a_reader_at, .int a_reader_behind, .int a_reader_token, .int a_reader_open, .long a_reader_number, .ref a_reader_word, .int a_reader_letters, .ref a_reader_stack, .int a_reader_top, .int a_reader_place, .ref a_reader_variables, .int a_reader_variabled, .int a_reader_known, .int a_reader_rank, .ref a_reader_kept])), (a_register, .inl (cs 0, a_register_n, .inl a_register_f)), (a_terms_number, .inl (cs 2, a_terms_number_n, .inr (.inl a_terms_number_f))), (a_touched, .inl (cs 0, a_touched_n, .inl a_touched_f_6)), (a, .inr (14, [.int y0_2, .int a_taped, .int a_place, .int a_resulted, .int a_marks, .ref a_tape, .ref a_result, .ref a_terms, .ref a_names, .ref a_reader, .ref a_paper, .ref a_register, .ref a_became, .ref a_node, .ref a_marked, .ref a_markedRegister, .ref a_up, .ref a_touched, .ref a_todo, .ref a_color, .int a_touches_6, .ref a_painted, .int 0])), (a_terms, .inr (11, [.ref a_terms_kind, .ref a_terms_name, .ref a_terms_first, .ref a_terms_many, .ref a_terms_part, .ref a_terms_number, .int a_terms_size, .int a_terms_parts])), (a_terms_kind, .inl (cs 0, a_terms_kind_n, .inl a_terms_kind_f)), (a_terms_name, .inl (cs 0, a_terms_name_n, .inl a_terms_name_f)), (a_terms_first, .inl (cs 0, a_terms_first_n, .inl a_terms_first_f)), (a_terms_many, .inl (cs 0, a_terms_many_n, .inl a_terms_many_f)), (a_terms_part, .inl (cs 0, a_terms_part_n, .inl a_terms_part_f)), (a_became, .inl (cs 0, a_became_n, .inl a_became_f)), (a_node, .inl (cs 0, a_node_n, .inl a_node_f)), (a_up, .inl (cs 0, a_up_n, .inl a_up_f_6)), (a_todo, .inl (cs 0, a_todo_n, .inl a_todo_f_21)), (a_color, .inl (cs 1, a_color_n, .inl a_color_23f)), (a_painted, .inl (cs 0, a_painted_n, .inl a_painted_f_21))] := ⟨hP, hD⟩
                refine lv_iconst (v := 0) hx hb d_Mo_unify_107 (by decide) ?_
                refine lv_istore hx hb d_Mo_unify_108 hl (by decide) rfl (fun ls hl => ?_)
                have hl : lv_has ls 7 [(4, .int 0), (3, .int 0), (0, .ref a), (1, .int x), (2, .int y)] := hl
                refine lv_iconst (v := 0) hx hb d_Mo_unify_110 (by decide) ?_
                refine lv_istore hx hb d_Mo_unify_111 hl (by decide) rfl (fun ls hl => ?_)
                have hl : lv_has ls 7 [(5, .int 0), (4, .int 0), (3, .int 0), (0, .ref a), (1, .int x), (2, .int y)] := hl
                have J25 : ∀ (kf25 : Nat) (H : Heap) (locs : List Loc) (ls : Array Slot) (x5_25 : Int32) (x4_25 : Int32) (a_todo_25f : Nat → Int32), lv_has ls 7 [(5, .int x5_25), (4, .int x4_25), (3, .int 0), (0, .ref a), (1, .int x), (2, .int y)] → PD g A H [(a_reader, .inr (12, [.ref a_reader_sides, .ref a_reader_ranks, .ref a_reader_stop, .ref a_reader_terms, .ref a_reader_names, a_reader_s, .int a_reader_n, .int a_reader_at, .int a_reader_behind, .int a_reader_token, .int a_reader_open, .long a_reader_number, .ref a_reader_word, .int a_reader_letters, .ref a_reader_stack, .int a_reader_top, .int a_reader_place, .ref a_reader_variables, .int a_reader_variabled, .int a_reader_known, .int a_reader_rank, .ref a_reader_kept])), (a_register, .inl (cs 0, a_register_n, .inl a_register_f)), (a_terms_number, .inl (cs 2, a_terms_number_n, .inr (.inl a_terms_number_f))), (a_touched, .inl (cs 0, a_touched_n, .inl a_touched_f_6)), (a, .inr (14, [.int y0_2, .int a_taped, .int a_place, .int a_resulted, .int a_marks, .ref a_tape, .ref a_result, .ref a_terms, .ref a_names, .ref a_reader, .ref a_paper, .ref a_register, .ref a_became, .ref a_node, .ref a_marked, .ref a_markedRegister, .ref a_up, .ref a_touched, .ref a_todo, .ref a_color, .int a_touches_6, .ref a_painted, .int 0])), (a_terms, .inr (11, [.ref a_terms_kind, .ref a_terms_name, .ref a_terms_first, .ref a_terms_many, .ref a_terms_part, .ref a_terms_number, .int a_terms_size, .int a_terms_parts])), (a_terms_kind, .inl (cs 0, a_terms_kind_n, .inl a_terms_kind_f)), (a_terms_name, .inl (cs 0, a_terms_name_n, .inl a_terms_name_f)), (a_terms_first, .inl (cs 0, a_terms_first_n, .inl a_terms_first_f)), (a_terms_many, .inl (cs 0, a_terms_many_n, .inl a_terms_many_f)), (a_terms_part, .inl (cs 0, a_terms_part_n, .inl a_terms_part_f)), (a_became, .inl (cs 0, a_became_n, .inl a_became_f)), (a_node, .inl (cs 0, a_node_n, .inl a_node_f)), (a_up, .inl (cs 0, a_up_n, .inl a_up_f_6)), (a_todo, .inl (cs 0, a_todo_n, .inl a_todo_25f)), (a_color, .inl (cs 1, a_color_n, .inl a_color_23f)), (a_painted, .inl (cs 0, a_painted_n, .inl a_painted_f_21))] → va_S A s.heap H locs → p_Mo_unify_113_25 n a_taped a_place a_resulted a_marks a_became_n a_became_f a_up_n a_touched_n a_todo_n a_color_n y0_2 a_touches_6 a_up_f_6 a_touched_f_6 a_painted_f_21 a_color_23f kf25 x5_25 x4_25 a_todo_25f = some (r, o_a_thrown, o_a_touches, o_a_paints, o_a_became_f, o_a_up_f, o_a_touched_f, o_a_todo_f, o_a_color_f, o_a_painted_f) → W p l e (headSpec (.code y_Mo_unify b_Mo_unify 7 (some .boolean) :: GW) { frames := 3, cells := 0, slots := 0, locals := 74 }).room s m ([.ref a, .int x, .int y] : List Value).toArray below meth c H locs 0 0 Q (F0 m 113 ls []) := by
                  intro kf25
                  induction kf25 with
                  | zero => intro H locs ls x5_25 x4_25 a_todo_25f hl ⟨hP, hD⟩ hS hok; rw [p_Mo_unify_113_25] at hok; cases hok
                  | succ kf25 ih25 =>
                    intro H locs ls x5_25 x4_25 a_todo_25f hl ⟨hP, hD⟩ hS hok
                    rw [p_Mo_unify_113_25] at hok
                    refine lv_iload_n hx hb d_Mo_unify_113 rfl (lv_at hl 2 rfl) ?_
                    refine lv_if_eq hx hb d_Mo_unify_114 rfl (fun h26 => ?_) (fun h26 => ?_)
                    · refine lv_aload_n hx hb d_Mo_unify_212 rfl (lv_at hl 3 rfl) ?_
                      obtain ⟨⟨a_touches_27, a_up_f_27, a_color_f_27⟩, hc27, hok⟩ := bd_some hok
                      dsimp only at hok
                      obtain ⟨hPc, hDc, hFc⟩ := cut0 (wc := [(a, .inr (14, [.int y0_2, .int a_taped, .int a_place, .int a_resulted, .int a_marks, .ref a_tape, .ref a_result, .ref a_terms, .ref a_names, .ref a_reader, .ref a_paper, .ref a_register, .ref a_became, .ref a_node, .ref a_marked, .ref a_markedRegister, .ref a_up, .ref a_touched, .ref a_todo, .ref a_color, .int a_touches_6, .ref a_painted, .int 0])), (a_up, .inl (cs 0, a_up_n, .inl a_up_f_6)), (a_touched, .inl (cs 0, a_touched_n, .inl a_touched_f_6)), (a_color, .inl (cs 1, a_color_n, .inl a_color_23f))]) hP hD hS hA [4, 13, 3, 15] (by decide) rfl
                      refine va_callv (va_runV (As := []) (rest := []) ⟨hx, hb, hml, hown, hg⟩ (c_Mo_part_ l g cs ka a_tape a_result a_terms a_names a_reader a_paper a_register a_became a_node a_marked a_markedRegister a_todo a_painted a a_up a_touched a_color H.size n y0_2 a_taped a_place a_resulted a_marks a_touches_6 (0 : Int32) a_up_n a_up_f_6 a_touched_n a_touched_f_6 a_color_n a_color_23f a_touches_27 a_up_f_27 a_color_f_27 hc27) (cwV (C := R_Mo) 0 hg (gw_V wd_828 wd_829 wd_830 wd_780 wd_827) rfl rfl rfl (by decide +kernel) ⟨Nat.le_of_ble_eq_true rfl, Nat.le_of_ble_eq_true rfl⟩) ⟨gP_blind, va_recv (q0 := 4) (ci := 14) (q := (R_Mo, F_Mo, 23)) hK hP rfl rfl, gP_pre hPc hDc hK hgl hkn hkr hS hFc⟩ rfl rfl hl.1 rfl (lv_room (Nat.le_of_ble_eq_true rfl)) d_Mo_unify_213 ⟨Nat.le_of_ble_eq_true rfl, Nat.le_of_ble_eq_true rfl⟩) hS (fun q _ h => hFc q h) hFc (fun u t H locs ht hvm hr27 hB hz1 hk1 hS => ?_)
                      rw [ht] at hB
                      obtain ⟨hP1, hD1⟩ := hB
                      obtain ⟨hP, hD⟩ := jn_A hP hD [4, 13, 3, 15] [0, 1, 2, 5, 6, 7, 8, 9, 10, 11, 12, 14, 16] rfl rfl (by decide) (by decide) hk1 hFc hP1 hD1
                      obtain ⟨hP, hD⟩ : PD g A H [(a_reader, .inr (12, [.ref a_reader_sides, .ref a_reader_ranks, .ref a_reader_stop, .ref a_reader_terms, .ref a_reader_names, a_reader_s, .int a_reader_n, .int a_reader_at, .int a_reader_behind, .int a_reader_token, .int a_reader_open, .long a_reader_number, .ref a_reader_word, .int a_reader_letters, .ref a_reader_stack, .int a_reader_top, .int a_reader_place, .ref a_reader_variables, .int a_reader_variabled, .int a_reader_known, .int a_reader_rank, .ref a_reader_kept])), (a_register, .inl (cs 0, a_register_n, .inl a_register_f)), (a_terms_number, .inl (cs 2, a_terms_number_n, .inr (.inl a_terms_number_f))), (a_terms, .inr (11, [.ref a_terms_kind, .ref a_terms_name, .ref a_terms_first, .ref a_terms_many, .ref a_terms_part, .ref a_terms_number, .int a_terms_size, .int a_terms_parts])), (a_terms_kind, .inl (cs 0, a_terms_kind_n, .inl a_terms_kind_f)), (a_terms_name, .inl (cs 0, a_terms_name_n, .inl a_terms_name_f)), (a_terms_first, .inl (cs 0, a_terms_first_n, .inl a_terms_first_f)), (a_terms_many, .inl (cs 0, a_terms_many_n, .inl a_terms_many_f)), (a_terms_part, .inl (cs 0, a_terms_part_n, .inl a_terms_part_f)), (a_became, .inl (cs 0, a_became_n, .inl a_became_f)), (a_node, .inl (cs 0, a_node_n, .inl a_node_f)), (a_todo, .inl (cs 0, a_todo_n, .inl a_todo_25f)), (a_painted, .inl (cs 0, a_painted_n, .inl a_painted_f_21)), (a, .inr (14, [.int y0_2, .int a_taped, .int a_place, .int a_resulted, .int a_marks, .ref a_tape, .ref a_result, .ref a_terms, .ref a_names, .ref a_reader, .ref a_paper, .ref a_register, .ref a_became, .ref a_node, .ref a_marked, .ref a_markedRegister, .ref a_up, .ref a_touched, .ref a_todo, .ref a_color, .int a_touches_27, .ref a_painted, .int 0])), (a_up, .inl (cs 0, a_up_n, .inl a_up_f_27)), (a_touched, .inl (cs 0, a_touched_n, .inl a_touched_f_6)), (a_color, .inl (cs 1, a_color_n, .inl a_color_f_27))] := ⟨hP, hD⟩
                      refine lv_iconst (v := 0) hx hb d_Mo_unify_216 (by decide) ?_
                      refine lv_istore hx hb d_Mo_unify_217 hl (by decide) rfl (fun ls hl => ?_)
                      have hl : lv_has ls 7 [(5, .int 0), (4, .int x4_25), (3, .int 0), (0, .ref a), (1, .int x), (2, .int y)] := hl
                      have J28 : ∀ (kf28 : Nat) (H : Heap) (locs : List Loc) (ls : Array Slot) (x5_28 : Int32) (a_became_28f : Nat → Int32), lv_has ls 7 [(5, .int x5_28), (4, .int x4_25), (3, .int 0), (0, .ref a), (1, .int x), (2, .int y)] → PD g A H [(a_reader, .inr (12, [.ref a_reader_sides, .ref a_reader_ranks, .ref a_reader_stop, .ref a_reader_terms, .ref a_reader_names, a_reader_s, .int a_reader_n, .int a_reader_at, .int a_reader_behind, .int a_reader_token, .int a_reader_open, .long a_reader_number, .ref a_reader_word, .int a_reader_letters, .ref a_reader_stack, .int a_reader_top, .int a_reader_place, .ref a_reader_variables, .int a_reader_variabled, .int a_reader_known, .int a_reader_rank, .ref a_reader_kept])), (a_register, .inl (cs 0, a_register_n, .inl a_register_f)), (a_terms_number, .inl (cs 2, a_terms_number_n, .inr (.inl a_terms_number_f))), (a_terms, .inr (11, [.ref a_terms_kind, .ref a_terms_name, .ref a_terms_first, .ref a_terms_many, .ref a_terms_part, .ref a_terms_number, .int a_terms_size, .int a_terms_parts])), (a_terms_kind, .inl (cs 0, a_terms_kind_n, .inl a_terms_kind_f)), (a_terms_name, .inl (cs 0, a_terms_name_n, .inl a_terms_name_f)), (a_terms_first, .inl (cs 0, a_terms_first_n, .inl a_terms_first_f)), (a_terms_many, .inl (cs 0, a_terms_many_n, .inl a_terms_many_f)), (a_terms_part, .inl (cs 0, a_terms_part_n, .inl a_terms_part_f)), (a_became, .inl (cs 0, a_became_n, .inl a_became_28f)), (a_node, .inl (cs 0, a_node_n, .inl a_node_f)), (a_todo, .inl (cs 0, a_todo_n, .inl a_todo_25f)), (a_painted, .inl (cs 0, a_painted_n, .inl a_painted_f_21)), (a, .inr (14, [.int y0_2, .int a_taped, .int a_place, .int a_resulted, .int a_marks, .ref a_tape, .ref a_result, .ref a_terms, .ref a_names, .ref a_reader, .ref a_paper, .ref a_register, .ref a_became, .ref a_node, .ref a_marked, .ref a_markedRegister, .ref a_up, .ref a_touched, .ref a_todo, .ref a_color, .int a_touches_27, .ref a_painted, .int 0])), (a_up, .inl (cs 0, a_up_n, .inl a_up_f_27)), (a_touched, .inl (cs 0, a_touched_n, .inl a_touched_f_6)), (a_color, .inl (cs 1, a_color_n, .inl a_color_f_27))] → va_S A s.heap H locs → p_Mo_unify_219_28 n a_became_n a_todo_n y0_2 a_touched_f_6 a_painted_f_21 x4_25 a_todo_25f a_touches_27 a_up_f_27 a_color_f_27 kf28 x5_28 a_became_28f = some (r, o_a_thrown, o_a_touches, o_a_paints, o_a_became_f, o_a_up_f, o_a_touched_f, o_a_todo_f, o_a_color_f, o_a_painted_f) → W p l e (headSpec (.code y_Mo_unify b_Mo_unify 7 (some .boolean) :: GW) { frames := 3, cells := 0, slots := 0, locals := 74 }).room s m ([.ref a, .int x, .int y] : List Value).toArray below meth c H locs 0 0 Q (F0 m 219 ls []) := by
                        intro kf28
                        induction kf28 with
                        | zero => intro H locs ls x5_28 a_became_28f hl ⟨hP, hD⟩ hS hok; rw [p_Mo_unify_219_28] at hok; cases hok
                        | succ kf28 ih28 =>
                          intro H locs ls x5_28 a_became_28f hl ⟨hP, hD⟩ hS hok
                          rw [p_Mo_unify_219_28] at hok
                          refine lv_iload hx hb d_Mo_unify_219 (lv_at hl 0 rfl) ?_
                          refine lv_iload hx hb d_Mo_unify_221 (lv_at hl 1 rfl) ?_
                          refine lv_icmp_ge hx hb d_Mo_unify_223 rfl (fun h29 => ?_) (fun h29 => ?_)
                          · rw [if_pos h29] at hok
                            refine lv_iload_n hx hb d_Mo_unify_253 rfl (lv_at hl 2 rfl) ?_
                            have hq := Option.some.inj hok
                            obtain ⟨hq0, hq⟩ := Prod.mk.inj hq
                            obtain ⟨hq1, hq⟩ := Prod.mk.inj hq
                            obtain ⟨hq2, hq⟩ := Prod.mk.inj hq
                            obtain ⟨hq3, hq⟩ := Prod.mk.inj hq
                            obtain ⟨hq4, hq⟩ := Prod.mk.inj hq
                            obtain ⟨hq5, hq⟩ := Prod.mk.inj hq
                            obtain ⟨hq6, hq⟩ := Prod.mk.inj hq
                            obtain ⟨hq7, hq⟩ := Prod.mk.inj hq
                            obtain ⟨hq8, hq⟩ := Prod.mk.inj hq
                            have hq9 := hq
                            subst hq0
                            subst hq1
                            subst hq2
                            subst hq3
                            subst hq4
                            subst hq5
                            subst hq6
                            subst hq7
                            subst hq8
                            subst hq9
                            obtain ⟨hP9, hD9⟩ := sub2 (ws' := [(a, .inr (14, [.int y0_2, .int a_taped, .int a_place, .int a_resulted, .int a_marks, .ref a_tape, .ref a_result, .ref a_terms, .ref a_names, .ref a_reader, .ref a_paper, .ref a_register, .ref a_became, .ref a_node, .ref a_marked, .ref a_markedRegister, .ref a_up, .ref a_touched, .ref a_todo, .ref a_color, .int a_touches_27, .ref a_painted, .int 0])), (a_terms, .inr (11, [.ref a_terms_kind, .ref a_terms_name, .ref a_terms_first, .ref a_terms_many, .ref a_terms_part, .ref a_terms_number, .int a_terms_size, .int a_terms_parts])), (a_terms_kind, .inl (cs 0, a_terms_kind_n, .inl a_terms_kind_f)), (a_terms_name, .inl (cs 0, a_terms_name_n, .inl a_terms_name_f)), (a_terms_first, .inl (cs 0, a_terms_first_n, .inl a_terms_first_f)), (a_terms_many, .inl (cs 0, a_terms_many_n, .inl a_terms_many_f)), (a_terms_part, .inl (cs 0, a_terms_part_n, .inl a_terms_part_f)), (a_terms_number, .inl (cs 2, a_terms_number_n, .inr (.inl a_terms_number_f))), (a_reader, .inr (12, [.ref a_reader_sides, .ref a_reader_ranks, .ref a_reader_stop, .ref a_reader_terms, .ref a_reader_names, a_reader_s, .int a_reader_n, .int a_reader_at, .int a_reader_behind, .int a_reader_token, .int a_reader_open, .long a_reader_number, .ref a_reader_word, .int a_reader_letters, .ref a_reader_stack, .int a_reader_top, .int a_reader_place, .ref a_reader_variables, .int a_reader_variabled, .int a_reader_known, .int a_reader_rank, .ref a_reader_kept])), (a_register, .inl (cs 0, a_register_n, .inl a_register_f)), (a_became, .inl (cs 0, a_became_n, .inl a_became_28f)), (a_node, .inl (cs 0, a_node_n, .inl a_node_f)), (a_up, .inl (cs 0, a_up_n, .inl a_up_f_27)), (a_touched, .inl (cs 0, a_touched_n, .inl a_touched_f_6)), (a_todo, .inl (cs 0, a_todo_n, .inl a_todo_25f)), (a_color, .inl (cs 1, a_color_n, .inl a_color_f_27)), (a_painted, .inl (cs 0, a_painted_n, .inl a_painted_f_21))]) hP hD [13, 3, 4, 5, 6, 7, 8, 2, 0, 1, 9, 10, 14, 15, 11, 16, 12] rfl (by decide) rfl
                            rw [hQ]
                            exact W.zret (v := 0) hx hb hr rfl (fun t ht hW => ⟨⟨_, (), rfl, rfl, by rw [ht]; exact hP9, hD9⟩, hS.F ht⟩) hS.2.2 d_Mo_unify_254
                          · rw [if_neg h29] at hok
                            refine lv_aload_n hx hb d_Mo_unify_226 rfl (lv_at hl 3 rfl) ?_
                            refine va_get (D := g) (ci := 14) (v := .ref a_became) (C := R_Mo) (T := F_Mo) (N := 23) hx hb hg ul_Mo hown hK hP 13 rfl rfl 12 (by decide) (hg _ wd_791) (fun _ h9 => h9) rfl d_Mo_unify_227 ?_
                            refine lv_aload_n hx hb d_Mo_unify_230 rfl (lv_at hl 3 rfl) ?_
                            refine va_get (D := g) (ci := 14) (v := .ref a_todo) (C := R_Mo) (T := F_Mo) (N := 23) hx hb hg ul_Mo hown hK hP 13 rfl rfl 18 (by decide) (hg _ wd_803) (fun _ h9 => h9) rfl d_Mo_unify_231 ?_
                            refine lv_iload hx hb d_Mo_unify_234 (lv_at hl 0 rfl) ?_
                            obtain ⟨hi30, hok⟩ := ck_some hok
                            refine va_iald hx hb hK hP 11 0 rfl rfl (ixb_in hi30) d_Mo_unify_236 ?_
                            refine lv_aload_n hx hb d_Mo_unify_237 rfl (lv_at hl 3 rfl) ?_
                            refine va_get (D := g) (ci := 14) (v := .ref a_todo) (C := R_Mo) (T := F_Mo) (N := 23) hx hb hg ul_Mo hown hK hP 13 rfl rfl 18 (by decide) (hg _ wd_803) (fun _ h9 => h9) rfl d_Mo_unify_238 ?_
                            refine lv_iload hx hb d_Mo_unify_241 (lv_at hl 0 rfl) ?_
                            refine lv_iconst (v := 1) hx hb d_Mo_unify_243 (by decide) ?_
                            refine lv_iadd hx hb d_Mo_unify_244 ?_
                            obtain ⟨hi31, hok⟩ := ck_some hok
                            refine va_iald hx hb hK hP 11 0 rfl rfl (ixb_in hi31) d_Mo_unify_245 ?_
                            obtain ⟨hi32, hok⟩ := ck_some hok
                            refine va_iast hx hb hK hP hD hS 9 0 rfl rfl (ixb_in hi32) d_Mo_unify_246 (fun H locs hP hD hS => ?_)
                            obtain ⟨hP, hD⟩ : PD g A H [(a_reader, .inr (12, [.ref a_reader_sides, .ref a_reader_ranks, .ref a_reader_stop, .ref a_reader_terms, .ref a_reader_names, a_reader_s, .int a_reader_n, .int a_reader_at, .int a_reader_behind, .int a_reader_token, .int a_reader_open, .long a_reader_number, .ref a_reader_word, .int a_reader_letters, .ref a_reader_stack, .int a_reader_top, .int a_reader_place, .ref a_reader_variables, .int a_reader_variabled, .int a_reader_known, .int a_reader_rank, .ref a_reader_kept])), (a_register, .inl (cs 0, a_register_n, .inl a_register_f)), (a_terms_number, .inl (cs 2, a_terms_number_n, .inr (.inl a_terms_number_f))), (a_terms, .inr (11, [.ref a_terms_kind, .ref a_terms_name, .ref a_terms_first, .ref a_terms_many, .ref a_terms_part, .ref a_terms_number, .int a_terms_size, .int a_terms_parts])), (a_terms_kind, .inl (cs 0, a_terms_kind_n, .inl a_terms_kind_f)), (a_terms_name, .inl (cs 0, a_terms_name_n, .inl a_terms_name_f)), (a_terms_first, .inl (cs 0, a_terms_first_n, .inl a_terms_first_f)), (a_terms_many, .inl (cs 0, a_terms_many_n, .inl a_terms_many_f)), (a_terms_part, .inl (cs 0, a_terms_part_n, .inl a_terms_part_f)), (a_became, .inl (cs 0, a_became_n, .inl (upd a_became_28f (a_todo_25f x5_28.toNatClampNeg).toNatClampNeg (a_todo_25f (x5_28 + 1).toNatClampNeg)))), (a_node, .inl (cs 0, a_node_n, .inl a_node_f)), (a_todo, .inl (cs 0, a_todo_n, .inl a_todo_25f)), (a_painted, .inl (cs 0, a_painted_n, .inl a_painted_f_21)), (a, .inr (14, [.int y0_2, .int a_taped, .int a_place, .int a_resulted, .int a_marks, .ref a_tape, .ref a_result, .ref a_terms, .ref a_names, .ref a_reader, .ref a_paper, .ref a_register, .ref a_became, .ref a_node, .ref a_marked, .ref a_markedRegister, .ref a_up, .ref a_touched, .ref a_todo, .ref a_color, .int a_touches_27, .ref a_painted, .int 0])), (a_up, .inl (cs 0, a_up_n, .inl a_up_f_27)), (a_touched, .inl (cs 0, a_touched_n, .inl a_touched_f_6)), (a_color, .inl (cs 1, a_color_n, .inl a_color_f_27))] := ⟨hP, hD⟩
                            refine lv_iinc (k := 0) (v := x5_28 + 2) hx hb d_Mo_unify_247 hl rfl rfl (by decide) rfl (fun ls hl => ?_)
                            have hl : lv_has ls 7 [(5, .int (x5_28 + 2)), (4, .int x4_25), (3, .int 0), (0, .ref a), (1, .int x), (2, .int y)] := hl
                            refine lv_goto hx hb d_Mo_unify_250 rfl ?_
                            exact ih28 _ _ _ (x5_28 + 2) (upd a_became_28f (a_todo_25f x5_28.toNatClampNeg).toNatClampNeg (a_todo_25f (x5_28 + 1).toNatClampNeg)) (lv_sub hl [0, 1, 2, 3, 4, 5] rfl) (sub3 hP hD [0, 1, 2, 3, 4, 5, 6, 7, 8, 9, 10, 11, 12, 13, 14, 15, 16] (by decide)) hS hok
                      exact J28 n H locs ls (0 : Int32) a_became_f hl ⟨hP, hD⟩ hS hok
                    · exact absurd h26 (by decide)
                exact J25 n H locs ls (0 : Int32) (0 : Int32) a_todo_f_21 hl ⟨hP, hD⟩ hS hok
              · rw [if_neg h24] at hok
                refine lv_aload_n hx hb d_Mo_unify_83 rfl (lv_at hl 2 rfl) ?_
                refine va_get (D := g) (ci := 14) (v := .ref a_color) (C := R_Mo) (T := F_Mo) (N := 23) hx hb hg ul_Mo hown hK hP 4 rfl rfl 19 (by decide) (hg _ wd_800) (fun _ h9 => h9) rfl d_Mo_unify_84 ?_
                refine lv_aload_n hx hb d_Mo_unify_87 rfl (lv_at hl 2 rfl) ?_
                refine va_get (D := g) (ci := 14) (v := .ref a_painted) (C := R_Mo) (T := F_Mo) (N := 23) hx hb hg ul_Mo hown hK hP 4 rfl rfl 21 (by decide) (hg _ wd_801) (fun _ h9 => h9) rfl d_Mo_unify_88 ?_
                refine lv_iload hx hb d_Mo_unify_91 (lv_at hl 0 rfl) ?_
                obtain ⟨hi33, hok⟩ := ck_some hok
                refine va_iald hx hb hK hP 16 0 rfl rfl (ixb_in hi33) d_Mo_unify_93 ?_
                refine lv_iconst (v := 0) hx hb d_Mo_unify_94 (by decide) ?_
                obtain ⟨hi34, hok⟩ := ck_some hok
                refine va_bast hx hb hK hP hD hS 15 1 rfl rfl (ixb_in hi34) d_Mo_unify_95 (fun H locs hP hD hS => ?_)
                obtain ⟨hP, hD⟩ : PD g A H [(a_reader, .inr (12, [.ref a_reader_sides, .ref a_reader_ranks, .ref a_reader_stop, .ref a_reader_terms, .ref a_reader_names, a_reader_s, .int a_reader_n, .int a_reader_at, .int a_reader_behind, .int a_reader_token, .int a_reader_open, .long a_reader_number, .ref a_reader_word, .int a_reader_letters, .ref a_reader_stack, .int a_reader_top, .int a_reader_place, .ref a_reader_variables, .int a_reader_variabled, .int a_reader_known, .int a_reader_rank, .ref a_reader_kept])), (a_register, .inl (cs 0, a_register_n, .inl a_register_f)), (a_terms_number, .inl (cs 2, a_terms_number_n, .inr (.inl a_terms_number_f))), (a_touched, .inl (cs 0, a_touched_n, .inl a_touched_f_6)), (a, .inr (14, [.int y0_2, .int a_taped, .int a_place, .int a_resulted, .int a_marks, .ref a_tape, .ref a_result, .ref a_terms, .ref a_names, .ref a_reader, .ref a_paper, .ref a_register, .ref a_became, .ref a_node, .ref a_marked, .ref a_markedRegister, .ref a_up, .ref a_touched, .ref a_todo, .ref a_color, .int a_touches_6, .ref a_painted, .int a_paints_21])), (a_terms, .inr (11, [.ref a_terms_kind, .ref a_terms_name, .ref a_terms_first, .ref a_terms_many, .ref a_terms_part, .ref a_terms_number, .int a_terms_size, .int a_terms_parts])), (a_terms_kind, .inl (cs 0, a_terms_kind_n, .inl a_terms_kind_f)), (a_terms_name, .inl (cs 0, a_terms_name_n, .inl a_terms_name_f)), (a_terms_first, .inl (cs 0, a_terms_first_n, .inl a_terms_first_f)), (a_terms_many, .inl (cs 0, a_terms_many_n, .inl a_terms_many_f)), (a_terms_part, .inl (cs 0, a_terms_part_n, .inl a_terms_part_f)), (a_became, .inl (cs 0, a_became_n, .inl a_became_f)), (a_node, .inl (cs 0, a_node_n, .inl a_node_f)), (a_up, .inl (cs 0, a_up_n, .inl a_up_f_6)), (a_todo, .inl (cs 0, a_todo_n, .inl a_todo_f_21)), (a_color, .inl (cs 1, a_color_n, .inl (upd a_color_23f (a_painted_f_21 x4_23.toNatClampNeg).toNatClampNeg (vp_nar .byte 0)))), (a_painted, .inl (cs 0, a_painted_n, .inl a_painted_f_21))] := ⟨hP, hD⟩
                refine lv_iinc (k := 0) (v := x4_23 + 1) hx hb d_Mo_unify_96 hl rfl rfl (by decide) rfl (fun ls hl => ?_)
                have hl : lv_has ls 7 [(4, .int (x4_23 + 1)), (3, .int 0), (0, .ref a), (1, .int x), (2, .int y)] := hl
                refine lv_goto hx hb d_Mo_unify_99 rfl ?_
                exact ih23 _ _ _ (x4_23 + 1) (upd a_color_23f (a_painted_f_21 x4_23.toNatClampNeg).toNatClampNeg (vp_nar .byte 0)) (lv_sub hl [0, 1, 2, 3, 4] rfl) (sub3 hP hD [0, 1, 2, 3, 4, 5, 6, 7, 8, 9, 10, 11, 12, 13, 14, 15, 16] (by decide)) hS hok
          exact J23 n H locs ls (0 : Int32) a_color_f_21 hl ⟨hP, hD⟩ hS hok
        · rw [if_neg h22] at hok
          refine lv_iconst (v := 1) hx hb d_Mo_unify_65 (by decide) ?_
          refine lv_goto hx hb d_Mo_unify_66 rfl ?_
          refine lv_istore_n hx hb d_Mo_unify_70 rfl hl (by decide) rfl (fun ls hl => ?_)
          have hl : lv_has ls 7 [(3, .int 1), (0, .ref a), (1, .int x), (2, .int y)] := hl
          refine lv_iconst (v := 0) hx hb d_Mo_unify_71 (by decide) ?_
          refine lv_istore hx hb d_Mo_unify_72 hl (by decide) rfl (fun ls hl => ?_)
          have hl : lv_has ls 7 [(4, .int 0), (3, .int 1), (0, .ref a), (1, .int x), (2, .int y)] := hl
          have J35 : ∀ (kf35 : Nat) (H : Heap) (locs : List Loc) (ls : Array Slot) (x4_35 : Int32) (a_color_35f : Nat → Int32), lv_has ls 7 [(4, .int x4_35), (3, .int 1), (0, .ref a), (1, .int x), (2, .int y)] → PD g A H [(a_reader, .inr (12, [.ref a_reader_sides, .ref a_reader_ranks, .ref a_reader_stop, .ref a_reader_terms, .ref a_reader_names, a_reader_s, .int a_reader_n, .int a_reader_at, .int a_reader_behind, .int a_reader_token, .int a_reader_open, .long a_reader_number, .ref a_reader_word, .int a_reader_letters, .ref a_reader_stack, .int a_reader_top, .int a_reader_place, .ref a_reader_variables, .int a_reader_variabled, .int a_reader_known, .int a_reader_rank, .ref a_reader_kept])), (a_register, .inl (cs 0, a_register_n, .inl a_register_f)), (a_terms_number, .inl (cs 2, a_terms_number_n, .inr (.inl a_terms_number_f))), (a_touched, .inl (cs 0, a_touched_n, .inl a_touched_f_6)), (a, .inr (14, [.int y0_2, .int a_taped, .int a_place, .int a_resulted, .int a_marks, .ref a_tape, .ref a_result, .ref a_terms, .ref a_names, .ref a_reader, .ref a_paper, .ref a_register, .ref a_became, .ref a_node, .ref a_marked, .ref a_markedRegister, .ref a_up, .ref a_touched, .ref a_todo, .ref a_color, .int a_touches_6, .ref a_painted, .int a_paints_21])), (a_terms, .inr (11, [.ref a_terms_kind, .ref a_terms_name, .ref a_terms_first, .ref a_terms_many, .ref a_terms_part, .ref a_terms_number, .int a_terms_size, .int a_terms_parts])), (a_terms_kind, .inl (cs 0, a_terms_kind_n, .inl a_terms_kind_f)), (a_terms_name, .inl (cs 0, a_terms_name_n, .inl a_terms_name_f)), (a_terms_first, .inl (cs 0, a_terms_first_n, .inl a_terms_first_f)), (a_terms_many, .inl (cs 0, a_terms_many_n, .inl a_terms_many_f)), (a_terms_part, .inl (cs 0, a_terms_part_n, .inl a_terms_part_f)), (a_became, .inl (cs 0, a_became_n, .inl a_became_f)), (a_node, .inl (cs 0, a_node_n, .inl a_node_f)), (a_up, .inl (cs 0, a_up_n, .inl a_up_f_6)), (a_todo, .inl (cs 0, a_todo_n, .inl a_todo_f_21)), (a_color, .inl (cs 1, a_color_n, .inl a_color_35f)), (a_painted, .inl (cs 0, a_painted_n, .inl a_painted_f_21))] → va_S A s.heap H locs → p_Mo_unify_74_35 n a_taped a_place a_resulted a_marks a_terms_size a_terms_parts a_terms_kind_n a_terms_kind_f a_terms_name_n a_terms_name_f a_reader_variabled a_became_n a_became_f a_node_n a_node_f a_up_n a_touched_n a_todo_n a_color_n a_painted_n y0_2 a_touches_6 a_up_f_6 a_touched_f_6 a_paints_21 a_todo_f_21 a_painted_f_21 kf35 x4_35 a_color_35f = some (r, o_a_thrown, o_a_touches, o_a_paints, o_a_became_f, o_a_up_f, o_a_touched_f, o_a_todo_f, o_a_color_f, o_a_painted_f) → W p l e (headSpec (.code y_Mo_unify b_Mo_unify 7 (some .boolean) :: GW) { frames := 3, cells := 0, slots := 0, locals := 74 }).room s m ([.ref a, .int x, .int y] : List Value).toArray below meth c H locs 0 0 Q (F0 m 74 ls []) := by
            intro kf35
            induction kf35 with
            | zero => intro H locs ls x4_35 a_color_35f hl ⟨hP, hD⟩ hS hok; rw [p_Mo_unify_74_35] at hok; cases hok
            | succ kf35 ih35 =>
              intro H locs ls x4_35 a_color_35f hl ⟨hP, hD⟩ hS hok
              rw [p_Mo_unify_74_35] at hok
              refine lv_iload hx hb d_Mo_unify_74 (lv_at hl 0 rfl) ?_
              refine lv_aload_n hx hb d_Mo_unify_76 rfl (lv_at hl 2 rfl) ?_
              refine va_get (D := g) (ci := 14) (v := .int a_paints_21) (C := R_Mo) (T := F_Mo) (N := 23) hx hb hg ul_Mo hown hK hP 4 rfl rfl 22 (by decide) (hg _ wd_802) (fun _ h9 => h9) rfl d_Mo_unify_77 ?_
              refine lv_icmp_ge hx hb d_Mo_unify_80 rfl (fun h36 => ?_) (fun h36 => ?_)
              · rw [if_pos h36] at hok
                refine lv_aload_n hx hb d_Mo_unify_102 rfl (lv_at hl 2 rfl) ?_
                refine lv_iconst (v := 0) hx hb d_Mo_unify_103 (by decide) ?_
                refine va_put (D := g) (ci := 14) (v := .int 0) (ty := .int) (C := R_Mo) (T := F_Mo) (N := 23) hx hb hg ul_Mo t_Mo tk_Mo n_Mo hown hK hP hD hS 4 rfl rfl 22 (by decide) (hg _ wd_802) (fun _ h9 => h9) rfl (by decide +kernel) rfl rfl (Nat.le_of_ble_eq_true rfl) d_Mo_unify_104 (fun H locs hP hD hS => ?_)
                obtain ⟨hP, hD⟩ : PD g A H [(a_reader, .inr (12, [.ref a_reader_sides, .ref a_reader_ranks, .ref a_reader_stop, .ref a_reader_terms, .ref a_reader_names, a_reader_s, .int a_reader_n, .int a_reader_at, .int a_reader_behind, .int a_reader_token, .int a_reader_open, .long a_reader_number, .ref a_reader_word, .int a_reader_letters, .ref a_reader_stack, .int a_reader_top, .int a_reader_place, .ref a_reader_variables, .int a_reader_variabled, .int a_reader_known, .int a_reader_rank, .ref a_reader_kept])), (a_register, .inl (cs 0, a_register_n, .inl a_register_f)), (a_terms_number, .inl (cs 2, a_terms_number_n, .inr (.inl a_terms_number_f))), (a_touched, .inl (cs 0, a_touched_n, .inl a_touched_f_6)), (a, .inr (14, [.int y0_2, .int a_taped, .int a_place, .int a_resulted, .int a_marks, .ref a_tape, .ref a_result, .ref a_terms, .ref a_names, .ref a_reader, .ref a_paper, .ref a_register, .ref a_became, .ref a_node, .ref a_marked, .ref a_markedRegister, .ref a_up, .ref a_touched, .ref a_todo, .ref a_color, .int a_touches_6, .ref a_painted, .int 0])), (a_terms, .inr (11, [.ref a_terms_kind, .ref a_terms_name, .ref a_terms_first, .ref a_terms_many, .ref a_terms_part, .ref a_terms_number, .int a_terms_size, .int a_terms_parts])), (a_terms_kind, .inl (cs 0, a_terms_kind_n, .inl a_terms_kind_f)), (a_terms_name, .inl (cs 0, a_terms_name_n, .inl a_terms_name_f)), (a_terms_first, .inl (cs 0, a_terms_first_n, .inl a_terms_first_f)), (a_terms_many, .inl (cs 0, a_terms_many_n, .inl a_terms_many_f)), (a_terms_part, .inl (cs 0, a_terms_part_n, .inl a_terms_part_f)), (a_became, .inl (cs 0, a_became_n, .inl a_became_f)), (a_node, .inl (cs 0, a_node_n, .inl a_node_f)), (a_up, .inl (cs 0, a_up_n, .inl a_up_f_6)), (a_todo, .inl (cs 0, a_todo_n, .inl a_todo_f_21)), (a_color, .inl (cs 1, a_color_n, .inl a_color_35f)), (a_painted, .inl (cs 0, a_painted_n, .inl a_painted_f_21))] := ⟨hP, hD⟩
                refine lv_iconst (v := 0) hx hb d_Mo_unify_107 (by decide) ?_
                refine lv_istore hx hb d_Mo_unify_108 hl (by decide) rfl (fun ls hl => ?_)
                have hl : lv_has ls 7 [(4, .int 0), (3, .int 1), (0, .ref a), (1, .int x), (2, .int y)] := hl
                refine lv_iconst (v := 0) hx hb d_Mo_unify_110 (by decide) ?_
                refine lv_istore hx hb d_Mo_unify_111 hl (by decide) rfl (fun ls hl => ?_)
                have hl : lv_has ls 7 [(5, .int 0), (4, .int 0), (3, .int 1), (0, .ref a), (1, .int x), (2, .int y)] := hl
                have J37 : ∀ (kf37 : Nat) (H : Heap) (locs : List Loc) (ls : Array Slot) (x5_37 : Int32) (x4_37 : Int32) (a_todo_37f : Nat → Int32), lv_has ls 7 [(5, .int x5_37), (4, .int x4_37), (3, .int 1), (0, .ref a), (1, .int x), (2, .int y)] → PD g A H [(a_reader, .inr (12, [.ref a_reader_sides, .ref a_reader_ranks, .ref a_reader_stop, .ref a_reader_terms, .ref a_reader_names, a_reader_s, .int a_reader_n, .int a_reader_at, .int a_reader_behind, .int a_reader_token, .int a_reader_open, .long a_reader_number, .ref a_reader_word, .int a_reader_letters, .ref a_reader_stack, .int a_reader_top, .int a_reader_place, .ref a_reader_variables, .int a_reader_variabled, .int a_reader_known, .int a_reader_rank, .ref a_reader_kept])), (a_register, .inl (cs 0, a_register_n, .inl a_register_f)), (a_terms_number, .inl (cs 2, a_terms_number_n, .inr (.inl a_terms_number_f))), (a_touched, .inl (cs 0, a_touched_n, .inl a_touched_f_6)), (a, .inr (14, [.int y0_2, .int a_taped, .int a_place, .int a_resulted, .int a_marks, .ref a_tape, .ref a_result, .ref a_terms, .ref a_names, .ref a_reader, .ref a_paper, .ref a_register, .ref a_became, .ref a_node, .ref a_marked, .ref a_markedRegister, .ref a_up, .ref a_touched, .ref a_todo, .ref a_color, .int a_touches_6, .ref a_painted, .int 0])), (a_terms, .inr (11, [.ref a_terms_kind, .ref a_terms_name, .ref a_terms_first, .ref a_terms_many, .ref a_terms_part, .ref a_terms_number, .int a_terms_size, .int a_terms_parts])), (a_terms_kind, .inl (cs 0, a_terms_kind_n, .inl a_terms_kind_f)), (a_terms_name, .inl (cs 0, a_terms_name_n, .inl a_terms_name_f)), (a_terms_first, .inl (cs 0, a_terms_first_n, .inl a_terms_first_f)), (a_terms_many, .inl (cs 0, a_terms_many_n, .inl a_terms_many_f)), (a_terms_part, .inl (cs 0, a_terms_part_n, .inl a_terms_part_f)), (a_became, .inl (cs 0, a_became_n, .inl a_became_f)), (a_node, .inl (cs 0, a_node_n, .inl a_node_f)), (a_up, .inl (cs 0, a_up_n, .inl a_up_f_6)), (a_todo, .inl (cs 0, a_todo_n, .inl a_todo_37f)), (a_color, .inl (cs 1, a_color_n, .inl a_color_35f)), (a_painted, .inl (cs 0, a_painted_n, .inl a_painted_f_21))] → va_S A s.heap H locs → p_Mo_unify_113_37 n a_taped a_place a_resulted a_marks a_terms_size a_terms_parts a_terms_kind_n a_terms_kind_f a_terms_name_n a_terms_name_f a_reader_variabled a_became_n a_became_f a_node_n a_node_f a_up_n a_touched_n a_todo_n a_color_n y0_2 a_touches_6 a_up_f_6 a_touched_f_6 a_painted_f_21 a_color_35f kf37 x5_37 x4_37 a_todo_37f = some (r, o_a_thrown, o_a_touches, o_a_paints, o_a_became_f, o_a_up_f, o_a_touched_f, o_a_todo_f, o_a_color_f, o_a_painted_f) → W p l e (headSpec (.code y_Mo_unify b_Mo_unify 7 (some .boolean) :: GW) { frames := 3, cells := 0, slots := 0, locals := 74 }).room s m ([.ref a, .int x, .int y] : List Value).toArray below meth c H locs 0 0 Q (F0 m 113 ls []) := by
                  intro kf37
                  induction kf37 with
                  | zero => intro H locs ls x5_37 x4_37 a_todo_37f hl ⟨hP, hD⟩ hS hok; rw [p_Mo_unify_113_37] at hok; cases hok
                  | succ kf37 ih37 =>
                    intro H locs ls x5_37 x4_37 a_todo_37f hl ⟨hP, hD⟩ hS hok
                    rw [p_Mo_unify_113_37] at hok
                    refine lv_iload_n hx hb d_Mo_unify_113 rfl (lv_at hl 2 rfl) ?_
                    refine lv_if_eq hx hb d_Mo_unify_114 rfl (fun h38 => ?_) (fun h38 => ?_)
                    · exact absurd h38 (by decide)
                    · refine lv_iload hx hb d_Mo_unify_117 (lv_at hl 0 rfl) ?_
                      refine lv_aload_n hx hb d_Mo_unify_119 rfl (lv_at hl 3 rfl) ?_
                      refine va_get (D := g) (ci := 14) (v := .ref a_reader) (C := R_Mo) (T := F_Mo) (N := 23) hx hb hg ul_Mo hown hK hP 4 rfl rfl 9 (by decide) (hg _ wd_835) (fun _ h9 => h9) rfl d_Mo_unify_120 ?_
                      refine va_get (D := g) (ci := 12) (v := .int a_reader_variabled) (C := R_MoReader) (T := F_MoReader) (N := 22) hx hb hg ul_MoReader hown hK hP 0 rfl rfl 18 (by decide) (hg _ wd_836) (fun _ h9 => h9) rfl d_Mo_unify_123 ?_
                      refine lv_icmp_ge hx hb d_Mo_unify_126 rfl (fun h39 => ?_) (fun h39 => ?_)
                      · rw [if_pos h39] at hok
                        refine lv_aload_n hx hb d_Mo_unify_212 rfl (lv_at hl 3 rfl) ?_
                        obtain ⟨⟨a_touches_40, a_up_f_40, a_color_f_40⟩, hc40, hok⟩ := bd_some hok
                        dsimp only at hok
                        obtain ⟨hPc, hDc, hFc⟩ := cut0 (wc := [(a, .inr (14, [.int y0_2, .int a_taped, .int a_place, .int a_resulted, .int a_marks, .ref a_tape, .ref a_result, .ref a_terms, .ref a_names, .ref a_reader, .ref a_paper, .ref a_register, .ref a_became, .ref a_node, .ref a_marked, .ref a_markedRegister, .ref a_up, .ref a_touched, .ref a_todo, .ref a_color, .int a_touches_6, .ref a_painted, .int 0])), (a_up, .inl (cs 0, a_up_n, .inl a_up_f_6)), (a_touched, .inl (cs 0, a_touched_n, .inl a_touched_f_6)), (a_color, .inl (cs 1, a_color_n, .inl a_color_35f))]) hP hD hS hA [4, 13, 3, 15] (by decide) rfl
                        refine va_callv (va_runV (As := []) (rest := []) ⟨hx, hb, hml, hown, hg⟩ (c_Mo_part_ l g cs ka a_tape a_result a_terms a_names a_reader a_paper a_register a_became a_node a_marked a_markedRegister a_todo a_painted a a_up a_touched a_color H.size n y0_2 a_taped a_place a_resulted a_marks a_touches_6 (0 : Int32) a_up_n a_up_f_6 a_touched_n a_touched_f_6 a_color_n a_color_35f a_touches_40 a_up_f_40 a_color_f_40 hc40) (cwV (C := R_Mo) 0 hg (gw_V wd_828 wd_829 wd_830 wd_780 wd_827) rfl rfl rfl (by decide +kernel) ⟨Nat.le_of_ble_eq_true rfl, Nat.le_of_ble_eq_true rfl⟩) ⟨gP_blind, va_recv (q0 := 4) (ci := 14) (q := (R_Mo, F_Mo, 23)) hK hP rfl rfl, gP_pre hPc hDc hK hgl hkn hkr hS hFc⟩ rfl rfl hl.1 rfl (lv_room (Nat.le_of_ble_eq_true rfl)) d_Mo_unify_213 ⟨Nat.le_of_ble_eq_true rfl, Nat.le_of_ble_eq_true rfl⟩) hS (fun q _ h => hFc q h) hFc (fun u t H locs ht hvm hr40 hB hz1 hk1 hS => ?_)
                        rw [ht] at hB
                        obtain ⟨hP1, hD1⟩ := hB
                        obtain ⟨hP, hD⟩ := jn_A hP hD [4, 13, 3, 15] [0, 1, 2, 5, 6, 7, 8, 9, 10, 11, 12, 14, 16] rfl rfl (by decide) (by decide) hk1 hFc hP1 hD1
                        obtain ⟨hP, hD⟩ : PD g A H [(a_reader, .inr (12, [.ref a_reader_sides, .ref a_reader_ranks, .ref a_reader_stop, .ref a_reader_terms, .ref a_reader_names, a_reader_s, .int a_reader_n, .int a_reader_at, .int a_reader_behind, .int a_reader_token, .int a_reader_open, .long a_reader_number, .ref a_reader_word, .int a_reader_letters, .ref a_reader_stack, .int a_reader_top, .int a_reader_place, .ref a_reader_variables, .int a_reader_variabled, .int a_reader_known, .int a_reader_rank, .ref a_reader_kept])), (a_register, .inl (cs 0, a_register_n, .inl a_register_f)), (a_terms_number, .inl (cs 2, a_terms_number_n, .inr (.inl a_terms_number_f))), (a_terms, .inr (11, [.ref a_terms_kind, .ref a_terms_name, .ref a_terms_first, .ref a_terms_many, .ref a_terms_part, .ref a_terms_number, .int a_terms_size, .int a_terms_parts])), (a_terms_kind, .inl (cs 0, a_terms_kind_n, .inl a_terms_kind_f)), (a_terms_name, .inl (cs 0, a_terms_name_n, .inl a_terms_name_f)), (a_terms_first, .inl (cs 0, a_terms_first_n, .inl a_terms_first_f)), (a_terms_many, .inl (cs 0, a_terms_many_n, .inl a_terms_many_f)), (a_terms_part, .inl (cs 0, a_terms_part_n, .inl a_terms_part_f)), (a_became, .inl (cs 0, a_became_n, .inl a_became_f)), (a_node, .inl (cs 0, a_node_n, .inl a_node_f)), (a_todo, .inl (cs 0, a_todo_n, .inl a_todo_37f)), (a_painted, .inl (cs 0, a_painted_n, .inl a_painted_f_21)), (a, .inr (14, [.int y0_2, .int a_taped, .int a_place, .int a_resulted, .int a_marks, .ref a_tape, .ref a_result, .ref a_terms, .ref a_names, .ref a_reader, .ref a_paper, .ref a_register, .ref a_became, .ref a_node, .ref a_marked, .ref a_markedRegister, .ref a_up, .ref a_touched, .ref a_todo, .ref a_color, .int a_touches_40, .ref a_painted, .int 0])), (a_up, .inl (cs 0, a_up_n, .inl a_up_f_40)), (a_touched, .inl (cs 0, a_touched_n, .inl a_touched_f_6)), (a_color, .inl (cs 1, a_color_n, .inl a_color_f_40))] := ⟨hP, hD⟩
                        refine lv_iconst (v := 0) hx hb d_Mo_unify_216 (by decide) ?_
                        refine lv_istore hx hb d_Mo_unify_217 hl (by decide) rfl (fun ls hl => ?_)
                        have hl : lv_has ls 7 [(5, .int 0), (4, .int x4_37), (3, .int 1), (0, .ref a), (1, .int x), (2, .int y)] := hl
                        have J41 : ∀ (kf41 : Nat) (H : Heap) (locs : List Loc) (ls : Array Slot) (x5_41 : Int32) (a_became_41f : Nat → Int32), lv_has ls 7 [(5, .int x5_41), (4, .int x4_37), (3, .int 1), (0, .ref a), (1, .int x), (2, .int y)] → PD g A H [(a_reader, .inr (12, [.ref a_reader_sides, .ref a_reader_ranks, .ref a_reader_stop, .ref a_reader_terms, .ref a_reader_names, a_reader_s, .int a_reader_n, .int a_reader_at, .int a_reader_behind, .int a_reader_token, .int a_reader_open, .long a_reader_number, .ref a_reader_word, .int a_reader_letters, .ref a_reader_stack, .int a_reader_top, .int a_reader_place, .ref a_reader_variables, .int a_reader_variabled, .int a_reader_known, .int a_reader_rank, .ref a_reader_kept])), (a_register, .inl (cs 0, a_register_n, .inl a_register_f)), (a_terms_number, .inl (cs 2, a_terms_number_n, .inr (.inl a_terms_number_f))), (a_terms, .inr (11, [.ref a_terms_kind, .ref a_terms_name, .ref a_terms_first, .ref a_terms_many, .ref a_terms_part, .ref a_terms_number, .int a_terms_size, .int a_terms_parts])), (a_terms_kind, .inl (cs 0, a_terms_kind_n, .inl a_terms_kind_f)), (a_terms_name, .inl (cs 0, a_terms_name_n, .inl a_terms_name_f)), (a_terms_first, .inl (cs 0, a_terms_first_n, .inl a_terms_first_f)), (a_terms_many, .inl (cs 0, a_terms_many_n, .inl a_terms_many_f)), (a_terms_part, .inl (cs 0, a_terms_part_n, .inl a_terms_part_f)), (a_became, .inl (cs 0, a_became_n, .inl a_became_41f)), (a_node, .inl (cs 0, a_node_n, .inl a_node_f)), (a_todo, .inl (cs 0, a_todo_n, .inl a_todo_37f)), (a_painted, .inl (cs 0, a_painted_n, .inl a_painted_f_21)), (a, .inr (14, [.int y0_2, .int a_taped, .int a_place, .int a_resulted, .int a_marks, .ref a_tape, .ref a_result, .ref a_terms, .ref a_names, .ref a_reader, .ref a_paper, .ref a_register, .ref a_became, .ref a_node, .ref a_marked, .ref a_markedRegister, .ref a_up, .ref a_touched, .ref a_todo, .ref a_color, .int a_touches_40, .ref a_painted, .int 0])), (a_up, .inl (cs 0, a_up_n, .inl a_up_f_40)), (a_touched, .inl (cs 0, a_touched_n, .inl a_touched_f_6)), (a_color, .inl (cs 1, a_color_n, .inl a_color_f_40))] → va_S A s.heap H locs → p_Mo_unify_219_41 n a_became_n a_todo_n y0_2 a_touched_f_6 a_painted_f_21 x4_37 a_todo_37f a_touches_40 a_up_f_40 a_color_f_40 kf41 x5_41 a_became_41f = some (r, o_a_thrown, o_a_touches, o_a_paints, o_a_became_f, o_a_up_f, o_a_touched_f, o_a_todo_f, o_a_color_f, o_a_painted_f) → W p l e (headSpec (.code y_Mo_unify b_Mo_unify 7 (some .boolean) :: GW) { frames := 3, cells := 0, slots := 0, locals := 74 }).room s m ([.ref a, .int x, .int y] : List Value).toArray below meth c H locs 0 0 Q (F0 m 219 ls []) := by
                          intro kf41
                          induction kf41 with
                          | zero => intro H locs ls x5_41 a_became_41f hl ⟨hP, hD⟩ hS hok; rw [p_Mo_unify_219_41] at hok; cases hok
                          | succ kf41 ih41 =>
                            intro H locs ls x5_41 a_became_41f hl ⟨hP, hD⟩ hS hok
                            rw [p_Mo_unify_219_41] at hok
                            refine lv_iload hx hb d_Mo_unify_219 (lv_at hl 0 rfl) ?_
                            refine lv_iload hx hb d_Mo_unify_221 (lv_at hl 1 rfl) ?_
                            refine lv_icmp_ge hx hb d_Mo_unify_223 rfl (fun h42 => ?_) (fun h42 => ?_)
                            · rw [if_pos h42] at hok
                              refine lv_iload_n hx hb d_Mo_unify_253 rfl (lv_at hl 2 rfl) ?_
                              have hq := Option.some.inj hok
                              obtain ⟨hq0, hq⟩ := Prod.mk.inj hq
                              obtain ⟨hq1, hq⟩ := Prod.mk.inj hq
                              obtain ⟨hq2, hq⟩ := Prod.mk.inj hq
                              obtain ⟨hq3, hq⟩ := Prod.mk.inj hq
                              obtain ⟨hq4, hq⟩ := Prod.mk.inj hq
                              obtain ⟨hq5, hq⟩ := Prod.mk.inj hq
                              obtain ⟨hq6, hq⟩ := Prod.mk.inj hq
                              obtain ⟨hq7, hq⟩ := Prod.mk.inj hq
                              obtain ⟨hq8, hq⟩ := Prod.mk.inj hq
                              have hq9 := hq
                              subst hq0
                              subst hq1
                              subst hq2
                              subst hq3
                              subst hq4
                              subst hq5
                              subst hq6
                              subst hq7
                              subst hq8
                              subst hq9
                              obtain ⟨hP9, hD9⟩ := sub2 (ws' := [(a, .inr (14, [.int y0_2, .int a_taped, .int a_place, .int a_resulted, .int a_marks, .ref a_tape, .ref a_result, .ref a_terms, .ref a_names, .ref a_reader, .ref a_paper, .ref a_register, .ref a_became, .ref a_node, .ref a_marked, .ref a_markedRegister, .ref a_up, .ref a_touched, .ref a_todo, .ref a_color, .int a_touches_40, .ref a_painted, .int 0])), (a_terms, .inr (11, [.ref a_terms_kind, .ref a_terms_name, .ref a_terms_first, .ref a_terms_many, .ref a_terms_part, .ref a_terms_number, .int a_terms_size, .int a_terms_parts])), (a_terms_kind, .inl (cs 0, a_terms_kind_n, .inl a_terms_kind_f)), (a_terms_name, .inl (cs 0, a_terms_name_n, .inl a_terms_name_f)), (a_terms_first, .inl (cs 0, a_terms_first_n, .inl a_terms_first_f)), (a_terms_many, .inl (cs 0, a_terms_many_n, .inl a_terms_many_f)), (a_terms_part, .inl (cs 0, a_terms_part_n, .inl a_terms_part_f)), (a_terms_number, .inl (cs 2, a_terms_number_n, .inr (.inl a_terms_number_f))), (a_reader, .inr (12, [.ref a_reader_sides, .ref a_reader_ranks, .ref a_reader_stop, .ref a_reader_terms, .ref a_reader_names, a_reader_s, .int a_reader_n, .int a_reader_at, .int a_reader_behind, .int a_reader_token, .int a_reader_open, .long a_reader_number, .ref a_reader_word, .int a_reader_letters, .ref a_reader_stack, .int a_reader_top, .int a_reader_place, .ref a_reader_variables, .int a_reader_variabled, .int a_reader_known, .int a_reader_rank, .ref a_reader_kept])), (a_register, .inl (cs 0, a_register_n, .inl a_register_f)), (a_became, .inl (cs 0, a_became_n, .inl a_became_41f)), (a_node, .inl (cs 0, a_node_n, .inl a_node_f)), (a_up, .inl (cs 0, a_up_n, .inl a_up_f_40)), (a_touched, .inl (cs 0, a_touched_n, .inl a_touched_f_6)), (a_todo, .inl (cs 0, a_todo_n, .inl a_todo_37f)), (a_color, .inl (cs 1, a_color_n, .inl a_color_f_40)), (a_painted, .inl (cs 0, a_painted_n, .inl a_painted_f_21))]) hP hD [13, 3, 4, 5, 6, 7, 8, 2, 0, 1, 9, 10, 14, 15, 11, 16, 12] rfl (by decide) rfl
                              rw [hQ]
                              exact W.zret (v := 1) hx hb hr rfl (fun t ht hW => ⟨⟨_, (), rfl, rfl, by rw [ht]; exact hP9, hD9⟩, hS.F ht⟩) hS.2.2 d_Mo_unify_254
                            · rw [if_neg h42] at hok
                              refine lv_aload_n hx hb d_Mo_unify_226 rfl (lv_at hl 3 rfl) ?_
                              refine va_get (D := g) (ci := 14) (v := .ref a_became) (C := R_Mo) (T := F_Mo) (N := 23) hx hb hg ul_Mo hown hK hP 13 rfl rfl 12 (by decide) (hg _ wd_791) (fun _ h9 => h9) rfl d_Mo_unify_227 ?_
                              refine lv_aload_n hx hb d_Mo_unify_230 rfl (lv_at hl 3 rfl) ?_
                              refine va_get (D := g) (ci := 14) (v := .ref a_todo) (C := R_Mo) (T := F_Mo) (N := 23) hx hb hg ul_Mo hown hK hP 13 rfl rfl 18 (by decide) (hg _ wd_803) (fun _ h9 => h9) rfl d_Mo_unify_231 ?_
                              refine lv_iload hx hb d_Mo_unify_234 (lv_at hl 0 rfl) ?_
                              obtain ⟨hi43, hok⟩ := ck_some hok
                              refine va_iald hx hb hK hP 11 0 rfl rfl (ixb_in hi43) d_Mo_unify_236 ?_
                              refine lv_aload_n hx hb d_Mo_unify_237 rfl (lv_at hl 3 rfl) ?_
                              refine va_get (D := g) (ci := 14) (v := .ref a_todo) (C := R_Mo) (T := F_Mo) (N := 23) hx hb hg ul_Mo hown hK hP 13 rfl rfl 18 (by decide) (hg _ wd_803) (fun _ h9 => h9) rfl d_Mo_unify_238 ?_
                              refine lv_iload hx hb d_Mo_unify_241 (lv_at hl 0 rfl) ?_
                              refine lv_iconst (v := 1) hx hb d_Mo_unify_243 (by decide) ?_
                              refine lv_iadd hx hb d_Mo_unify_244 ?_
                              obtain ⟨hi44, hok⟩ := ck_some hok
                              refine va_iald hx hb hK hP 11 0 rfl rfl (ixb_in hi44) d_Mo_unify_245 ?_
                              obtain ⟨hi45, hok⟩ := ck_some hok
                              refine va_iast hx hb hK hP hD hS 9 0 rfl rfl (ixb_in hi45) d_Mo_unify_246 (fun H locs hP hD hS => ?_)
                              obtain ⟨hP, hD⟩ : PD g A H [(a_reader, .inr (12, [.ref a_reader_sides, .ref a_reader_ranks, .ref a_reader_stop, .ref a_reader_terms, .ref a_reader_names, a_reader_s, .int a_reader_n, .int a_reader_at, .int a_reader_behind, .int a_reader_token, .int a_reader_open, .long a_reader_number, .ref a_reader_word, .int a_reader_letters, .ref a_reader_stack, .int a_reader_top, .int a_reader_place, .ref a_reader_variables, .int a_reader_variabled, .int a_reader_known, .int a_reader_rank, .ref a_reader_kept])), (a_register, .inl (cs 0, a_register_n, .inl a_register_f)), (a_terms_number, .inl (cs 2, a_terms_number_n, .inr (.inl a_terms_number_f))), (a_terms, .inr (11, [.ref a_terms_kind, .ref a_terms_name, .ref a_terms_first, .ref a_terms_many, .ref a_terms_part, .ref a_terms_number, .int a_terms_size, .int a_terms_parts])), (a_terms_kind, .inl (cs 0, a_terms_kind_n, .inl a_terms_kind_f)), (a_terms_name, .inl (cs 0, a_terms_name_n, .inl a_terms_name_f)), (a_terms_first, .inl (cs 0, a_terms_first_n, .inl a_terms_first_f)), (a_terms_many, .inl (cs 0, a_terms_many_n, .inl a_terms_many_f)), (a_terms_part, .inl (cs 0, a_terms_part_n, .inl a_terms_part_f)), (a_became, .inl (cs 0, a_became_n, .inl (upd a_became_41f (a_todo_37f x5_41.toNatClampNeg).toNatClampNeg (a_todo_37f (x5_41 + 1).toNatClampNeg)))), (a_node, .inl (cs 0, a_node_n, .inl a_node_f)), (a_todo, .inl (cs 0, a_todo_n, .inl a_todo_37f)), (a_painted, .inl (cs 0, a_painted_n, .inl a_painted_f_21)), (a, .inr (14, [.int y0_2, .int a_taped, .int a_place, .int a_resulted, .int a_marks, .ref a_tape, .ref a_result, .ref a_terms, .ref a_names, .ref a_reader, .ref a_paper, .ref a_register, .ref a_became, .ref a_node, .ref a_marked, .ref a_markedRegister, .ref a_up, .ref a_touched, .ref a_todo, .ref a_color, .int a_touches_40, .ref a_painted, .int 0])), (a_up, .inl (cs 0, a_up_n, .inl a_up_f_40)), (a_touched, .inl (cs 0, a_touched_n, .inl a_touched_f_6)), (a_color, .inl (cs 1, a_color_n, .inl a_color_f_40))] := ⟨hP, hD⟩
                              refine lv_iinc (k := 0) (v := x5_41 + 2) hx hb d_Mo_unify_247 hl rfl rfl (by decide) rfl (fun ls hl => ?_)
                              have hl : lv_has ls 7 [(5, .int (x5_41 + 2)), (4, .int x4_37), (3, .int 1), (0, .ref a), (1, .int x), (2, .int y)] := hl
                              refine lv_goto hx hb d_Mo_unify_250 rfl ?_
                              exact ih41 _ _ _ (x5_41 + 2) (upd a_became_41f (a_todo_37f x5_41.toNatClampNeg).toNatClampNeg (a_todo_37f (x5_41 + 1).toNatClampNeg)) (lv_sub hl [0, 1, 2, 3, 4, 5] rfl) (sub3 hP hD [0, 1, 2, 3, 4, 5, 6, 7, 8, 9, 10, 11, 12, 13, 14, 15, 16] (by decide)) hS hok
                        exact J41 n H locs ls (0 : Int32) a_became_f hl ⟨hP, hD⟩ hS hok
                      · rw [if_neg h39] at hok
                        refine lv_aload_n hx hb d_Mo_unify_129 rfl (lv_at hl 3 rfl) ?_
                        refine va_get (D := g) (ci := 14) (v := .ref a_became) (C := R_Mo) (T := F_Mo) (N := 23) hx hb hg ul_Mo hown hK hP 4 rfl rfl 12 (by decide) (hg _ wd_791) (fun _ h9 => h9) rfl d_Mo_unify_130 ?_
                        refine lv_iload hx hb d_Mo_unify_133 (lv_at hl 0 rfl) ?_
                        obtain ⟨hi46, hok⟩ := ck_some hok
                        refine va_iald hx hb hK hP 11 0 rfl rfl (ixb_in hi46) d_Mo_unify_135 ?_
                        refine lv_iconst (v := (-1)) hx hb d_Mo_unify_136 (by decide) ?_
                        refine lv_icmp_ne hx hb d_Mo_unify_137 rfl (fun h47 => ?_) (fun h47 => ?_)
                        · rw [if_neg h47] at hok
                          refine lv_iinc (k := 0) (v := x5_37 + 1) hx hb d_Mo_unify_206 hl rfl rfl (by decide) rfl (fun ls hl => ?_)
                          have hl : lv_has ls 7 [(5, .int (x5_37 + 1)), (4, .int x4_37), (3, .int 1), (0, .ref a), (1, .int x), (2, .int y)] := hl
                          refine lv_goto hx hb d_Mo_unify_209 rfl ?_
                          exact ih37 _ _ _ (x5_37 + 1) x4_37 a_todo_37f (lv_sub hl [0, 1, 2, 3, 4, 5] rfl) (sub3 hP hD [0, 1, 2, 3, 4, 5, 6, 7, 8, 9, 10, 11, 12, 13, 14, 15, 16] (by decide)) hS hok
                        · rw [if_pos h47] at hok
                          refine lv_aload_n hx hb d_Mo_unify_140 rfl (lv_at hl 3 rfl) ?_
                          refine va_get (D := g) (ci := 14) (v := .ref a_node) (C := R_Mo) (T := F_Mo) (N := 23) hx hb hg ul_Mo hown hK hP 4 rfl rfl 13 (by decide) (hg _ wd_792) (fun _ h9 => h9) rfl d_Mo_unify_141 ?_
                          refine lv_iload hx hb d_Mo_unify_144 (lv_at hl 0 rfl) ?_
                          obtain ⟨hi48, hok⟩ := ck_some hok
                          refine va_iald hx hb hK hP 12 0 rfl rfl (ixb_in hi48) d_Mo_unify_146 ?_
                          refine lv_iconst (v := (-1)) hx hb d_Mo_unify_147 (by decide) ?_
                          refine lv_icmp_ne hx hb d_Mo_unify_148 rfl (fun h49 => ?_) (fun h49 => ?_)
                          · rw [if_neg h49] at hok
                            refine lv_aload_n hx hb d_Mo_unify_154 rfl (lv_at hl 3 rfl) ?_
                            refine lv_aload_n hx hb d_Mo_unify_155 rfl (lv_at hl 3 rfl) ?_
                            refine va_get (D := g) (ci := 14) (v := .ref a_node) (C := R_Mo) (T := F_Mo) (N := 23) hx hb hg ul_Mo hown hK hP 4 rfl rfl 13 (by decide) (hg _ wd_792) (fun _ h9 => h9) rfl d_Mo_unify_156 ?_
                            refine lv_iload hx hb d_Mo_unify_159 (lv_at hl 0 rfl) ?_
                            obtain ⟨hi50, hok⟩ := ck_some hok
                            refine va_iald hx hb hK hP 12 0 rfl rfl (ixb_in hi50) d_Mo_unify_161 ?_
                            obtain ⟨r51, hc51, hok⟩ := bd_some hok
                            obtain ⟨hPc, hDc, hFc⟩ := cut0 (wc := [(a, .inr (14, [.int y0_2, .int a_taped, .int a_place, .int a_resulted, .int a_marks, .ref a_tape, .ref a_result, .ref a_terms, .ref a_names, .ref a_reader, .ref a_paper, .ref a_register, .ref a_became, .ref a_node, .ref a_marked, .ref a_markedRegister, .ref a_up, .ref a_touched, .ref a_todo, .ref a_color, .int a_touches_6, .ref a_painted, .int 0])), (a_terms, .inr (11, [.ref a_terms_kind, .ref a_terms_name, .ref a_terms_first, .ref a_terms_many, .ref a_terms_part, .ref a_terms_number, .int a_terms_size, .int a_terms_parts])), (a_terms_kind, .inl (cs 0, a_terms_kind_n, .inl a_terms_kind_f)), (a_terms_name, .inl (cs 0, a_terms_name_n, .inl a_terms_name_f)), (a_became, .inl (cs 0, a_became_n, .inl a_became_f)), (a_node, .inl (cs 0, a_node_n, .inl a_node_f)), (a_up, .inl (cs 0, a_up_n, .inl a_up_f_6))]) hP hD hS hA [4, 5, 6, 7, 11, 12, 13] (by decide) rfl
                            refine va_calli (va_runV (As := [.int (a_node_f x5_37.toNatClampNeg)]) (rest := []) ⟨hx, hb, hml, hown, hg⟩ (c_Mo_root l g cs ka a_tape a_result a_names a_reader a_paper a_register a_marked a_markedRegister a_touched a_todo a_color a_painted a_terms_first a_terms_many a_terms_part a_terms_number a a_terms a_terms_kind a_terms_name a_became a_node a_up H.size n (a_node_f x5_37.toNatClampNeg) y0_2 a_taped a_place a_resulted a_marks a_touches_6 (0 : Int32) a_terms_size a_terms_parts a_terms_kind_n a_terms_kind_f a_terms_name_n a_terms_name_f a_became_n a_became_f a_node_n a_node_f a_up_n a_up_f_6 r51 hc51) (cwV (C := R_Mo) 1 hg (gw_V wd_805 wd_806 wd_807 wd_780 wd_804) rfl rfl rfl (by decide +kernel) ⟨Nat.le_of_ble_eq_true rfl, Nat.le_of_ble_eq_true rfl⟩) ⟨gP_blind, va_recv (q0 := 4) (ci := 14) (q := (R_Mo, F_Mo, 23)) hK hP rfl rfl, gP_pre hPc hDc hK hgl hkn hkr hS hFc⟩ rfl rfl hl.1 rfl (lv_room (Nat.le_of_ble_eq_true rfl)) d_Mo_unify_162 ⟨Nat.le_of_ble_eq_true rfl, Nat.le_of_ble_eq_true rfl⟩) hS (fun q _ h => hFc q h) hFc (fun r51' u t H locs ht hvm hr51 hB hz1 hk1 hS => ?_)
                            subst hr51
                            rw [ht] at hB
                            obtain ⟨hP1, hD1⟩ := hB
                            obtain ⟨hP, hD⟩ := jn_A hP hD [4, 5, 6, 7, 11, 12, 13] [0, 1, 2, 3, 8, 9, 10, 14, 15, 16] rfl rfl (by decide) (by decide) hk1 hFc hP1 hD1
                            obtain ⟨hP, hD⟩ : PD g A H [(a_reader, .inr (12, [.ref a_reader_sides, .ref a_reader_ranks, .ref a_reader_stop, .ref a_reader_terms, .ref a_reader_names, a_reader_s, .int a_reader_n, .int a_reader_at, .int a_reader_behind, .int a_reader_token, .int a_reader_open, .long a_reader_number, .ref a_reader_word, .int a_reader_letters, .ref a_reader_stack, .int a_reader_top, .int a_reader_place, .ref a_reader_variables, .int a_reader_variabled, .int a_reader_known, .int a_reader_rank, .ref a_reader_kept])), (a_register, .inl (cs 0, a_register_n, .inl a_register_f)), (a_terms_number, .inl (cs 2, a_terms_number_n, .inr (.inl a_terms_number_f))), (a_touched, .inl (cs 0, a_touched_n, .inl a_touched_f_6)), (a_terms_first, .inl (cs 0, a_terms_first_n, .inl a_terms_first_f)), (a_terms_many, .inl (cs 0, a_terms_many_n, .inl a_terms_many_f)), (a_terms_part, .inl (cs 0, a_terms_part_n, .inl a_terms_part_f)), (a_todo, .inl (cs 0, a_todo_n, .inl a_todo_37f)), (a_color, .inl (cs 1, a_color_n, .inl a_color_35f)), (a_painted, .inl (cs 0, a_painted_n, .inl a_painted_f_21)), (a, .inr (14, [.int y0_2, .int a_taped, .int a_place, .int a_resulted, .int a_marks, .ref a_tape, .ref a_result, .ref a_terms, .ref a_names, .ref a_reader, .ref a_paper, .ref a_register, .ref a_became, .ref a_node, .ref a_marked, .ref a_markedRegister, .ref a_up, .ref a_touched, .ref a_todo, .ref a_color, .int a_touches_6, .ref a_painted, .int 0])), (a_terms, .inr (11, [.ref a_terms_kind, .ref a_terms_name, .ref a_terms_first, .ref a_terms_many, .ref a_terms_part, .ref a_terms_number, .int a_terms_size, .int a_terms_parts])), (a_terms_kind, .inl (cs 0, a_terms_kind_n, .inl a_terms_kind_f)), (a_terms_name, .inl (cs 0, a_terms_name_n, .inl a_terms_name_f)), (a_became, .inl (cs 0, a_became_n, .inl a_became_f)), (a_node, .inl (cs 0, a_node_n, .inl a_node_f)), (a_up, .inl (cs 0, a_up_n, .inl a_up_f_6))] := ⟨hP, hD⟩
                            refine lv_istore hx hb d_Mo_unify_165 hl (by decide) rfl (fun ls hl => ?_)
                            have hl : lv_has ls 7 [(6, .int r51), (5, .int x5_37), (4, .int x4_37), (3, .int 1), (0, .ref a), (1, .int x), (2, .int y)] := hl
                            refine lv_iload hx hb d_Mo_unify_167 (lv_at hl 0 rfl) ?_
                            refine lv_aload_n hx hb d_Mo_unify_169 rfl (lv_at hl 4 rfl) ?_
                            refine va_get (D := g) (ci := 14) (v := .ref a_node) (C := R_Mo) (T := F_Mo) (N := 23) hx hb hg ul_Mo hown hK hP 10 rfl rfl 13 (by decide) (hg _ wd_792) (fun _ h9 => h9) rfl d_Mo_unify_170 ?_
                            refine lv_iload hx hb d_Mo_unify_173 (lv_at hl 1 rfl) ?_
                            obtain ⟨hi52, hok⟩ := ck_some hok
                            refine va_iald hx hb hK hP 15 0 rfl rfl (ixb_in hi52) d_Mo_unify_175 ?_
                            refine lv_icmp_ne hx hb d_Mo_unify_176 rfl (fun h53 => ?_) (fun h53 => ?_)
                            · rw [if_neg h53] at hok
                              refine lv_aload_n hx hb d_Mo_unify_182 rfl (lv_at hl 4 rfl) ?_
                              refine va_get (D := g) (ci := 14) (v := .ref a_todo) (C := R_Mo) (T := F_Mo) (N := 23) hx hb hg ul_Mo hown hK hP 10 rfl rfl 18 (by decide) (hg _ wd_803) (fun _ h9 => h9) rfl d_Mo_unify_183 ?_
                              refine lv_iload hx hb d_Mo_unify_186 (lv_at hl 2 rfl) ?_
                              refine lv_iinc (k := 2) (v := x4_37 + 1) hx hb d_Mo_unify_188 hl rfl rfl (by decide) rfl (fun ls hl => ?_)
                              have hl : lv_has ls 7 [(4, .int (x4_37 + 1)), (6, .int r51), (5, .int x5_37), (3, .int 1), (0, .ref a), (1, .int x), (2, .int y)] := hl
                              refine lv_iload hx hb d_Mo_unify_191 (lv_at hl 2 rfl) ?_
                              obtain ⟨hi54, hok⟩ := ck_some hok
                              refine va_iast hx hb hK hP hD hS 7 0 rfl rfl (ixb_in hi54) d_Mo_unify_193 (fun H locs hP hD hS => ?_)
                              obtain ⟨hP, hD⟩ : PD g A H [(a_reader, .inr (12, [.ref a_reader_sides, .ref a_reader_ranks, .ref a_reader_stop, .ref a_reader_terms, .ref a_reader_names, a_reader_s, .int a_reader_n, .int a_reader_at, .int a_reader_behind, .int a_reader_token, .int a_reader_open, .long a_reader_number, .ref a_reader_word, .int a_reader_letters, .ref a_reader_stack, .int a_reader_top, .int a_reader_place, .ref a_reader_variables, .int a_reader_variabled, .int a_reader_known, .int a_reader_rank, .ref a_reader_kept])), (a_register, .inl (cs 0, a_register_n, .inl a_register_f)), (a_terms_number, .inl (cs 2, a_terms_number_n, .inr (.inl a_terms_number_f))), (a_touched, .inl (cs 0, a_touched_n, .inl a_touched_f_6)), (a_terms_first, .inl (cs 0, a_terms_first_n, .inl a_terms_first_f)), (a_terms_many, .inl (cs 0, a_terms_many_n, .inl a_terms_many_f)), (a_terms_part, .inl (cs 0, a_terms_part_n, .inl a_terms_part_f)), (a_todo, .inl (cs 0, a_todo_n, .inl (upd a_todo_37f x4_37.toNatClampNeg x5_37))), (a_color, .inl (cs 1, a_color_n, .inl a_color_35f)), (a_painted, .inl (cs 0, a_painted_n, .inl a_painted_f_21)), (a, .inr (14, [.int y0_2, .int a_taped, .int a_place, .int a_resulted, .int a_marks, .ref a_tape, .ref a_result, .ref a_terms, .ref a_names, .ref a_reader, .ref a_paper, .ref a_register, .ref a_became, .ref a_node, .ref a_marked, .ref a_markedRegister, .ref a_up, .ref a_touched, .ref a_todo, .ref a_color, .int a_touches_6, .ref a_painted, .int 0])), (a_terms, .inr (11, [.ref a_terms_kind, .ref a_terms_name, .ref a_terms_first, .ref a_terms_many, .ref a_terms_part, .ref a_terms_number, .int a_terms_size, .int a_terms_parts])), (a_terms_kind, .inl (cs 0, a_terms_kind_n, .inl a_terms_kind_f)), (a_terms_name, .inl (cs 0, a_terms_name_n, .inl a_terms_name_f)), (a_became, .inl (cs 0, a_became_n, .inl a_became_f)), (a_node, .inl (cs 0, a_node_n, .inl a_node_f)), (a_up, .inl (cs 0, a_up_n, .inl a_up_f_6))] := ⟨hP, hD⟩
                              refine lv_aload_n hx hb d_Mo_unify_194 rfl (lv_at hl 4 rfl) ?_
                              refine va_get (D := g) (ci := 14) (v := .ref a_todo) (C := R_Mo) (T := F_Mo) (N := 23) hx hb hg ul_Mo hown hK hP 10 rfl rfl 18 (by decide) (hg _ wd_803) (fun _ h9 => h9) rfl d_Mo_unify_195 ?_
                              refine lv_iload hx hb d_Mo_unify_198 (lv_at hl 0 rfl) ?_
                              refine lv_iinc (k := 0) (v := (x4_37 + 1) + 1) hx hb d_Mo_unify_200 hl rfl rfl (by decide) rfl (fun ls hl => ?_)
                              have hl : lv_has ls 7 [(4, .int ((x4_37 + 1) + 1)), (6, .int r51), (5, .int x5_37), (3, .int 1), (0, .ref a), (1, .int x), (2, .int y)] := hl
                              refine lv_iload hx hb d_Mo_unify_203 (lv_at hl 1 rfl) ?_
                              obtain ⟨hi55, hok⟩ := ck_some hok
                              refine va_iast hx hb hK hP hD hS 7 0 rfl rfl (ixb_in hi55) d_Mo_unify_205 (fun H locs hP hD hS => ?_)
                              obtain ⟨hP, hD⟩ : PD g A H [(a_reader, .inr (12, [.ref a_reader_sides, .ref a_reader_ranks, .ref a_reader_stop, .ref a_reader_terms, .ref a_reader_names, a_reader_s, .int a_reader_n, .int a_reader_at, .int a_reader_behind, .int a_reader_token, .int a_reader_open, .long a_reader_number, .ref a_reader_word, .int a_reader_letters, .ref a_reader_stack, .int a_reader_top, .int a_reader_place, .ref a_reader_variables, .int a_reader_variabled, .int a_reader_known, .int a_reader_rank, .ref a_reader_kept])), (a_register, .inl (cs 0, a_register_n, .inl a_register_f)), (a_terms_number, .inl (cs 2, a_terms_number_n, .inr (.inl a_terms_number_f))), (a_touched, .inl (cs 0, a_touched_n, .inl a_touched_f_6)), (a_terms_first, .inl (cs 0, a_terms_first_n, .inl a_terms_first_f)), (a_terms_many, .inl (cs 0, a_terms_many_n, .inl a_terms_many_f)), (a_terms_part, .inl (cs 0, a_terms_part_n, .inl a_terms_part_f)), (a_todo, .inl (cs 0, a_todo_n, .inl (upd (upd a_todo_37f x4_37.toNatClampNeg x5_37) (x4_37 + 1).toNatClampNeg r51))), (a_color, .inl (cs 1, a_color_n, .inl a_color_35f)), (a_painted, .inl (cs 0, a_painted_n, .inl a_painted_f_21)), (a, .inr (14, [.int y0_2, .int a_taped, .int a_place, .int a_resulted, .int a_marks, .ref a_tape, .ref a_result, .ref a_terms, .ref a_names, .ref a_reader, .ref a_paper, .ref a_register, .ref a_became, .ref a_node, .ref a_marked, .ref a_markedRegister, .ref a_up, .ref a_touched, .ref a_todo, .ref a_color, .int a_touches_6, .ref a_painted, .int 0])), (a_terms, .inr (11, [.ref a_terms_kind, .ref a_terms_name, .ref a_terms_first, .ref a_terms_many, .ref a_terms_part, .ref a_terms_number, .int a_terms_size, .int a_terms_parts])), (a_terms_kind, .inl (cs 0, a_terms_kind_n, .inl a_terms_kind_f)), (a_terms_name, .inl (cs 0, a_terms_name_n, .inl a_terms_name_f)), (a_became, .inl (cs 0, a_became_n, .inl a_became_f)), (a_node, .inl (cs 0, a_node_n, .inl a_node_f)), (a_up, .inl (cs 0, a_up_n, .inl a_up_f_6))] := ⟨hP, hD⟩
                              refine lv_iinc (k := 2) (v := x5_37 + 1) hx hb d_Mo_unify_206 hl rfl rfl (by decide) rfl (fun ls hl => ?_)
                              have hl : lv_has ls 7 [(5, .int (x5_37 + 1)), (4, .int ((x4_37 + 1) + 1)), (6, .int r51), (3, .int 1), (0, .ref a), (1, .int x), (2, .int y)] := hl
                              refine lv_goto hx hb d_Mo_unify_209 rfl ?_
                              exact ih37 _ _ _ (x5_37 + 1) ((x4_37 + 1) + 1) (upd (upd a_todo_37f x4_37.toNatClampNeg x5_37) (x4_37 + 1).toNatClampNeg r51) (lv_sub hl [0, 1, 3, 4, 5, 6] rfl) (sub3 hP hD [0, 1, 2, 3, 10, 11, 12, 13, 4, 5, 6, 14, 15, 16, 7, 8, 9] (by decide)) hS hok
                            · rw [if_pos h53] at hok
                              refine lv_goto hx hb d_Mo_unify_179 rfl ?_
                              refine lv_iinc (k := 1) (v := x5_37 + 1) hx hb d_Mo_unify_206 hl rfl rfl (by decide) rfl (fun ls hl => ?_)
                              have hl : lv_has ls 7 [(5, .int (x5_37 + 1)), (6, .int r51), (4, .int x4_37), (3, .int 1), (0, .ref a), (1, .int x), (2, .int y)] := hl
                              refine lv_goto hx hb d_Mo_unify_209 rfl ?_
                              exact ih37 _ _ _ (x5_37 + 1) x4_37 a_todo_37f (lv_sub hl [0, 2, 3, 4, 5, 6] rfl) (sub3 hP hD [0, 1, 2, 3, 10, 11, 12, 13, 4, 5, 6, 14, 15, 16, 7, 8, 9] (by decide)) hS hok
                          · rw [if_pos h49] at hok
                            refine lv_goto hx hb d_Mo_unify_151 rfl ?_
                            refine lv_iinc (k := 0) (v := x5_37 + 1) hx hb d_Mo_unify_206 hl rfl rfl (by decide) rfl (fun ls hl => ?_)
                            have hl : lv_has ls 7 [(5, .int (x5_37 + 1)), (4, .int x4_37), (3, .int 1), (0, .ref a), (1, .int x), (2, .int y)] := hl
                            refine lv_goto hx hb d_Mo_unify_209 rfl ?_
                            exact ih37 _ _ _ (x5_37 + 1) x4_37 a_todo_37f (lv_sub hl [0, 1, 2, 3, 4, 5] rfl) (sub3 hP hD [0, 1, 2, 3, 4, 5, 6, 7, 8, 9, 10, 11, 12, 13, 14, 15, 16] (by decide)) hS hok
                exact J37 n H locs ls (0 : Int32) (0 : Int32) a_todo_f_21 hl ⟨hP, hD⟩ hS hok
              · rw [if_neg h36] at hok
                refine lv_aload_n hx hb d_Mo_unify_83 rfl (lv_at hl 2 rfl) ?_
                refine va_get (D := g) (ci := 14) (v := .ref a_color) (C := R_Mo) (T := F_Mo) (N := 23) hx hb hg ul_Mo hown hK hP 4 rfl rfl 19 (by decide) (hg _ wd_800) (fun _ h9 => h9) rfl d_Mo_unify_84 ?_
                refine lv_aload_n hx hb d_Mo_unify_87 rfl (lv_at hl 2 rfl) ?_
                refine va_get (D := g) (ci := 14) (v := .ref a_painted) (C := R_Mo) (T := F_Mo) (N := 23) hx hb hg ul_Mo hown hK hP 4 rfl rfl 21 (by decide) (hg _ wd_801) (fun _ h9 => h9) rfl d_Mo_unify_88 ?_
                refine lv_iload hx hb d_Mo_unify_91 (lv_at hl 0 rfl) ?_
                obtain ⟨hi56, hok⟩ := ck_some hok
                refine va_iald hx hb hK hP 16 0 rfl rfl (ixb_in hi56) d_Mo_unify_93 ?_
                refine lv_iconst (v := 0) hx hb d_Mo_unify_94 (by decide) ?_
                obtain ⟨hi57, hok⟩ := ck_some hok
                refine va_bast hx hb hK hP hD hS 15 1 rfl rfl (ixb_in hi57) d_Mo_unify_95 (fun H locs hP hD hS => ?_)
                obtain ⟨hP, hD⟩ : PD g A H [(a_reader, .inr (12, [.ref a_reader_sides, .ref a_reader_ranks, .ref a_reader_stop, .ref a_reader_terms, .ref a_reader_names, a_reader_s, .int a_reader_n, .int a_reader_at, .int a_reader_behind, .int a_reader_token, .int a_reader_open, .long a_reader_number, .ref a_reader_word, .int a_reader_letters, .ref a_reader_stack, .int a_reader_top, .int a_reader_place, .ref a_reader_variables, .int a_reader_variabled, .int a_reader_known, .int a_reader_rank, .ref a_reader_kept])), (a_register, .inl (cs 0, a_register_n, .inl a_register_f)), (a_terms_number, .inl (cs 2, a_terms_number_n, .inr (.inl a_terms_number_f))), (a_touched, .inl (cs 0, a_touched_n, .inl a_touched_f_6)), (a, .inr (14, [.int y0_2, .int a_taped, .int a_place, .int a_resulted, .int a_marks, .ref a_tape, .ref a_result, .ref a_terms, .ref a_names, .ref a_reader, .ref a_paper, .ref a_register, .ref a_became, .ref a_node, .ref a_marked, .ref a_markedRegister, .ref a_up, .ref a_touched, .ref a_todo, .ref a_color, .int a_touches_6, .ref a_painted, .int a_paints_21])), (a_terms, .inr (11, [.ref a_terms_kind, .ref a_terms_name, .ref a_terms_first, .ref a_terms_many, .ref a_terms_part, .ref a_terms_number, .int a_terms_size, .int a_terms_parts])), (a_terms_kind, .inl (cs 0, a_terms_kind_n, .inl a_terms_kind_f)), (a_terms_name, .inl (cs 0, a_terms_name_n, .inl a_terms_name_f)), (a_terms_first, .inl (cs 0, a_terms_first_n, .inl a_terms_first_f)), (a_terms_many, .inl (cs 0, a_terms_many_n, .inl a_terms_many_f)), (a_terms_part, .inl (cs 0, a_terms_part_n, .inl a_terms_part_f)), (a_became, .inl (cs 0, a_became_n, .inl a_became_f)), (a_node, .inl (cs 0, a_node_n, .inl a_node_f)), (a_up, .inl (cs 0, a_up_n, .inl a_up_f_6)), (a_todo, .inl (cs 0, a_todo_n, .inl a_todo_f_21)), (a_color, .inl (cs 1, a_color_n, .inl (upd a_color_35f (a_painted_f_21 x4_35.toNatClampNeg).toNatClampNeg (vp_nar .byte 0)))), (a_painted, .inl (cs 0, a_painted_n, .inl a_painted_f_21))] := ⟨hP, hD⟩
                refine lv_iinc (k := 0) (v := x4_35 + 1) hx hb d_Mo_unify_96 hl rfl rfl (by decide) rfl (fun ls hl => ?_)
                have hl : lv_has ls 7 [(4, .int (x4_35 + 1)), (3, .int 1), (0, .ref a), (1, .int x), (2, .int y)] := hl
                refine lv_goto hx hb d_Mo_unify_99 rfl ?_
                exact ih35 _ _ _ (x4_35 + 1) (upd a_color_35f (a_painted_f_21 x4_35.toNatClampNeg).toNatClampNeg (vp_nar .byte 0)) (lv_sub hl [0, 1, 2, 3, 4] rfl) (sub3 hP hD [0, 1, 2, 3, 4, 5, 6, 7, 8, 9, 10, 11, 12, 13, 14, 15, 16] (by decide)) hS hok
          exact J35 n H locs ls (0 : Int32) a_color_f_21 hl ⟨hP, hD⟩ hS hok
    · rw [if_neg h3] at hok
      refine lv_iconst (v := 0) hx hb d_Mo_unify_30 (by decide) ?_
      have hq := Option.some.inj hok
      obtain ⟨hq0, hq⟩ := Prod.mk.inj hq
      obtain ⟨hq1, hq⟩ := Prod.mk.inj hq
      obtain ⟨hq2, hq⟩ := Prod.mk.inj hq
      obtain ⟨hq3, hq⟩ := Prod.mk.inj hq
      obtain ⟨hq4, hq⟩ := Prod.mk.inj hq
      obtain ⟨hq5, hq⟩ := Prod.mk.inj hq
      obtain ⟨hq6, hq⟩ := Prod.mk.inj hq
      obtain ⟨hq7, hq⟩ := Prod.mk.inj hq
      obtain ⟨hq8, hq⟩ := Prod.mk.inj hq
      have hq9 := hq
      subst hq0
      subst hq1
      subst hq2
      subst hq3
      subst hq4
      subst hq5
      subst hq6
      subst hq7
      subst hq8
      subst hq9
      obtain ⟨hP9, hD9⟩ := sub2 (ws' := [(a, .inr (14, [.int y0_2, .int a_taped, .int a_place, .int a_resulted, .int a_marks, .ref a_tape, .ref a_result, .ref a_terms, .ref a_names, .ref a_reader, .ref a_paper, .ref a_register, .ref a_became, .ref a_node, .ref a_marked, .ref a_markedRegister, .ref a_up, .ref a_touched, .ref a_todo, .ref a_color, .int a_touches, .ref a_painted, .int a_paints])), (a_terms, .inr (11, [.ref a_terms_kind, .ref a_terms_name, .ref a_terms_first, .ref a_terms_many, .ref a_terms_part, .ref a_terms_number, .int a_terms_size, .int a_terms_parts])), (a_terms_kind, .inl (cs 0, a_terms_kind_n, .inl a_terms_kind_f)), (a_terms_name, .inl (cs 0, a_terms_name_n, .inl a_terms_name_f)), (a_terms_first, .inl (cs 0, a_terms_first_n, .inl a_terms_first_f)), (a_terms_many, .inl (cs 0, a_terms_many_n, .inl a_terms_many_f)), (a_terms_part, .inl (cs 0, a_terms_part_n, .inl a_terms_part_f)), (a_terms_number, .inl (cs 2, a_terms_number_n, .inr (.inl a_terms_number_f))), (a_reader, .inr (12, [.ref a_reader_sides, .ref a_reader_ranks, .ref a_reader_stop, .ref a_reader_terms, .ref a_reader_names, a_reader_s, .int a_reader_n, .int a_reader_at, .int a_reader_behind, .int a_reader_token, .int a_reader_open, .long a_reader_number, .ref a_reader_word, .int a_reader_letters, .ref a_reader_stack, .int a_reader_top, .int a_reader_place, .ref a_reader_variables, .int a_reader_variabled, .int a_reader_known, .int a_reader_rank, .ref a_reader_kept])), (a_register, .inl (cs 0, a_register_n, .inl a_register_f)), (a_became, .inl (cs 0, a_became_n, .inl a_became_f)), (a_node, .inl (cs 0, a_node_n, .inl a_node_f)), (a_up, .inl (cs 0, a_up_n, .inl a_up_f)), (a_touched, .inl (cs 0, a_touched_n, .inl a_touched_f)), (a_todo, .inl (cs 0, a_todo_n, .inl a_todo_f)), (a_color, .inl (cs 1, a_color_n, .inl a_color_f)), (a_painted, .inl (cs 0, a_painted_n, .inl a_painted_f))]) hP hD [0, 1, 2, 3, 4, 5, 6, 7, 8, 9, 10, 11, 12, 13, 14, 15, 16] rfl (by decide) rfl
      rw [hQ]
      exact W.zret (v := 0) hx hb hr rfl (fun t ht hW => ⟨⟨_, (), rfl, rfl, by rw [ht]; exact hP9, hD9⟩, hS.F ht⟩) hS.2.2 d_Mo_unify_31
  have J58 : ∀ (H : Heap) (locs : List Loc) (ls : Array Slot), lv_has ls 7 [(0, .ref a), (1, .int x), (2, .int y)] → PD g A H [(a, .inr (14, [.int a_thrown, .int a_taped, .int a_place, .int a_resulted, .int a_marks, .ref a_tape, .ref a_result, .ref a_terms, .ref a_names, .ref a_reader, .ref a_paper, .ref a_register, .ref a_became, .ref a_node, .ref a_marked, .ref a_markedRegister, .ref a_up, .ref a_touched, .ref a_todo, .ref a_color, .int a_touches, .ref a_painted, .int a_paints])), (a_terms, .inr (11, [.ref a_terms_kind, .ref a_terms_name, .ref a_terms_first, .ref a_terms_many, .ref a_terms_part, .ref a_terms_number, .int a_terms_size, .int a_terms_parts])), (a_terms_kind, .inl (cs 0, a_terms_kind_n, .inl a_terms_kind_f)), (a_terms_name, .inl (cs 0, a_terms_name_n, .inl a_terms_name_f)), (a_terms_first, .inl (cs 0, a_terms_first_n, .inl a_terms_first_f)), (a_terms_many, .inl (cs 0, a_terms_many_n, .inl a_terms_many_f)), (a_terms_part, .inl (cs 0, a_terms_part_n, .inl a_terms_part_f)), (a_terms_number, .inl (cs 2, a_terms_number_n, .inr (.inl a_terms_number_f))), (a_reader, .inr (12, [.ref a_reader_sides, .ref a_reader_ranks, .ref a_reader_stop, .ref a_reader_terms, .ref a_reader_names, a_reader_s, .int a_reader_n, .int a_reader_at, .int a_reader_behind, .int a_reader_token, .int a_reader_open, .long a_reader_number, .ref a_reader_word, .int a_reader_letters, .ref a_reader_stack, .int a_reader_top, .int a_reader_place, .ref a_reader_variables, .int a_reader_variabled, .int a_reader_known, .int a_reader_rank, .ref a_reader_kept])), (a_register, .inl (cs 0, a_register_n, .inl a_register_f)), (a_became, .inl (cs 0, a_became_n, .inl a_became_f)), (a_node, .inl (cs 0, a_node_n, .inl a_node_f)), (a_up, .inl (cs 0, a_up_n, .inl a_up_f)), (a_touched, .inl (cs 0, a_touched_n, .inl a_touched_f)), (a_todo, .inl (cs 0, a_todo_n, .inl a_todo_f)), (a_color, .inl (cs 1, a_color_n, .inl a_color_f)), (a_painted, .inl (cs 0, a_painted_n, .inl a_painted_f))] → va_S A s.heap H locs → p_Mo_unify_15 n x y a_taped a_place a_resulted a_marks a_touches a_paints a_terms_size a_terms_parts a_terms_kind_n a_terms_kind_f a_terms_name_n a_terms_name_f a_terms_first_n a_terms_first_f a_terms_many_n a_terms_many_f a_terms_part_n a_terms_part_f a_terms_number_n a_terms_number_f a_reader_variabled a_register_n a_register_f a_became_n a_became_f a_node_n a_node_f a_up_n a_up_f a_touched_n a_touched_f a_todo_n a_todo_f a_color_n a_color_f a_painted_n a_painted_f = some (r, o_a_thrown, o_a_touches, o_a_paints, o_a_became_f, o_a_up_f, o_a_touched_f, o_a_todo_f, o_a_color_f, o_a_painted_f) → W p l e (headSpec (.code y_Mo_unify b_Mo_unify 7 (some .boolean) :: GW) { frames := 3, cells := 0, slots := 0, locals := 74 }).room s m ([.ref a, .int x, .int y] : List Value).toArray below meth c H locs 0 0 Q (F0 m 15 ls [.ref a]) := by
    intro H locs ls hl ⟨hP, hD⟩ hS hok
    unfold p_Mo_unify_15 at hok
    refine lv_iconst (v := 1) hx hb d_Mo_unify_15 (by decide) ?_
    refine lv_goto hx hb d_Mo_unify_16 rfl ?_
    exact J2 _ _ _ (1 : Int32) (lv_sub hl [0, 1, 2] rfl) (sub3 hP hD [0, 1, 2, 3, 4, 5, 6, 7, 8, 9, 10, 11, 12, 13, 14, 15, 16] (by decide)) hS hok
  refine lv_if_ne hx hb d_Mo_unify_5 rfl (fun h59 => ?_) (fun h59 => ?_)
  · rw [if_neg h59] at hok
    exact J58 _ _ _ (lv_sub hl [0, 1, 2] rfl) (sub3 hP hD [0, 1, 2, 3, 4, 5, 6, 7, 8, 9, 10, 11, 12, 13, 14, 15, 16] (by decide)) hS hok
  · rw [if_pos h59] at hok
    refine lv_iload_n hx hb d_Mo_unify_8 rfl (lv_at hl 2 rfl) ?_
    obtain ⟨r60, hc60, hok⟩ := bd_some hok
    obtain ⟨hPc, hDc, hFc⟩ := cut0 (wc := []) hP hD hS hA [] (by decide) rfl
    refine va_calli (va_runS (As := [.int y]) (rest := [.ref a]) ⟨hx, hb, hml, hown, hg⟩ (c_Mo_none l g cs ka H.size y r60 hc60) (va_cwS 1 hg (gw_S wd_820 wd_821 wd_780 wd_819) rfl rfl rfl (by decide +kernel) ⟨Nat.le_of_ble_eq_true rfl, Nat.le_of_ble_eq_true rfl⟩) ⟨gP_blind, gP_pre hPc hDc hK hgl hkn hkr hS hFc⟩ rfl rfl hl.1 rfl (lv_room (Nat.le_of_ble_eq_true rfl)) d_Mo_unify_9 ⟨Nat.le_of_ble_eq_true rfl, Nat.le_of_ble_eq_true rfl⟩) hS (fun q _ h => hFc q h) hFc (fun r60' u t H locs ht hvm hr60 hB hz1 hk1 hS => ?_)
    subst hr60
    rw [ht] at hB
    obtain ⟨hP1, hD1⟩ := hB
    obtain ⟨hP, hD⟩ := jn_A hP hD [] [0, 1, 2, 3, 4, 5, 6, 7, 8, 9, 10, 11, 12, 13, 14, 15, 16] rfl rfl (by decide) (by decide) hk1 hFc hP1 hD1
    obtain ⟨hP, hD⟩ : PD g A H [(a, .inr (14, [.int a_thrown, .int a_taped, .int a_place, .int a_resulted, .int a_marks, .ref a_tape, .ref a_result, .ref a_terms, .ref a_names, .ref a_reader, .ref a_paper, .ref a_register, .ref a_became, .ref a_node, .ref a_marked, .ref a_markedRegister, .ref a_up, .ref a_touched, .ref a_todo, .ref a_color, .int a_touches, .ref a_painted, .int a_paints])), (a_terms, .inr (11, [.ref a_terms_kind, .ref a_terms_name, .ref a_terms_first, .ref a_terms_many, .ref a_terms_part, .ref a_terms_number, .int a_terms_size, .int a_terms_parts])), (a_terms_kind, .inl (cs 0, a_terms_kind_n, .inl a_terms_kind_f)), (a_terms_name, .inl (cs 0, a_terms_name_n, .inl a_terms_name_f)), (a_terms_first, .inl (cs 0, a_terms_first_n, .inl a_terms_first_f)), (a_terms_many, .inl (cs 0, a_terms_many_n, .inl a_terms_many_f)), (a_terms_part, .inl (cs 0, a_terms_part_n, .inl a_terms_part_f)), (a_terms_number, .inl (cs 2, a_terms_number_n, .inr (.inl a_terms_number_f))), (a_reader, .inr (12, [.ref a_reader_sides, .ref a_reader_ranks, .ref a_reader_stop, .ref a_reader_terms, .ref a_reader_names, a_reader_s, .int a_reader_n, .int a_reader_at, .int a_reader_behind, .int a_reader_token, .int a_reader_open, .long a_reader_number, .ref a_reader_word, .int a_reader_letters, .ref a_reader_stack, .int a_reader_top, .int a_reader_place, .ref a_reader_variables, .int a_reader_variabled, .int a_reader_known, .int a_reader_rank, .ref a_reader_kept])), (a_register, .inl (cs 0, a_register_n, .inl a_register_f)), (a_became, .inl (cs 0, a_became_n, .inl a_became_f)), (a_node, .inl (cs 0, a_node_n, .inl a_node_f)), (a_up, .inl (cs 0, a_up_n, .inl a_up_f)), (a_touched, .inl (cs 0, a_touched_n, .inl a_touched_f)), (a_todo, .inl (cs 0, a_todo_n, .inl a_todo_f)), (a_color, .inl (cs 1, a_color_n, .inl a_color_f)), (a_painted, .inl (cs 0, a_painted_n, .inl a_painted_f))] := ⟨hP, hD⟩
    refine lv_if_eq hx hb d_Mo_unify_12 rfl (fun h61 => ?_) (fun h61 => ?_)
    · rw [if_pos h61] at hok
      refine lv_iconst (v := 0) hx hb d_Mo_unify_19 (by decide) ?_
      exact J2 _ _ _ (0 : Int32) (lv_sub hl [0, 1, 2] rfl) (sub3 hP hD [0, 1, 2, 3, 4, 5, 6, 7, 8, 9, 10, 11, 12, 13, 14, 15, 16] (by decide)) hS hok
    · rw [if_neg h61] at hok
      exact J58 _ _ _ (lv_sub hl [0, 1, 2] rfl) (sub3 hP hD [0, 1, 2, 3, 4, 5, 6, 7, 8, 9, 10, 11, 12, 13, 14, 15, 16] (by decide)) hS hok

theorem d_Mo_same_0 : decode b_Mo_same 0 = .ok (.aload_n 0, 1) := by decide +kernel
theorem d_Mo_same_1 : decode b_Mo_same 1 = .ok (.iload_n 1, 1) := by decide +kernel
theorem d_Mo_same_2 : decode b_Mo_same 2 = .ok (.invokestatic 124, 3) := by decide +kernel
theorem d_Mo_same_5 : decode b_Mo_same 5 = .ok (.ifCond .ne 10, 3) := by decide +kernel
theorem d_Mo_same_8 : decode b_Mo_same 8 = .ok (.iload_n 2, 1) := by decide +kernel
theorem d_Mo_same_9 : decode b_Mo_same 9 = .ok (.invokestatic 124, 3) := by decide +kernel
theorem d_Mo_same_12 : decode b_Mo_same 12 = .ok (.ifCond .eq 7, 3) := by decide +kernel
theorem d_Mo_same_15 : decode b_Mo_same 15 = .ok (.iconst 1, 1) := by decide +kernel
theorem d_Mo_same_16 : decode b_Mo_same 16 = .ok (.goto 4, 3) := by decide +kernel
theorem d_Mo_same_19 : decode b_Mo_same 19 = .ok (.iconst 0, 1) := by decide +kernel
theorem d_Mo_same_20 : decode b_Mo_same 20 = .ok (.putfield 91, 3) := by decide +kernel
theorem d_Mo_same_23 : decode b_Mo_same 23 = .ok (.aload_n 0, 1) := by decide +kernel
theorem d_Mo_same_24 : decode b_Mo_same 24 = .ok (.getfield 91, 3) := by decide +kernel
theorem d_Mo_same_27 : decode b_Mo_same 27 = .ok (.ifCond .le 5, 3) := by decide +kernel
theorem d_Mo_same_30 : decode b_Mo_same 30 = .ok (.iconst 0, 1) := by decide +kernel
theorem d_Mo_same_31 : decode b_Mo_same 31 = .ok (.ireturn, 1) := by decide +kernel
theorem d_Mo_same_32 : decode b_Mo_same 32 = .ok (.aload_n 0, 1) := by decide +kernel
theorem d_Mo_same_33 : decode b_Mo_same 33 = .ok (.aload_n 0, 1) := by decide +kernel
theorem d_Mo_same_34 : decode b_Mo_same 34 = .ok (.getfield 50, 3) := by decide +kernel
theorem d_Mo_same_37 : decode b_Mo_same 37 = .ok (.iload_n 1, 1) := by decide +kernel
theorem d_Mo_same_38 : decode b_Mo_same 38 = .ok (.iaload, 1) := by decide +kernel
theorem d_Mo_same_39 : decode b_Mo_same 39 = .ok (.aload_n 0, 1) := by decide +kernel
theorem d_Mo_same_40 : decode b_Mo_same 40 = .ok (.getfield 50, 3) := by decide +kernel
theorem d_Mo_same_43 : decode b_Mo_same 43 = .ok (.iload_n 2, 1) := by decide +kernel
theorem d_Mo_same_44 : decode b_Mo_same 44 = .ok (.iaload, 1) := by decide +kernel
theorem d_Mo_same_45 : decode b_Mo_same 45 = .ok (.iconst 1, 1) := by decide +kernel
theorem d_Mo_same_46 : decode b_Mo_same 46 = .ok (.invokevirtual 169, 3) := by decide +kernel
theorem d_Mo_same_49 : decode b_Mo_same 49 = .ok (.istore_n 3, 1) := by decide +kernel
theorem d_Mo_same_50 : decode b_Mo_same 50 = .ok (.aload_n 0, 1) := by decide +kernel
theorem d_Mo_same_51 : decode b_Mo_same 51 = .ok (.invokevirtual 176, 3) := by decide +kernel
theorem d_Mo_same_54 : decode b_Mo_same 54 = .ok (.iload_n 3, 1) := by decide +kernel
theorem d_Mo_same_55 : decode b_Mo_same 55 = .ok (.ireturn, 1) := by decide +kernel
def p_Mo_same_20 (n : Nat) (x : Int32) (y : Int32) (a_taped : Int32) (a_place : Int32) (a_resulted : Int32) (a_marks : Int32) (a_touches : Int32) (a_paints : Int32) (a_terms_size : Int32) (a_terms_parts : Int32) (a_terms_kind_n : Nat) (a_terms_kind_f : Nat → Int32) (a_terms_name_n : Nat) (a_terms_name_f : Nat → Int32) (a_terms_first_n : Nat) (a_terms_first_f : Nat → Int32) (a_terms_many_n : Nat) (a_terms_many_f : Nat → Int32) (a_terms_part_n : Nat) (a_terms_part_f : Nat → Int32) (a_terms_number_n : Nat) (a_terms_number_f : Nat → Int64) (a_register_n : Nat) (a_register_f : Nat → Int32) (a_became_n : Nat) (a_became_f : Nat → Int32) (a_node_n : Nat) (a_node_f : Nat → Int32) (a_up_n : Nat) (a_up_f : Nat → Int32) (a_touched_n : Nat) (a_touched_f : Nat → Int32) (a_todo_n : Nat) (a_todo_f : Nat → Int32) (a_color_n : Nat) (a_color_f : Nat → Int32) (y0_2 : Int32) : Option (Int32 × Int32 × Int32 × (Nat → Int32) × (Nat → Int32) × (Nat → Int32) × (Nat → Int32)) := if y0_2 ≤ 0 then (ck (ixb x a_register_n) (ck (ixb y a_register_n) ((p_Mo_classes n (a_register_f x.toNatClampNeg) (a_register_f y.toNatClampNeg) (1 : Int32) y0_2 a_taped a_place a_resulted a_marks a_touches a_paints a_terms_size a_terms_parts a_terms_kind_n a_terms_kind_f a_terms_name_n a_terms_name_f a_terms_first_n a_terms_first_f a_terms_many_n a_terms_many_f a_terms_part_n a_terms_part_f a_terms_number_n a_terms_number_f a_became_n a_became_f a_node_n a_node_f a_up_n a_up_f a_touched_n a_touched_f a_todo_n a_todo_f).bind (fun (r6, a_touches_6, a_up_f_6, a_touched_f_6, a_todo_f_6) => (p_Mo_part_ n y0_2 a_taped a_place a_resulted a_marks a_touches_6 a_paints a_up_n a_up_f_6 a_touched_n a_touched_f_6 a_color_n a_color_f).bind (fun (a_touches_7, a_up_f_7, a_color_f_7) => ck (zab r6) (some (r6, y0_2, a_touches_7, a_up_f_7, a_touched_f_6, a_todo_f_6, a_color_f_7))))))) else (some ((0 : Int32), y0_2, a_touches, a_up_f, a_touched_f, a_todo_f, a_color_f))
def p_Mo_same_15 (n : Nat) (x : Int32) (y : Int32) (a_taped : Int32) (a_place : Int32) (a_resulted : Int32) (a_marks : Int32) (a_touches : Int32) (a_paints : Int32) (a_terms_size : Int32) (a_terms_parts : Int32) (a_terms_kind_n : Nat) (a_terms_kind_f : Nat → Int32) (a_terms_name_n : Nat) (a_terms_name_f : Nat → Int32) (a_terms_first_n : Nat) (a_terms_first_f : Nat → Int32) (a_terms_many_n : Nat) (a_terms_many_f : Nat → Int32) (a_terms_part_n : Nat) (a_terms_part_f : Nat → Int32) (a_terms_number_n : Nat) (a_terms_number_f : Nat → Int64) (a_register_n : Nat) (a_register_f : Nat → Int32) (a_became_n : Nat) (a_became_f : Nat → Int32) (a_node_n : Nat) (a_node_f : Nat → Int32) (a_up_n : Nat) (a_up_f : Nat → Int32) (a_touched_n : Nat) (a_touched_f : Nat → Int32) (a_todo_n : Nat) (a_todo_f : Nat → Int32) (a_color_n : Nat) (a_color_f : Nat → Int32) : Option (Int32 × Int32 × Int32 × (Nat → Int32) × (Nat → Int32) × (Nat → Int32) × (Nat → Int32)) := p_Mo_same_20 n x y a_taped a_place a_resulted a_marks a_touches a_paints a_terms_size a_terms_parts a_terms_kind_n a_terms_kind_f a_terms_name_n a_terms_name_f a_terms_first_n a_terms_first_f a_terms_many_n a_terms_many_f a_terms_part_n a_terms_part_f a_terms_number_n a_terms_number_f a_register_n a_register_f a_became_n a_became_f a_node_n a_node_f a_up_n a_up_f a_touched_n a_touched_f a_todo_n a_todo_f a_color_n a_color_f (1 : Int32)
def p_Mo_same (n : Nat) (x : Int32) (y : Int32) (a_thrown : Int32) (a_taped : Int32) (a_place : Int32) (a_resulted : Int32) (a_marks : Int32) (a_touches : Int32) (a_paints : Int32) (a_terms_size : Int32) (a_terms_parts : Int32) (a_terms_kind_n : Nat) (a_terms_kind_f : Nat → Int32) (a_terms_name_n : Nat) (a_terms_name_f : Nat → Int32) (a_terms_first_n : Nat) (a_terms_first_f : Nat → Int32) (a_terms_many_n : Nat) (a_terms_many_f : Nat → Int32) (a_terms_part_n : Nat) (a_terms_part_f : Nat → Int32) (a_terms_number_n : Nat) (a_terms_number_f : Nat → Int64) (a_register_n : Nat) (a_register_f : Nat → Int32) (a_became_n : Nat) (a_became_f : Nat → Int32) (a_node_n : Nat) (a_node_f : Nat → Int32) (a_up_n : Nat) (a_up_f : Nat → Int32) (a_touched_n : Nat) (a_touched_f : Nat → Int32) (a_todo_n : Nat) (a_todo_f : Nat → Int32) (a_color_n : Nat) (a_color_f : Nat → Int32) : Option (Int32 × Int32 × Int32 × (Nat → Int32) × (Nat → Int32) × (Nat → Int32) × (Nat → Int32)) := (p_Mo_none x).bind (fun r1 => if r1 = 0 then ((p_Mo_none y).bind (fun r10 => if r10 = 0 then (p_Mo_same_20 n x y a_taped a_place a_resulted a_marks a_touches a_paints a_terms_size a_terms_parts a_terms_kind_n a_terms_kind_f a_terms_name_n a_terms_name_f a_terms_first_n a_terms_first_f a_terms_many_n a_terms_many_f a_terms_part_n a_terms_part_f a_terms_number_n a_terms_number_f a_register_n a_register_f a_became_n a_became_f a_node_n a_node_f a_up_n a_up_f a_touched_n a_touched_f a_todo_n a_todo_f a_color_n a_color_f (0 : Int32)) else (p_Mo_same_15 n x y a_taped a_place a_resulted a_marks a_touches a_paints a_terms_size a_terms_parts a_terms_kind_n a_terms_kind_f a_terms_name_n a_terms_name_f a_terms_first_n a_terms_first_f a_terms_many_n a_terms_many_f a_terms_part_n a_terms_part_f a_terms_number_n a_terms_number_f a_register_n a_register_f a_became_n a_became_f a_node_n a_node_f a_up_n a_up_f a_touched_n a_touched_f a_todo_n a_todo_f a_color_n a_color_f))) else (p_Mo_same_15 n x y a_taped a_place a_resulted a_marks a_touches a_paints a_terms_size a_terms_parts a_terms_kind_n a_terms_kind_f a_terms_name_n a_terms_name_f a_terms_first_n a_terms_first_f a_terms_many_n a_terms_many_f a_terms_part_n a_terms_part_f a_terms_number_n a_terms_number_f a_register_n a_register_f a_became_n a_became_f a_node_n a_node_f a_up_n a_up_f a_touched_n a_touched_f a_todo_n a_todo_f a_color_n a_color_f))
set_option maxHeartbeats 40000000 in
set_option maxRecDepth 100000 in
theorem c_Mo_same (l : Launch) (g : va_G) (cs : Nat → ClassId) (ka : Nat → Nat) (a_tape : Nat) (a_result : Nat) (a_names : Nat) (a_reader : Nat) (a_paper : Nat) (a_marked : Nat) (a_markedRegister : Nat) (a_painted : Nat) (a a_terms a_terms_kind a_terms_name a_terms_first a_terms_many a_terms_part a_terms_number a_register a_became a_node a_up a_touched a_todo a_color : Nat) (sz : Nat) (n : Nat) (x : Int32) (y : Int32) (a_thrown : Int32) (a_taped : Int32) (a_place : Int32) (a_resulted : Int32) (a_marks : Int32) (a_touches : Int32) (a_paints : Int32) (a_terms_size : Int32) (a_terms_parts : Int32) (a_terms_kind_n : Nat) (a_terms_kind_f : Nat → Int32) (a_terms_name_n : Nat) (a_terms_name_f : Nat → Int32) (a_terms_first_n : Nat) (a_terms_first_f : Nat → Int32) (a_terms_many_n : Nat) (a_terms_many_f : Nat → Int32) (a_terms_part_n : Nat) (a_terms_part_f : Nat → Int32) (a_terms_number_n : Nat) (a_terms_number_f : Nat → Int64) (a_register_n : Nat) (a_register_f : Nat → Int32) (a_became_n : Nat) (a_became_f : Nat → Int32) (a_node_n : Nat) (a_node_f : Nat → Int32) (a_up_n : Nat) (a_up_f : Nat → Int32) (a_touched_n : Nat) (a_touched_f : Nat → Int32) (a_todo_n : Nat) (a_todo_f : Nat → Int32) (a_color_n : Nat) (a_color_f : Nat → Int32) (r : Int32) (o_a_thrown : Int32) (o_a_touches : Int32) (o_a_up_f : Nat → Int32) (o_a_touched_f : Nat → Int32) (o_a_todo_f : Nat → Int32) (o_a_color_f : Nat → Int32) (hok : p_Mo_same n x y a_thrown a_taped a_place a_resulted a_marks a_touches a_paints a_terms_size a_terms_parts a_terms_kind_n a_terms_kind_f a_terms_name_n a_terms_name_f a_terms_first_n a_terms_first_f a_terms_many_n a_terms_many_f a_terms_part_n a_terms_part_f a_terms_number_n a_terms_number_f a_register_n a_register_f a_became_n a_became_f a_node_n a_node_f a_up_n a_up_f a_touched_n a_touched_f a_todo_n a_todo_f a_color_n a_color_f = some (r, o_a_thrown, o_a_touches, o_a_up_f, o_a_touched_f, o_a_todo_f, o_a_color_f)) : Met l y_Mo_same (.code y_Mo_same b_Mo_same 4 (some .boolean) :: GW) { frames := 3, cells := 0, slots := 0, locals := 74 } (va_Pc [.ref a, .int x, .int y] (gP g cs ka [(a, .inr (14, [.int a_thrown, .int a_taped, .int a_place, .int a_resulted, .int a_marks, .ref a_tape, .ref a_result, .ref a_terms, .ref a_names, .ref a_reader, .ref a_paper, .ref a_register, .ref a_became, .ref a_node, .ref a_marked, .ref a_markedRegister, .ref a_up, .ref a_touched, .ref a_todo, .ref a_color, .int a_touches, .ref a_painted, .int a_paints])), (a_terms, .inr (11, [.ref a_terms_kind, .ref a_terms_name, .ref a_terms_first, .ref a_terms_many, .ref a_terms_part, .ref a_terms_number, .int a_terms_size, .int a_terms_parts])), (a_terms_kind, .inl (cs 0, a_terms_kind_n, .inl a_terms_kind_f)), (a_terms_name, .inl (cs 0, a_terms_name_n, .inl a_terms_name_f)), (a_terms_first, .inl (cs 0, a_terms_first_n, .inl a_terms_first_f)), (a_terms_many, .inl (cs 0, a_terms_many_n, .inl a_terms_many_f)), (a_terms_part, .inl (cs 0, a_terms_part_n, .inl a_terms_part_f)), (a_terms_number, .inl (cs 2, a_terms_number_n, .inr (.inl a_terms_number_f))), (a_register, .inl (cs 0, a_register_n, .inl a_register_f)), (a_became, .inl (cs 0, a_became_n, .inl a_became_f)), (a_node, .inl (cs 0, a_node_n, .inl a_node_f)), (a_up, .inl (cs 0, a_up_n, .inl a_up_f)), (a_touched, .inl (cs 0, a_touched_n, .inl a_touched_f)), (a_todo, .inl (cs 0, a_todo_n, .inl a_todo_f)), (a_color, .inl (cs 1, a_color_n, .inl a_color_f))] sz)) (va_Qi (fun (r' : Int32) (_ : Unit) => r = r') (fun _ t => va_P g classes [(a, .inr (14, [.int o_a_thrown, .int a_taped, .int a_place, .int a_resulted, .int a_marks, .ref a_tape, .ref a_result, .ref a_terms, .ref a_names, .ref a_reader, .ref a_paper, .ref a_register, .ref a_became, .ref a_node, .ref a_marked, .ref a_markedRegister, .ref a_up, .ref a_touched, .ref a_todo, .ref a_color, .int o_a_touches, .ref a_painted, .int a_paints])), (a_terms, .inr (11, [.ref a_terms_kind, .ref a_terms_name, .ref a_terms_first, .ref a_terms_many, .ref a_terms_part, .ref a_terms_number, .int a_terms_size, .int a_terms_parts])), (a_terms_kind, .inl (cs 0, a_terms_kind_n, .inl a_terms_kind_f)), (a_terms_name, .inl (cs 0, a_terms_name_n, .inl a_terms_name_f)), (a_terms_first, .inl (cs 0, a_terms_first_n, .inl a_terms_first_f)), (a_terms_many, .inl (cs 0, a_terms_many_n, .inl a_terms_many_f)), (a_terms_part, .inl (cs 0, a_terms_part_n, .inl a_terms_part_f)), (a_terms_number, .inl (cs 2, a_terms_number_n, .inr (.inl a_terms_number_f))), (a_register, .inl (cs 0, a_register_n, .inl a_register_f)), (a_became, .inl (cs 0, a_became_n, .inl a_became_f)), (a_node, .inl (cs 0, a_node_n, .inl a_node_f)), (a_up, .inl (cs 0, a_up_n, .inl o_a_up_f)), (a_touched, .inl (cs 0, a_touched_n, .inl o_a_touched_f)), (a_todo, .inl (cs 0, a_todo_n, .inl o_a_todo_f)), (a_color, .inl (cs 1, a_color_n, .inl o_a_color_f))] t.heap ∧ va_D (va_A [(a, .inr (14, [.int a_thrown, .int a_taped, .int a_place, .int a_resulted, .int a_marks, .ref a_tape, .ref a_result, .ref a_terms, .ref a_names, .ref a_reader, .ref a_paper, .ref a_register, .ref a_became, .ref a_node, .ref a_marked, .ref a_markedRegister, .ref a_up, .ref a_touched, .ref a_todo, .ref a_color, .int a_touches, .ref a_painted, .int a_paints])), (a_terms, .inr (11, [.ref a_terms_kind, .ref a_terms_name, .ref a_terms_first, .ref a_terms_many, .ref a_terms_part, .ref a_terms_number, .int a_terms_size, .int a_terms_parts])), (a_terms_kind, .inl (cs 0, a_terms_kind_n, .inl a_terms_kind_f)), (a_terms_name, .inl (cs 0, a_terms_name_n, .inl a_terms_name_f)), (a_terms_first, .inl (cs 0, a_terms_first_n, .inl a_terms_first_f)), (a_terms_many, .inl (cs 0, a_terms_many_n, .inl a_terms_many_f)), (a_terms_part, .inl (cs 0, a_terms_part_n, .inl a_terms_part_f)), (a_terms_number, .inl (cs 2, a_terms_number_n, .inr (.inl a_terms_number_f))), (a_register, .inl (cs 0, a_register_n, .inl a_register_f)), (a_became, .inl (cs 0, a_became_n, .inl a_became_f)), (a_node, .inl (cs 0, a_node_n, .inl a_node_f)), (a_up, .inl (cs 0, a_up_n, .inl a_up_f)), (a_touched, .inl (cs 0, a_touched_n, .inl a_touched_f)), (a_todo, .inl (cs 0, a_todo_n, .inl a_todo_f)), (a_color, .inl (cs 1, a_color_n, .inl a_color_f))] sz) [(a, .inr (14, [.int o_a_thrown, .int a_taped, .int a_place, .int a_resulted, .int a_marks, .ref a_tape, .ref a_result, .ref a_terms, .ref a_names, .ref a_reader, .ref a_paper, .ref a_register, .ref a_became, .ref a_node, .ref a_marked, .ref a_markedRegister, .ref a_up, .ref a_touched, .ref a_todo, .ref a_color, .int o_a_touches, .ref a_painted, .int a_paints])), (a_terms, .inr (11, [.ref a_terms_kind, .ref a_terms_name, .ref a_terms_first, .ref a_terms_many, .ref a_terms_part, .ref a_terms_number, .int a_terms_size, .int a_terms_parts])), (a_terms_kind, .inl (cs 0, a_terms_kind_n, .inl a_terms_kind_f)), (a_terms_name, .inl (cs 0, a_terms_name_n, .inl a_terms_name_f)), (a_terms_first, .inl (cs 0, a_terms_first_n, .inl a_terms_first_f)), (a_terms_many, .inl (cs 0, a_terms_many_n, .inl a_terms_many_f)), (a_terms_part, .inl (cs 0, a_terms_part_n, .inl a_terms_part_f)), (a_terms_number, .inl (cs 2, a_terms_number_n, .inr (.inl a_terms_number_f))), (a_register, .inl (cs 0, a_register_n, .inl a_register_f)), (a_became, .inl (cs 0, a_became_n, .inl a_became_f)), (a_node, .inl (cs 0, a_node_n, .inl a_node_f)), (a_up, .inl (cs 0, a_up_n, .inl o_a_up_f)), (a_touched, .inl (cs 0, a_touched_n, .inl o_a_touched_f)), (a_todo, .inl (cs 0, a_todo_n, .inl o_a_todo_f)), (a_color, .inl (cs 1, a_color_n, .inl o_a_color_f))]) (va_A [(a, .inr (14, [.int a_thrown, .int a_taped, .int a_place, .int a_resulted, .int a_marks, .ref a_tape, .ref a_result, .ref a_terms, .ref a_names, .ref a_reader, .ref a_paper, .ref a_register, .ref a_became, .ref a_node, .ref a_marked, .ref a_markedRegister, .ref a_up, .ref a_touched, .ref a_todo, .ref a_color, .int a_touches, .ref a_painted, .int a_paints])), (a_terms, .inr (11, [.ref a_terms_kind, .ref a_terms_name, .ref a_terms_first, .ref a_terms_many, .ref a_terms_part, .ref a_terms_number, .int a_terms_size, .int a_terms_parts])), (a_terms_kind, .inl (cs 0, a_terms_kind_n, .inl a_terms_kind_f)), (a_terms_name, .inl (cs 0, a_terms_name_n, .inl a_terms_name_f)), (a_terms_first, .inl (cs 0, a_terms_first_n, .inl a_terms_first_f)), (a_terms_many, .inl (cs 0, a_terms_many_n, .inl a_terms_many_f)), (a_terms_part, .inl (cs 0, a_terms_part_n, .inl a_terms_part_f)), (a_terms_number, .inl (cs 2, a_terms_number_n, .inr (.inl a_terms_number_f))), (a_register, .inl (cs 0, a_register_n, .inl a_register_f)), (a_became, .inl (cs 0, a_became_n, .inl a_became_f)), (a_node, .inl (cs 0, a_node_n, .inl a_node_f)), (a_up, .inl (cs 0, a_up_n, .inl a_up_f)), (a_touched, .inl (cs 0, a_touched_n, .inl a_touched_f)), (a_todo, .inl (cs 0, a_todo_n, .inl a_todo_f)), (a_color, .inl (cs 1, a_color_n, .inl a_color_f))] sz)) 0 0 (va_A [(a, .inr (14, [.int a_thrown, .int a_taped, .int a_place, .int a_resulted, .int a_marks, .ref a_tape, .ref a_result, .ref a_terms, .ref a_names, .ref a_reader, .ref a_paper, .ref a_register, .ref a_became, .ref a_node, .ref a_marked, .ref a_markedRegister, .ref a_up, .ref a_touched, .ref a_todo, .ref a_color, .int a_touches, .ref a_painted, .int a_paints])), (a_terms, .inr (11, [.ref a_terms_kind, .ref a_terms_name, .ref a_terms_first, .ref a_terms_many, .ref a_terms_part, .ref a_terms_number, .int a_terms_size, .int a_terms_parts])), (a_terms_kind, .inl (cs 0, a_terms_kind_n, .inl a_terms_kind_f)), (a_terms_name, .inl (cs 0, a_terms_name_n, .inl a_terms_name_f)), (a_terms_first, .inl (cs 0, a_terms_first_n, .inl a_terms_first_f)), (a_terms_many, .inl (cs 0, a_terms_many_n, .inl a_terms_many_f)), (a_terms_part, .inl (cs 0, a_terms_part_n, .inl a_terms_part_f)), (a_terms_number, .inl (cs 2, a_terms_number_n, .inr (.inl a_terms_number_f))), (a_register, .inl (cs 0, a_register_n, .inl a_register_f)), (a_became, .inl (cs 0, a_became_n, .inl a_became_f)), (a_node, .inl (cs 0, a_node_n, .inl a_node_f)), (a_up, .inl (cs 0, a_up_n, .inl a_up_f)), (a_touched, .inl (cs 0, a_touched_n, .inl a_touched_f)), (a_todo, .inl (cs 0, a_todo_n, .inl a_todo_f)), (a_color, .inl (cs 1, a_color_n, .inl a_color_f))] sz) := by
  refine Met.ofW (cc := b_Mo_same) (maxL := 4) (ret := (some .boolean)) (by decide) rfl ?_
  intro p e s m args below meth c s₁ B hml hv
  obtain ⟨rfl, hsz, hP, hK, hD0, hgl, hkn, hkr⟩ := hv
  have hx := B.exec
  have hb := B.bytes
  have hr := B.returns
  have hg : ∀ w ∈ GW, w.before ([.ref a, .int x, .int y] : List Value).toArray s = true := fun w hw => atoms_spec (ws := .code y_Mo_same b_Mo_same 4 (some .boolean) :: GW) B.pre w (List.mem_cons_of_mem _ hw)
  have hown : s.vm.findClass R_Mo = some m.cls := findClass_of_methodNamed B.named
  have hlocks := B.notSynchronized
  subst hsz
  have hD := hD0.self (sz := s.heap.size)
  generalize hAe : va_A [(a, .inr (14, [.int a_thrown, .int a_taped, .int a_place, .int a_resulted, .int a_marks, .ref a_tape, .ref a_result, .ref a_terms, .ref a_names, .ref a_reader, .ref a_paper, .ref a_register, .ref a_became, .ref a_node, .ref a_marked, .ref a_markedRegister, .ref a_up, .ref a_touched, .ref a_todo, .ref a_color, .int a_touches, .ref a_painted, .int a_paints])), (a_terms, .inr (11, [.ref a_terms_kind, .ref a_terms_name, .ref a_terms_first, .ref a_terms_many, .ref a_terms_part, .ref a_terms_number, .int a_terms_size, .int a_terms_parts])), (a_terms_kind, .inl (cs 0, a_terms_kind_n, .inl a_terms_kind_f)), (a_terms_name, .inl (cs 0, a_terms_name_n, .inl a_terms_name_f)), (a_terms_first, .inl (cs 0, a_terms_first_n, .inl a_terms_first_f)), (a_terms_many, .inl (cs 0, a_terms_many_n, .inl a_terms_many_f)), (a_terms_part, .inl (cs 0, a_terms_part_n, .inl a_terms_part_f)), (a_terms_number, .inl (cs 2, a_terms_number_n, .inr (.inl a_terms_number_f))), (a_register, .inl (cs 0, a_register_n, .inl a_register_f)), (a_became, .inl (cs 0, a_became_n, .inl a_became_f)), (a_node, .inl (cs 0, a_node_n, .inl a_node_f)), (a_up, .inl (cs 0, a_up_n, .inl a_up_f)), (a_touched, .inl (cs 0, a_touched_n, .inl a_touched_f)), (a_todo, .inl (cs 0, a_todo_n, .inl a_todo_f)), (a_color, .inl (cs 1, a_color_n, .inl a_color_f))] s.heap.size = A at hD hkn ⊢
  have hA : ∀ q : Nat, s.heap.size ≤ q → A q := fun q h => by rw [← hAe]; exact Or.inr h
  have hS : va_S A s.heap s.heap [] := va_S.rf
  have hP : va_P g classes [(a, .inr (14, [.int a_thrown, .int a_taped, .int a_place, .int a_resulted, .int a_marks, .ref a_tape, .ref a_result, .ref a_terms, .ref a_names, .ref a_reader, .ref a_paper, .ref a_register, .ref a_became, .ref a_node, .ref a_marked, .ref a_markedRegister, .ref a_up, .ref a_touched, .ref a_todo, .ref a_color, .int a_touches, .ref a_painted, .int a_paints])), (a_terms, .inr (11, [.ref a_terms_kind, .ref a_terms_name, .ref a_terms_first, .ref a_terms_many, .ref a_terms_part, .ref a_terms_number, .int a_terms_size, .int a_terms_parts])), (a_terms_kind, .inl (cs 0, a_terms_kind_n, .inl a_terms_kind_f)), (a_terms_name, .inl (cs 0, a_terms_name_n, .inl a_terms_name_f)), (a_terms_first, .inl (cs 0, a_terms_first_n, .inl a_terms_first_f)), (a_terms_many, .inl (cs 0, a_terms_many_n, .inl a_terms_many_f)), (a_terms_part, .inl (cs 0, a_terms_part_n, .inl a_terms_part_f)), (a_terms_number, .inl (cs 2, a_terms_number_n, .inr (.inl a_terms_number_f))), (a_register, .inl (cs 0, a_register_n, .inl a_register_f)), (a_became, .inl (cs 0, a_became_n, .inl a_became_f)), (a_node, .inl (cs 0, a_node_n, .inl a_node_f)), (a_up, .inl (cs 0, a_up_n, .inl a_up_f)), (a_touched, .inl (cs 0, a_touched_n, .inl a_touched_f)), (a_todo, .inl (cs 0, a_todo_n, .inl a_todo_f)), (a_color, .inl (cs 1, a_color_n, .inl a_color_f))] s.heap := hP
  have hl := lv_entry ([.ref a, .int x, .int y]) (n := 4) (Nat.le_of_ble_eq_true rfl)
  rw [lg_entry_eq]
  generalize (lg_sl ([.ref a, .int x, .int y]) ++ List.replicate (4 - (lg_sl ([.ref a, .int x, .int y])).length) Slot.unset).toArray = ls at hl ⊢
  have hl : lv_has ls 4 [(0, .ref a), (1, .int x), (2, .int y)] := hl
  refine gq (fun Q hQ => ?_)
  obtain ⟨H, hH⟩ : ∃ H : Heap, H = s.heap := ⟨_, rfl⟩
  rw [← hH] at hP
  have hS : va_S A s.heap H [] := by rw [hH]; exact hS
  refine W.eqH hH ?_
  obtain ⟨locs, hlc⟩ : ∃ L : List Loc, L = [] := ⟨_, rfl⟩
  rw [← hlc] at hS ⊢
  unfold p_Mo_same at hok
  refine lv_aload_n hx hb d_Mo_same_0 rfl (lv_at hl 0 rfl) ?_
  refine lv_iload_n hx hb d_Mo_same_1 rfl (lv_at hl 1 rfl) ?_
  obtain ⟨r1, hc1, hok⟩ := bd_some hok
  obtain ⟨hPc, hDc, hFc⟩ := cut0 (wc := []) hP hD hS hA [] (by decide) rfl
  refine va_calli (va_runS (As := [.int x]) (rest := [.ref a]) ⟨hx, hb, hml, hown, hg⟩ (c_Mo_none l g cs ka H.size x r1 hc1) (va_cwS 1 hg (gw_S wd_820 wd_821 wd_780 wd_819) rfl rfl rfl (by decide +kernel) ⟨Nat.le_of_ble_eq_true rfl, Nat.le_of_ble_eq_true rfl⟩) ⟨gP_blind, gP_pre hPc hDc hK hgl hkn hkr hS hFc⟩ rfl rfl hl.1 rfl (lv_room (Nat.le_of_ble_eq_true rfl)) d_Mo_same_2 ⟨Nat.le_of_ble_eq_true rfl, Nat.le_of_ble_eq_true rfl⟩) hS (fun q _ h => hFc q h) hFc (fun r1' u t H locs ht hvm hr1 hB hz1 hk1 hS => ?_)
  subst hr1
  rw [ht] at hB
  obtain ⟨hP1, hD1⟩ := hB
  obtain ⟨hP, hD⟩ := jn_A hP hD [] [0, 1, 2, 3, 4, 5, 6, 7, 8, 9, 10, 11, 12, 13, 14] rfl rfl (by decide) (by decide) hk1 hFc hP1 hD1
  obtain ⟨hP, hD⟩ : PD g A H [(a, .inr (14, [.int a_thrown, .int a_taped, .int a_place, .int a_resulted, .int a_marks, .ref a_tape, .ref a_result, .ref a_terms, .ref a_names, .ref a_reader, .ref a_paper, .ref a_register, .ref a_became, .ref a_node, .ref a_marked, .ref a_markedRegister, .ref a_up, .ref a_touched, .ref a_todo, .ref a_color, .int a_touches, .ref a_painted, .int a_paints])), (a_terms, .inr (11, [.ref a_terms_kind, .ref a_terms_name, .ref a_terms_first, .ref a_terms_many, .ref a_terms_part, .ref a_terms_number, .int a_terms_size, .int a_terms_parts])), (a_terms_kind, .inl (cs 0, a_terms_kind_n, .inl a_terms_kind_f)), (a_terms_name, .inl (cs 0, a_terms_name_n, .inl a_terms_name_f)), (a_terms_first, .inl (cs 0, a_terms_first_n, .inl a_terms_first_f)), (a_terms_many, .inl (cs 0, a_terms_many_n, .inl a_terms_many_f)), (a_terms_part, .inl (cs 0, a_terms_part_n, .inl a_terms_part_f)), (a_terms_number, .inl (cs 2, a_terms_number_n, .inr (.inl a_terms_number_f))), (a_register, .inl (cs 0, a_register_n, .inl a_register_f)), (a_became, .inl (cs 0, a_became_n, .inl a_became_f)), (a_node, .inl (cs 0, a_node_n, .inl a_node_f)), (a_up, .inl (cs 0, a_up_n, .inl a_up_f)), (a_touched, .inl (cs 0, a_touched_n, .inl a_touched_f)), (a_todo, .inl (cs 0, a_todo_n, .inl a_todo_f)), (a_color, .inl (cs 1, a_color_n, .inl a_color_f))] := ⟨hP, hD⟩
  have J2 : ∀ (H : Heap) (locs : List Loc) (ls : Array Slot) (y0_2 : Int32), lv_has ls 4 [(0, .ref a), (1, .int x), (2, .int y)] → PD g A H [(a, .inr (14, [.int a_thrown, .int a_taped, .int a_place, .int a_resulted, .int a_marks, .ref a_tape, .ref a_result, .ref a_terms, .ref a_names, .ref a_reader, .ref a_paper, .ref a_register, .ref a_became, .ref a_node, .ref a_marked, .ref a_markedRegister, .ref a_up, .ref a_touched, .ref a_todo, .ref a_color, .int a_touches, .ref a_painted, .int a_paints])), (a_terms, .inr (11, [.ref a_terms_kind, .ref a_terms_name, .ref a_terms_first, .ref a_terms_many, .ref a_terms_part, .ref a_terms_number, .int a_terms_size, .int a_terms_parts])), (a_terms_kind, .inl (cs 0, a_terms_kind_n, .inl a_terms_kind_f)), (a_terms_name, .inl (cs 0, a_terms_name_n, .inl a_terms_name_f)), (a_terms_first, .inl (cs 0, a_terms_first_n, .inl a_terms_first_f)), (a_terms_many, .inl (cs 0, a_terms_many_n, .inl a_terms_many_f)), (a_terms_part, .inl (cs 0, a_terms_part_n, .inl a_terms_part_f)), (a_terms_number, .inl (cs 2, a_terms_number_n, .inr (.inl a_terms_number_f))), (a_register, .inl (cs 0, a_register_n, .inl a_register_f)), (a_became, .inl (cs 0, a_became_n, .inl a_became_f)), (a_node, .inl (cs 0, a_node_n, .inl a_node_f)), (a_up, .inl (cs 0, a_up_n, .inl a_up_f)), (a_touched, .inl (cs 0, a_touched_n, .inl a_touched_f)), (a_todo, .inl (cs 0, a_todo_n, .inl a_todo_f)), (a_color, .inl (cs 1, a_color_n, .inl a_color_f))] → va_S A s.heap H locs → p_Mo_same_20 n x y a_taped a_place a_resulted a_marks a_touches a_paints a_terms_size a_terms_parts a_terms_kind_n a_terms_kind_f a_terms_name_n a_terms_name_f a_terms_first_n a_terms_first_f a_terms_many_n a_terms_many_f a_terms_part_n a_terms_part_f a_terms_number_n a_terms_number_f a_register_n a_register_f a_became_n a_became_f a_node_n a_node_f a_up_n a_up_f a_touched_n a_touched_f a_todo_n a_todo_f a_color_n a_color_f y0_2 = some (r, o_a_thrown, o_a_touches, o_a_up_f, o_a_touched_f, o_a_todo_f, o_a_color_f) → W p l e (headSpec (.code y_Mo_same b_Mo_same 4 (some .boolean) :: GW) { frames := 3, cells := 0, slots := 0, locals := 74 }).room s m ([.ref a, .int x, .int y] : List Value).toArray below meth c H locs 0 0 Q (F0 m 20 ls [.int y0_2, .ref a]) := by
    intro H locs ls y0_2 hl ⟨hP, hD⟩ hS hok
    unfold p_Mo_same_20 at hok
    refine va_put (D := g) (ci := 14) (v := .int y0_2) (ty := .int) (C := R_Mo) (T := F_Mo) (N := 23) hx hb hg ul_Mo t_Mo tk_Mo n_Mo hown hK hP hD hS 0 rfl rfl 0 (by decide) (hg _ wd_776) (fun _ h9 => h9) rfl (by decide +kernel) rfl rfl (Nat.le_of_ble_eq_true rfl) d_Mo_same_20 (fun H locs hP hD hS => ?_)
    obtain ⟨hP, hD⟩ : PD g A H [(a, .inr (14, [.int y0_2, .int a_taped, .int a_place, .int a_resulted, .int a_marks, .ref a_tape, .ref a_result, .ref a_terms, .ref a_names, .ref a_reader, .ref a_paper, .ref a_register, .ref a_became, .ref a_node, .ref a_marked, .ref a_markedRegister, .ref a_up, .ref a_touched, .ref a_todo, .ref a_color, .int a_touches, .ref a_painted, .int a_paints])), (a_terms, .inr (11, [.ref a_terms_kind, .ref a_terms_name, .ref a_terms_first, .ref a_terms_many, .ref a_terms_part, .ref a_terms_number, .int a_terms_size, .int a_terms_parts])), (a_terms_kind, .inl (cs 0, a_terms_kind_n, .inl a_terms_kind_f)), (a_terms_name, .inl (cs 0, a_terms_name_n, .inl a_terms_name_f)), (a_terms_first, .inl (cs 0, a_terms_first_n, .inl a_terms_first_f)), (a_terms_many, .inl (cs 0, a_terms_many_n, .inl a_terms_many_f)), (a_terms_part, .inl (cs 0, a_terms_part_n, .inl a_terms_part_f)), (a_terms_number, .inl (cs 2, a_terms_number_n, .inr (.inl a_terms_number_f))), (a_register, .inl (cs 0, a_register_n, .inl a_register_f)), (a_became, .inl (cs 0, a_became_n, .inl a_became_f)), (a_node, .inl (cs 0, a_node_n, .inl a_node_f)), (a_up, .inl (cs 0, a_up_n, .inl a_up_f)), (a_touched, .inl (cs 0, a_touched_n, .inl a_touched_f)), (a_todo, .inl (cs 0, a_todo_n, .inl a_todo_f)), (a_color, .inl (cs 1, a_color_n, .inl a_color_f))] := ⟨hP, hD⟩
    refine lv_aload_n hx hb d_Mo_same_23 rfl (lv_at hl 0 rfl) ?_
    refine va_get (D := g) (ci := 14) (v := .int y0_2) (C := R_Mo) (T := F_Mo) (N := 23) hx hb hg ul_Mo hown hK hP 0 rfl rfl 0 (by decide) (hg _ wd_776) (fun _ h9 => h9) rfl d_Mo_same_24 ?_
    refine lv_if_le hx hb d_Mo_same_27 rfl (fun h3 => ?_) (fun h3 => ?_)
    · rw [if_pos h3] at hok
      refine lv_aload_n hx hb d_Mo_same_32 rfl (lv_at hl 0 rfl) ?_
      refine lv_aload_n hx hb d_Mo_same_33 rfl (lv_at hl 0 rfl) ?_
      refine va_get (D := g) (ci := 14) (v := .ref a_register) (C := R_Mo) (T := F_Mo) (N := 23) hx hb hg ul_Mo hown hK hP 0 rfl rfl 11 (by decide) (hg _ wd_822) (fun _ h9 => h9) rfl d_Mo_same_34 ?_
      refine lv_iload_n hx hb d_Mo_same_37 rfl (lv_at hl 1 rfl) ?_
      obtain ⟨hi4, hok⟩ := ck_some hok
      refine va_iald hx hb hK hP 8 0 rfl rfl (ixb_in hi4) d_Mo_same_38 ?_
      refine lv_aload_n hx hb d_Mo_same_39 rfl (lv_at hl 0 rfl) ?_
      refine va_get (D := g) (ci := 14) (v := .ref a_register) (C := R_Mo) (T := F_Mo) (N := 23) hx hb hg ul_Mo hown hK hP 0 rfl rfl 11 (by decide) (hg _ wd_822) (fun _ h9 => h9) rfl d_Mo_same_40 ?_
      refine lv_iload_n hx hb d_Mo_same_43 rfl (lv_at hl 2 rfl) ?_
      obtain ⟨hi5, hok⟩ := ck_some hok
      refine va_iald hx hb hK hP 8 0 rfl rfl (ixb_in hi5) d_Mo_same_44 ?_
      refine lv_iconst (v := 1) hx hb d_Mo_same_45 (by decide) ?_
      obtain ⟨⟨r6, a_touches_6, a_up_f_6, a_touched_f_6, a_todo_f_6⟩, hc6, hok⟩ := bd_some hok
      dsimp only at hok
      obtain ⟨hPc, hDc, hFc⟩ := cut0 (wc := [(a, .inr (14, [.int y0_2, .int a_taped, .int a_place, .int a_resulted, .int a_marks, .ref a_tape, .ref a_result, .ref a_terms, .ref a_names, .ref a_reader, .ref a_paper, .ref a_register, .ref a_became, .ref a_node, .ref a_marked, .ref a_markedRegister, .ref a_up, .ref a_touched, .ref a_todo, .ref a_color, .int a_touches, .ref a_painted, .int a_paints])), (a_terms, .inr (11, [.ref a_terms_kind, .ref a_terms_name, .ref a_terms_first, .ref a_terms_many, .ref a_terms_part, .ref a_terms_number, .int a_terms_size, .int a_terms_parts])), (a_terms_kind, .inl (cs 0, a_terms_kind_n, .inl a_terms_kind_f)), (a_terms_name, .inl (cs 0, a_terms_name_n, .inl a_terms_name_f)), (a_terms_first, .inl (cs 0, a_terms_first_n, .inl a_terms_first_f)), (a_terms_many, .inl (cs 0, a_terms_many_n, .inl a_terms_many_f)), (a_terms_part, .inl (cs 0, a_terms_part_n, .inl a_terms_part_f)), (a_terms_number, .inl (cs 2, a_terms_number_n, .inr (.inl a_terms_number_f))), (a_became, .inl (cs 0, a_became_n, .inl a_became_f)), (a_node, .inl (cs 0, a_node_n, .inl a_node_f)), (a_up, .inl (cs 0, a_up_n, .inl a_up_f)), (a_touched, .inl (cs 0, a_touched_n, .inl a_touched_f)), (a_todo, .inl (cs 0, a_todo_n, .inl a_todo_f))]) hP hD hS hA [0, 1, 2, 3, 4, 5, 6, 7, 9, 10, 11, 12, 13] (by decide) rfl
      refine va_calli (va_runV (As := [.int (a_register_f x.toNatClampNeg), .int (a_register_f y.toNatClampNeg), .int 1]) (rest := []) ⟨hx, hb, hml, hown, hg⟩ (c_Mo_classes l g cs ka a_tape a_result a_names a_reader a_paper a_register a_marked a_markedRegister a_color a_painted a a_terms a_terms_kind a_terms_name a_terms_first a_terms_many a_terms_part a_terms_number a_became a_node a_up a_touched a_todo H.size n (a_register_f x.toNatClampNeg) (a_register_f y.toNatClampNeg) (1 : Int32) y0_2 a_taped a_place a_resulted a_marks a_touches a_paints a_terms_size a_terms_parts a_terms_kind_n a_terms_kind_f a_terms_name_n a_terms_name_f a_terms_first_n a_terms_first_f a_terms_many_n a_terms_many_f a_terms_part_n a_terms_part_f a_terms_number_n a_terms_number_f a_became_n a_became_f a_node_n a_node_f a_up_n a_up_f a_touched_n a_touched_f a_todo_n a_todo_f r6 a_touches_6 a_up_f_6 a_touched_f_6 a_todo_f_6 hc6) (cwV (C := R_Mo) 3 hg (gw_V wd_824 wd_825 wd_826 wd_780 wd_823) rfl rfl rfl (by decide +kernel) ⟨Nat.le_of_ble_eq_true rfl, Nat.le_of_ble_eq_true rfl⟩) ⟨gP_blind, va_recv (q0 := 0) (ci := 14) (q := (R_Mo, F_Mo, 23)) hK hP rfl rfl, gP_pre hPc hDc hK hgl hkn hkr hS hFc⟩ rfl rfl hl.1 rfl (lv_room (Nat.le_of_ble_eq_true rfl)) d_Mo_same_46 ⟨Nat.le_of_ble_eq_true rfl, Nat.le_of_ble_eq_true rfl⟩) hS (fun q _ h => hFc q h) hFc (fun r6' u t H locs ht hvm hr6 hB hz1 hk1 hS => ?_)
      subst hr6
      rw [ht] at hB
      obtain ⟨hP1, hD1⟩ := hB
      obtain ⟨hP, hD⟩ := jn_A hP hD [0, 1, 2, 3, 4, 5, 6, 7, 9, 10, 11, 12, 13] [8, 14] rfl rfl (by decide) (by decide) hk1 hFc hP1 hD1
      obtain ⟨hP, hD⟩ : PD g A H [(a_register, .inl (cs 0, a_register_n, .inl a_register_f)), (a_color, .inl (cs 1, a_color_n, .inl a_color_f)), (a, .inr (14, [.int y0_2, .int a_taped, .int a_place, .int a_resulted, .int a_marks, .ref a_tape, .ref a_result, .ref a_terms, .ref a_names, .ref a_reader, .ref a_paper, .ref a_register, .ref a_became, .ref a_node, .ref a_marked, .ref a_markedRegister, .ref a_up, .ref a_touched, .ref a_todo, .ref a_color, .int a_touches_6, .ref a_painted, .int a_paints])), (a_terms, .inr (11, [.ref a_terms_kind, .ref a_terms_name, .ref a_terms_first, .ref a_terms_many, .ref a_terms_part, .ref a_terms_number, .int a_terms_size, .int a_terms_parts])), (a_terms_kind, .inl (cs 0, a_terms_kind_n, .inl a_terms_kind_f)), (a_terms_name, .inl (cs 0, a_terms_name_n, .inl a_terms_name_f)), (a_terms_first, .inl (cs 0, a_terms_first_n, .inl a_terms_first_f)), (a_terms_many, .inl (cs 0, a_terms_many_n, .inl a_terms_many_f)), (a_terms_part, .inl (cs 0, a_terms_part_n, .inl a_terms_part_f)), (a_terms_number, .inl (cs 2, a_terms_number_n, .inr (.inl a_terms_number_f))), (a_became, .inl (cs 0, a_became_n, .inl a_became_f)), (a_node, .inl (cs 0, a_node_n, .inl a_node_f)), (a_up, .inl (cs 0, a_up_n, .inl a_up_f_6)), (a_touched, .inl (cs 0, a_touched_n, .inl a_touched_f_6)), (a_todo, .inl (cs 0, a_todo_n, .inl a_todo_f_6))] := ⟨hP, hD⟩
      refine lv_istore_n hx hb d_Mo_same_49 rfl hl (by decide) rfl (fun ls hl => ?_)
      have hl : lv_has ls 4 [(3, .int r6), (0, .ref a), (1, .int x), (2, .int y)] := hl
      refine lv_aload_n hx hb d_Mo_same_50 rfl (lv_at hl 1 rfl) ?_
      obtain ⟨⟨a_touches_7, a_up_f_7, a_color_f_7⟩, hc7, hok⟩ := bd_some hok
      dsimp only at hok
      obtain ⟨hPc, hDc, hFc⟩ := cut0 (wc := [(a, .inr (14, [.int y0_2, .int a_taped, .int a_place, .int a_resulted, .int a_marks, .ref a_tape, .ref a_result, .ref a_terms, .ref a_names, .ref a_reader, .ref a_paper, .ref a_register, .ref a_became, .ref a_node, .ref a_marked, .ref a_markedRegister, .ref a_up, .ref a_touched, .ref a_todo, .ref a_color, .int a_touches_6, .ref a_painted, .int a_paints])), (a_up, .inl (cs 0, a_up_n, .inl a_up_f_6)), (a_touched, .inl (cs 0, a_touched_n, .inl a_touched_f_6)), (a_color, .inl (cs 1, a_color_n, .inl a_color_f))]) hP hD hS hA [2, 12, 13, 1] (by decide) rfl
      refine va_callv (va_runV (As := []) (rest := []) ⟨hx, hb, hml, hown, hg⟩ (c_Mo_part_ l g cs ka a_tape a_result a_terms a_names a_reader a_paper a_register a_became a_node a_marked a_markedRegister a_todo a_painted a a_up a_touched a_color H.size n y0_2 a_taped a_place a_resulted a_marks a_touches_6 a_paints a_up_n a_up_f_6 a_touched_n a_touched_f_6 a_color_n a_color_f a_touches_7 a_up_f_7 a_color_f_7 hc7) (cwV (C := R_Mo) 0 hg (gw_V wd_828 wd_829 wd_830 wd_780 wd_827) rfl rfl rfl (by decide +kernel) ⟨Nat.le_of_ble_eq_true rfl, Nat.le_of_ble_eq_true rfl⟩) ⟨gP_blind, va_recv (q0 := 2) (ci := 14) (q := (R_Mo, F_Mo, 23)) hK hP rfl rfl, gP_pre hPc hDc hK hgl hkn hkr hS hFc⟩ rfl rfl hl.1 rfl (lv_room (Nat.le_of_ble_eq_true rfl)) d_Mo_same_51 ⟨Nat.le_of_ble_eq_true rfl, Nat.le_of_ble_eq_true rfl⟩) hS (fun q _ h => hFc q h) hFc (fun u t H locs ht hvm hr7 hB hz1 hk1 hS => ?_)
      rw [ht] at hB
      obtain ⟨hP1, hD1⟩ := hB
      obtain ⟨hP, hD⟩ := jn_A hP hD [2, 12, 13, 1] [0, 3, 4, 5, 6, 7, 8, 9, 10, 11, 14] rfl rfl (by decide) (by decide) hk1 hFc hP1 hD1
      obtain ⟨hP, hD⟩ : PD g A H [(a_register, .inl (cs 0, a_register_n, .inl a_register_f)), (a_terms, .inr (11, [.ref a_terms_kind, .ref a_terms_name, .ref a_terms_first, .ref a_terms_many, .ref a_terms_part, .ref a_terms_number, .int a_terms_size, .int a_terms_parts])), (a_terms_kind, .inl (cs 0, a_terms_kind_n, .inl a_terms_kind_f)), (a_terms_name, .inl (cs 0, a_terms_name_n, .inl a_terms_name_f)), (a_terms_first, .inl (cs 0, a_terms_first_n, .inl a_terms_first_f)), (a_terms_many, .inl (cs 0, a_terms_many_n, .inl a_terms_many_f)), (a_terms_part, .inl (cs 0, a_terms_part_n, .inl a_terms_part_f)), (a_terms_number, .inl (cs 2, a_terms_number_n, .inr (.inl a_terms_number_f))), (a_became, .inl (cs 0, a_became_n, .inl a_became_f)), (a_node, .inl (cs 0, a_node_n, .inl a_node_f)), (a_todo, .inl (cs 0, a_todo_n, .inl a_todo_f_6)), (a, .inr (14, [.int y0_2, .int a_taped, .int a_place, .int a_resulted, .int a_marks, .ref a_tape, .ref a_result, .ref a_terms, .ref a_names, .ref a_reader, .ref a_paper, .ref a_register, .ref a_became, .ref a_node, .ref a_marked, .ref a_markedRegister, .ref a_up, .ref a_touched, .ref a_todo, .ref a_color, .int a_touches_7, .ref a_painted, .int a_paints])), (a_up, .inl (cs 0, a_up_n, .inl a_up_f_7)), (a_touched, .inl (cs 0, a_touched_n, .inl a_touched_f_6)), (a_color, .inl (cs 1, a_color_n, .inl a_color_f_7))] := ⟨hP, hD⟩
      refine lv_iload_n hx hb d_Mo_same_54 rfl (lv_at hl 0 rfl) ?_
      obtain ⟨hzb, hok⟩ := ck_some hok
      have hq := Option.some.inj hok
      obtain ⟨hq0, hq⟩ := Prod.mk.inj hq
      obtain ⟨hq1, hq⟩ := Prod.mk.inj hq
      obtain ⟨hq2, hq⟩ := Prod.mk.inj hq
      obtain ⟨hq3, hq⟩ := Prod.mk.inj hq
      obtain ⟨hq4, hq⟩ := Prod.mk.inj hq
      obtain ⟨hq5, hq⟩ := Prod.mk.inj hq
      have hq6 := hq
      subst hq0
      subst hq1
      subst hq2
      subst hq3
      subst hq4
      subst hq5
      subst hq6
      obtain ⟨hP9, hD9⟩ := sub2 (ws' := [(a, .inr (14, [.int y0_2, .int a_taped, .int a_place, .int a_resulted, .int a_marks, .ref a_tape, .ref a_result, .ref a_terms, .ref a_names, .ref a_reader, .ref a_paper, .ref a_register, .ref a_became, .ref a_node, .ref a_marked, .ref a_markedRegister, .ref a_up, .ref a_touched, .ref a_todo, .ref a_color, .int a_touches_7, .ref a_painted, .int a_paints])), (a_terms, .inr (11, [.ref a_terms_kind, .ref a_terms_name, .ref a_terms_first, .ref a_terms_many, .ref a_terms_part, .ref a_terms_number, .int a_terms_size, .int a_terms_parts])), (a_terms_kind, .inl (cs 0, a_terms_kind_n, .inl a_terms_kind_f)), (a_terms_name, .inl (cs 0, a_terms_name_n, .inl a_terms_name_f)), (a_terms_first, .inl (cs 0, a_terms_first_n, .inl a_terms_first_f)), (a_terms_many, .inl (cs 0, a_terms_many_n, .inl a_terms_many_f)), (a_terms_part, .inl (cs 0, a_terms_part_n, .inl a_terms_part_f)), (a_terms_number, .inl (cs 2, a_terms_number_n, .inr (.inl a_terms_number_f))), (a_register, .inl (cs 0, a_register_n, .inl a_register_f)), (a_became, .inl (cs 0, a_became_n, .inl a_became_f)), (a_node, .inl (cs 0, a_node_n, .inl a_node_f)), (a_up, .inl (cs 0, a_up_n, .inl a_up_f_7)), (a_touched, .inl (cs 0, a_touched_n, .inl a_touched_f_6)), (a_todo, .inl (cs 0, a_todo_n, .inl a_todo_f_6)), (a_color, .inl (cs 1, a_color_n, .inl a_color_f_7))]) hP hD [11, 1, 2, 3, 4, 5, 6, 7, 0, 8, 9, 12, 13, 10, 14] rfl (by decide) rfl
      rw [hQ]
      exact W.zret (v := r6) hx hb hr (zab_in hzb).1 (fun t ht hW => ⟨⟨_, (), rfl, rfl, by rw [ht]; exact hP9, hD9⟩, hS.F ht⟩) hS.2.2 d_Mo_same_55
    · rw [if_neg h3] at hok
      refine lv_iconst (v := 0) hx hb d_Mo_same_30 (by decide) ?_
      have hq := Option.some.inj hok
      obtain ⟨hq0, hq⟩ := Prod.mk.inj hq
      obtain ⟨hq1, hq⟩ := Prod.mk.inj hq
      obtain ⟨hq2, hq⟩ := Prod.mk.inj hq
      obtain ⟨hq3, hq⟩ := Prod.mk.inj hq
      obtain ⟨hq4, hq⟩ := Prod.mk.inj hq
      obtain ⟨hq5, hq⟩ := Prod.mk.inj hq
      have hq6 := hq
      subst hq0
      subst hq1
      subst hq2
      subst hq3
      subst hq4
      subst hq5
      subst hq6
      obtain ⟨hP9, hD9⟩ := sub2 (ws' := [(a, .inr (14, [.int y0_2, .int a_taped, .int a_place, .int a_resulted, .int a_marks, .ref a_tape, .ref a_result, .ref a_terms, .ref a_names, .ref a_reader, .ref a_paper, .ref a_register, .ref a_became, .ref a_node, .ref a_marked, .ref a_markedRegister, .ref a_up, .ref a_touched, .ref a_todo, .ref a_color, .int a_touches, .ref a_painted, .int a_paints])), (a_terms, .inr (11, [.ref a_terms_kind, .ref a_terms_name, .ref a_terms_first, .ref a_terms_many, .ref a_terms_part, .ref a_terms_number, .int a_terms_size, .int a_terms_parts])), (a_terms_kind, .inl (cs 0, a_terms_kind_n, .inl a_terms_kind_f)), (a_terms_name, .inl (cs 0, a_terms_name_n, .inl a_terms_name_f)), (a_terms_first, .inl (cs 0, a_terms_first_n, .inl a_terms_first_f)), (a_terms_many, .inl (cs 0, a_terms_many_n, .inl a_terms_many_f)), (a_terms_part, .inl (cs 0, a_terms_part_n, .inl a_terms_part_f)), (a_terms_number, .inl (cs 2, a_terms_number_n, .inr (.inl a_terms_number_f))), (a_register, .inl (cs 0, a_register_n, .inl a_register_f)), (a_became, .inl (cs 0, a_became_n, .inl a_became_f)), (a_node, .inl (cs 0, a_node_n, .inl a_node_f)), (a_up, .inl (cs 0, a_up_n, .inl a_up_f)), (a_touched, .inl (cs 0, a_touched_n, .inl a_touched_f)), (a_todo, .inl (cs 0, a_todo_n, .inl a_todo_f)), (a_color, .inl (cs 1, a_color_n, .inl a_color_f))]) hP hD [0, 1, 2, 3, 4, 5, 6, 7, 8, 9, 10, 11, 12, 13, 14] rfl (by decide) rfl
      rw [hQ]
      exact W.zret (v := 0) hx hb hr rfl (fun t ht hW => ⟨⟨_, (), rfl, rfl, by rw [ht]; exact hP9, hD9⟩, hS.F ht⟩) hS.2.2 d_Mo_same_31
  have J8 : ∀ (H : Heap) (locs : List Loc) (ls : Array Slot), lv_has ls 4 [(0, .ref a), (1, .int x), (2, .int y)] → PD g A H [(a, .inr (14, [.int a_thrown, .int a_taped, .int a_place, .int a_resulted, .int a_marks, .ref a_tape, .ref a_result, .ref a_terms, .ref a_names, .ref a_reader, .ref a_paper, .ref a_register, .ref a_became, .ref a_node, .ref a_marked, .ref a_markedRegister, .ref a_up, .ref a_touched, .ref a_todo, .ref a_color, .int a_touches, .ref a_painted, .int a_paints])), (a_terms, .inr (11, [.ref a_terms_kind, .ref a_terms_name, .ref a_terms_first, .ref a_terms_many, .ref a_terms_part, .ref a_terms_number, .int a_terms_size, .int a_terms_parts])), (a_terms_kind, .inl (cs 0, a_terms_kind_n, .inl a_terms_kind_f)), (a_terms_name, .inl (cs 0, a_terms_name_n, .inl a_terms_name_f)), (a_terms_first, .inl (cs 0, a_terms_first_n, .inl a_terms_first_f)), (a_terms_many, .inl (cs 0, a_terms_many_n, .inl a_terms_many_f)), (a_terms_part, .inl (cs 0, a_terms_part_n, .inl a_terms_part_f)), (a_terms_number, .inl (cs 2, a_terms_number_n, .inr (.inl a_terms_number_f))), (a_register, .inl (cs 0, a_register_n, .inl a_register_f)), (a_became, .inl (cs 0, a_became_n, .inl a_became_f)), (a_node, .inl (cs 0, a_node_n, .inl a_node_f)), (a_up, .inl (cs 0, a_up_n, .inl a_up_f)), (a_touched, .inl (cs 0, a_touched_n, .inl a_touched_f)), (a_todo, .inl (cs 0, a_todo_n, .inl a_todo_f)), (a_color, .inl (cs 1, a_color_n, .inl a_color_f))] → va_S A s.heap H locs → p_Mo_same_15 n x y a_taped a_place a_resulted a_marks a_touches a_paints a_terms_size a_terms_parts a_terms_kind_n a_terms_kind_f a_terms_name_n a_terms_name_f a_terms_first_n a_terms_first_f a_terms_many_n a_terms_many_f a_terms_part_n a_terms_part_f a_terms_number_n a_terms_number_f a_register_n a_register_f a_became_n a_became_f a_node_n a_node_f a_up_n a_up_f a_touched_n a_touched_f a_todo_n a_todo_f a_color_n a_color_f = some (r, o_a_thrown, o_a_touches, o_a_up_f, o_a_touched_f, o_a_todo_f, o_a_color_f) → W p l e (headSpec (.code y_Mo_same b_Mo_same 4 (some .boolean) :: GW) { frames := 3, cells := 0, slots := 0, locals := 74 }).room s m ([.ref a, .int x, .int y] : List Value).toArray below meth c H locs 0 0 Q (F0 m 15 ls [.ref a]) := by
    intro H locs ls hl ⟨hP, hD⟩ hS hok
    unfold p_Mo_same_15 at hok
    refine lv_iconst (v := 1) hx hb d_Mo_same_15 (by decide) ?_
    refine lv_goto hx hb d_Mo_same_16 rfl ?_
    exact J2 _ _ _ (1 : Int32) (lv_sub hl [0, 1, 2] rfl) (sub3 hP hD [0, 1, 2, 3, 4, 5, 6, 7, 8, 9, 10, 11, 12, 13, 14] (by decide)) hS hok
  refine lv_if_ne hx hb d_Mo_same_5 rfl (fun h9 => ?_) (fun h9 => ?_)
  · rw [if_neg h9] at hok
    exact J8 _ _ _ (lv_sub hl [0, 1, 2] rfl) (sub3 hP hD [0, 1, 2, 3, 4, 5, 6, 7, 8, 9, 10, 11, 12, 13, 14] (by decide)) hS hok
  · rw [if_pos h9] at hok
    refine lv_iload_n hx hb d_Mo_same_8 rfl (lv_at hl 2 rfl) ?_
    obtain ⟨r10, hc10, hok⟩ := bd_some hok
    obtain ⟨hPc, hDc, hFc⟩ := cut0 (wc := []) hP hD hS hA [] (by decide) rfl
    refine va_calli (va_runS (As := [.int y]) (rest := [.ref a]) ⟨hx, hb, hml, hown, hg⟩ (c_Mo_none l g cs ka H.size y r10 hc10) (va_cwS 1 hg (gw_S wd_820 wd_821 wd_780 wd_819) rfl rfl rfl (by decide +kernel) ⟨Nat.le_of_ble_eq_true rfl, Nat.le_of_ble_eq_true rfl⟩) ⟨gP_blind, gP_pre hPc hDc hK hgl hkn hkr hS hFc⟩ rfl rfl hl.1 rfl (lv_room (Nat.le_of_ble_eq_true rfl)) d_Mo_same_9 ⟨Nat.le_of_ble_eq_true rfl, Nat.le_of_ble_eq_true rfl⟩) hS (fun q _ h => hFc q h) hFc (fun r10' u t H locs ht hvm hr10 hB hz1 hk1 hS => ?_)
    subst hr10
    rw [ht] at hB
    obtain ⟨hP1, hD1⟩ := hB
    obtain ⟨hP, hD⟩ := jn_A hP hD [] [0, 1, 2, 3, 4, 5, 6, 7, 8, 9, 10, 11, 12, 13, 14] rfl rfl (by decide) (by decide) hk1 hFc hP1 hD1
    obtain ⟨hP, hD⟩ : PD g A H [(a, .inr (14, [.int a_thrown, .int a_taped, .int a_place, .int a_resulted, .int a_marks, .ref a_tape, .ref a_result, .ref a_terms, .ref a_names, .ref a_reader, .ref a_paper, .ref a_register, .ref a_became, .ref a_node, .ref a_marked, .ref a_markedRegister, .ref a_up, .ref a_touched, .ref a_todo, .ref a_color, .int a_touches, .ref a_painted, .int a_paints])), (a_terms, .inr (11, [.ref a_terms_kind, .ref a_terms_name, .ref a_terms_first, .ref a_terms_many, .ref a_terms_part, .ref a_terms_number, .int a_terms_size, .int a_terms_parts])), (a_terms_kind, .inl (cs 0, a_terms_kind_n, .inl a_terms_kind_f)), (a_terms_name, .inl (cs 0, a_terms_name_n, .inl a_terms_name_f)), (a_terms_first, .inl (cs 0, a_terms_first_n, .inl a_terms_first_f)), (a_terms_many, .inl (cs 0, a_terms_many_n, .inl a_terms_many_f)), (a_terms_part, .inl (cs 0, a_terms_part_n, .inl a_terms_part_f)), (a_terms_number, .inl (cs 2, a_terms_number_n, .inr (.inl a_terms_number_f))), (a_register, .inl (cs 0, a_register_n, .inl a_register_f)), (a_became, .inl (cs 0, a_became_n, .inl a_became_f)), (a_node, .inl (cs 0, a_node_n, .inl a_node_f)), (a_up, .inl (cs 0, a_up_n, .inl a_up_f)), (a_touched, .inl (cs 0, a_touched_n, .inl a_touched_f)), (a_todo, .inl (cs 0, a_todo_n, .inl a_todo_f)), (a_color, .inl (cs 1, a_color_n, .inl a_color_f))] := ⟨hP, hD⟩
    refine lv_if_eq hx hb d_Mo_same_12 rfl (fun h11 => ?_) (fun h11 => ?_)
    · rw [if_pos h11] at hok
      refine lv_iconst (v := 0) hx hb d_Mo_same_19 (by decide) ?_
      exact J2 _ _ _ (0 : Int32) (lv_sub hl [0, 1, 2] rfl) (sub3 hP hD [0, 1, 2, 3, 4, 5, 6, 7, 8, 9, 10, 11, 12, 13, 14] (by decide)) hS hok
    · rw [if_neg h11] at hok
      exact J8 _ _ _ (lv_sub hl [0, 1, 2] rfl) (sub3 hP hD [0, 1, 2, 3, 4, 5, 6, 7, 8, 9, 10, 11, 12, 13, 14] (by decide)) hS hok

theorem d_Mo_part_III_0 : decode b_Mo_part_III 0 = .ok (.aload_n 0, 1) := by decide +kernel
theorem d_Mo_part_III_1 : decode b_Mo_part_III 1 = .ok (.iload_n 1, 1) := by decide +kernel
theorem d_Mo_part_III_2 : decode b_Mo_part_III 2 = .ok (.invokestatic 124, 3) := by decide +kernel
theorem d_Mo_part_III_5 : decode b_Mo_part_III 5 = .ok (.ifCond .ne 15, 3) := by decide +kernel
theorem d_Mo_part_III_8 : decode b_Mo_part_III 8 = .ok (.iload_n 2, 1) := by decide +kernel
theorem d_Mo_part_III_9 : decode b_Mo_part_III 9 = .ok (.invokestatic 124, 3) := by decide +kernel
theorem d_Mo_part_III_12 : decode b_Mo_part_III 12 = .ok (.ifCond .ne 8, 3) := by decide +kernel
theorem d_Mo_part_III_15 : decode b_Mo_part_III 15 = .ok (.iload_n 3, 1) := by decide +kernel
theorem d_Mo_part_III_16 : decode b_Mo_part_III 16 = .ok (.iconst 1, 1) := by decide +kernel
theorem d_Mo_part_III_17 : decode b_Mo_part_III 17 = .ok (.if_icmp .ge 7, 3) := by decide +kernel
theorem d_Mo_part_III_20 : decode b_Mo_part_III 20 = .ok (.iconst 1, 1) := by decide +kernel
theorem d_Mo_part_III_21 : decode b_Mo_part_III 21 = .ok (.goto 4, 3) := by decide +kernel
theorem d_Mo_part_III_24 : decode b_Mo_part_III 24 = .ok (.iconst 0, 1) := by decide +kernel
theorem d_Mo_part_III_25 : decode b_Mo_part_III 25 = .ok (.putfield 91, 3) := by decide +kernel
theorem d_Mo_part_III_28 : decode b_Mo_part_III 28 = .ok (.aload_n 0, 1) := by decide +kernel
theorem d_Mo_part_III_29 : decode b_Mo_part_III 29 = .ok (.getfield 91, 3) := by decide +kernel
theorem d_Mo_part_III_32 : decode b_Mo_part_III 32 = .ok (.ifCond .le 4, 3) := by decide +kernel
theorem d_Mo_part_III_35 : decode b_Mo_part_III 35 = .ok (.return_, 1) := by decide +kernel
theorem d_Mo_part_III_36 : decode b_Mo_part_III 36 = .ok (.aload_n 0, 1) := by decide +kernel
theorem d_Mo_part_III_37 : decode b_Mo_part_III 37 = .ok (.aload_n 0, 1) := by decide +kernel
theorem d_Mo_part_III_38 : decode b_Mo_part_III 38 = .ok (.getfield 50, 3) := by decide +kernel
theorem d_Mo_part_III_41 : decode b_Mo_part_III 41 = .ok (.iload_n 2, 1) := by decide +kernel
theorem d_Mo_part_III_42 : decode b_Mo_part_III 42 = .ok (.iaload, 1) := by decide +kernel
theorem d_Mo_part_III_43 : decode b_Mo_part_III 43 = .ok (.invokevirtual 139, 3) := by decide +kernel
theorem d_Mo_part_III_46 : decode b_Mo_part_III 46 = .ok (.istore 4, 2) := by decide +kernel
theorem d_Mo_part_III_48 : decode b_Mo_part_III 48 = .ok (.aload_n 0, 1) := by decide +kernel
theorem d_Mo_part_III_49 : decode b_Mo_part_III 49 = .ok (.getfield 23, 3) := by decide +kernel
theorem d_Mo_part_III_52 : decode b_Mo_part_III 52 = .ok (.getfield 133, 3) := by decide +kernel
theorem d_Mo_part_III_55 : decode b_Mo_part_III 55 = .ok (.iload 4, 2) := by decide +kernel
theorem d_Mo_part_III_57 : decode b_Mo_part_III 57 = .ok (.iaload, 1) := by decide +kernel
theorem d_Mo_part_III_58 : decode b_Mo_part_III 58 = .ok (.iconst 2, 1) := by decide +kernel
theorem d_Mo_part_III_59 : decode b_Mo_part_III 59 = .ok (.if_icmp .ne 17, 3) := by decide +kernel
theorem d_Mo_part_III_62 : decode b_Mo_part_III 62 = .ok (.iload_n 3, 1) := by decide +kernel
theorem d_Mo_part_III_63 : decode b_Mo_part_III 63 = .ok (.aload_n 0, 1) := by decide +kernel
theorem d_Mo_part_III_64 : decode b_Mo_part_III 64 = .ok (.getfield 23, 3) := by decide +kernel
theorem d_Mo_part_III_67 : decode b_Mo_part_III 67 = .ok (.getfield 156, 3) := by decide +kernel
theorem d_Mo_part_III_70 : decode b_Mo_part_III 70 = .ok (.iload 4, 2) := by decide +kernel
theorem d_Mo_part_III_72 : decode b_Mo_part_III 72 = .ok (.iaload, 1) := by decide +kernel
theorem d_Mo_part_III_73 : decode b_Mo_part_III 73 = .ok (.if_icmp .le 11, 3) := by decide +kernel
theorem d_Mo_part_III_76 : decode b_Mo_part_III 76 = .ok (.aload_n 0, 1) := by decide +kernel
theorem d_Mo_part_III_77 : decode b_Mo_part_III 77 = .ok (.iconst 2, 1) := by decide +kernel
theorem d_Mo_part_III_78 : decode b_Mo_part_III 78 = .ok (.putfield 91, 3) := by decide +kernel
theorem d_Mo_part_III_81 : decode b_Mo_part_III 81 = .ok (.goto 21, 3) := by decide +kernel
theorem d_Mo_part_III_84 : decode b_Mo_part_III 84 = .ok (.aload_n 0, 1) := by decide +kernel
theorem d_Mo_part_III_85 : decode b_Mo_part_III 85 = .ok (.getfield 50, 3) := by decide +kernel
theorem d_Mo_part_III_88 : decode b_Mo_part_III 88 = .ok (.iload_n 1, 1) := by decide +kernel
theorem d_Mo_part_III_89 : decode b_Mo_part_III 89 = .ok (.aload_n 0, 1) := by decide +kernel
theorem d_Mo_part_III_90 : decode b_Mo_part_III 90 = .ok (.getfield 23, 3) := by decide +kernel
theorem d_Mo_part_III_93 : decode b_Mo_part_III 93 = .ok (.iload 4, 2) := by decide +kernel
theorem d_Mo_part_III_95 : decode b_Mo_part_III 95 = .ok (.iload_n 3, 1) := by decide +kernel
theorem d_Mo_part_III_96 : decode b_Mo_part_III 96 = .ok (.iconst 1, 1) := by decide +kernel
theorem d_Mo_part_III_97 : decode b_Mo_part_III 97 = .ok (.isub, 1) := by decide +kernel
theorem d_Mo_part_III_98 : decode b_Mo_part_III 98 = .ok (.invokevirtual 159, 3) := by decide +kernel
theorem d_Mo_part_III_101 : decode b_Mo_part_III 101 = .ok (.iastore, 1) := by decide +kernel
theorem d_Mo_part_III_102 : decode b_Mo_part_III 102 = .ok (.return_, 1) := by decide +kernel
def p_Mo_part_III_25 (n : Nat) (to_ : Int32) (x : Int32) (i : Int32) (a_taped : Int32) (a_place : Int32) (a_resulted : Int32) (a_marks : Int32) (a_touches : Int32) (a_paints : Int32) (a_terms_size : Int32) (a_terms_parts : Int32) (a_terms_kind_n : Nat) (a_terms_kind_f : Nat → Int32) (a_terms_name_n : Nat) (a_terms_name_f : Nat → Int32) (a_terms_first_n : Nat) (a_terms_first_f : Nat → Int32) (a_terms_many_n : Nat) (a_terms_many_f : Nat → Int32) (a_terms_part_n : Nat) (a_terms_part_f : Nat → Int32) (a_register_n : Nat) (a_register_f : Nat → Int32) (a_became_n : Nat) (a_became_f : Nat → Int32) (a_node_n : Nat) (a_node_f : Nat → Int32) (y0_2 : Int32) : Option (Int32 × (Nat → Int32)) := if y0_2 ≤ 0 then (ck (ixb x a_register_n) ((p_Mo_meant n (a_register_f x.toNatClampNeg) y0_2 a_taped a_place a_resulted a_marks a_touches a_paints a_terms_size a_terms_parts a_terms_kind_n a_terms_kind_f a_terms_name_n a_terms_name_f a_became_n a_became_f a_node_n a_node_f).bind (fun r5 => ck (ixb r5 a_terms_kind_n) (if (a_terms_kind_f r5.toNatClampNeg) = 2 then (ck (ixb r5 a_terms_many_n) (if i ≤ (a_terms_many_f r5.toNatClampNeg) then ((p_MoTerms_part r5 (i - 1) a_terms_size a_terms_parts a_terms_first_n a_terms_first_f a_terms_part_n a_terms_part_f).bind (fun r10 => ck (ixb to_ a_register_n) (some (y0_2, upd a_register_f to_.toNatClampNeg r10)))) else (some ((2 : Int32), a_register_f)))) else (some ((2 : Int32), a_register_f)))))) else (some (y0_2, a_register_f))
def p_Mo_part_III_20 (n : Nat) (to_ : Int32) (x : Int32) (i : Int32) (a_taped : Int32) (a_place : Int32) (a_resulted : Int32) (a_marks : Int32) (a_touches : Int32) (a_paints : Int32) (a_terms_size : Int32) (a_terms_parts : Int32) (a_terms_kind_n : Nat) (a_terms_kind_f : Nat → Int32) (a_terms_name_n : Nat) (a_terms_name_f : Nat → Int32) (a_terms_first_n : Nat) (a_terms_first_f : Nat → Int32) (a_terms_many_n : Nat) (a_terms_many_f : Nat → Int32) (a_terms_part_n : Nat) (a_terms_part_f : Nat → Int32) (a_register_n : Nat) (a_register_f : Nat → Int32) (a_became_n : Nat) (a_became_f : Nat → Int32) (a_node_n : Nat) (a_node_f : Nat → Int32) : Option (Int32 × (Nat → Int32)) := p_Mo_part_III_25 n to_ x i a_taped a_place a_resulted a_marks a_touches a_paints a_terms_size a_terms_parts a_terms_kind_n a_terms_kind_f a_terms_name_n a_terms_name_f a_terms_first_n a_terms_first_f a_terms_many_n a_terms_many_f a_terms_part_n a_terms_part_f a_register_n a_register_f a_became_n a_became_f a_node_n a_node_f (1 : Int32)
def p_Mo_part_III (n : Nat) (to_ : Int32) (x : Int32) (i : Int32) (a_thrown : Int32) (a_taped : Int32) (a_place : Int32) (a_resulted : Int32) (a_marks : Int32) (a_touches : Int32) (a_paints : Int32) (a_terms_size : Int32) (a_terms_parts : Int32) (a_terms_kind_n : Nat) (a_terms_kind_f : Nat → Int32) (a_terms_name_n : Nat) (a_terms_name_f : Nat → Int32) (a_terms_first_n : Nat) (a_terms_first_f : Nat → Int32) (a_terms_many_n : Nat) (a_terms_many_f : Nat → Int32) (a_terms_part_n : Nat) (a_terms_part_f : Nat → Int32) (a_register_n : Nat) (a_register_f : Nat → Int32) (a_became_n : Nat) (a_became_f : Nat → Int32) (a_node_n : Nat) (a_node_f : Nat → Int32) : Option (Int32 × (Nat → Int32)) := (p_Mo_none to_).bind (fun r1 => if r1 = 0 then ((p_Mo_none x).bind (fun r14 => if r14 = 0 then (if 1 ≤ i then (p_Mo_part_III_25 n to_ x i a_taped a_place a_resulted a_marks a_touches a_paints a_terms_size a_terms_parts a_terms_kind_n a_terms_kind_f a_terms_name_n a_terms_name_f a_terms_first_n a_terms_first_f a_terms_many_n a_terms_many_f a_terms_part_n a_terms_part_f a_register_n a_register_f a_became_n a_became_f a_node_n a_node_f (0 : Int32)) else (p_Mo_part_III_20 n to_ x i a_taped a_place a_resulted a_marks a_touches a_paints a_terms_size a_terms_parts a_terms_kind_n a_terms_kind_f a_terms_name_n a_terms_name_f a_terms_first_n a_terms_first_f a_terms_many_n a_terms_many_f a_terms_part_n a_terms_part_f a_register_n a_register_f a_became_n a_became_f a_node_n a_node_f)) else (p_Mo_part_III_20 n to_ x i a_taped a_place a_resulted a_marks a_touches a_paints a_terms_size a_terms_parts a_terms_kind_n a_terms_kind_f a_terms_name_n a_terms_name_f a_terms_first_n a_terms_first_f a_terms_many_n a_terms_many_f a_terms_part_n a_terms_part_f a_register_n a_register_f a_became_n a_became_f a_node_n a_node_f))) else (p_Mo_part_III_20 n to_ x i a_taped a_place a_resulted a_marks a_touches a_paints a_terms_size a_terms_parts a_terms_kind_n a_terms_kind_f a_terms_name_n a_terms_name_f a_terms_first_n a_terms_first_f a_terms_many_n a_terms_many_f a_terms_part_n a_terms_part_f a_register_n a_register_f a_became_n a_became_f a_node_n a_node_f))
set_option maxHeartbeats 40000000 in
set_option maxRecDepth 100000 in
theorem c_Mo_part_III (l : Launch) (g : va_G) (cs : Nat → ClassId) (ka : Nat → Nat) (a_tape : Nat) (a_result : Nat) (a_names : Nat) (a_reader : Nat) (a_paper : Nat) (a_marked : Nat) (a_markedRegister : Nat) (a_up : Nat) (a_touched : Nat) (a_todo : Nat) (a_color : Nat) (a_painted : Nat) (a_terms_number : Nat) (a a_terms a_terms_kind a_terms_name a_terms_first a_terms_many a_terms_part a_register a_became a_node : Nat) (sz : Nat) (n : Nat) (to_ : Int32) (x : Int32) (i : Int32) (a_thrown : Int32) (a_taped : Int32) (a_place : Int32) (a_resulted : Int32) (a_marks : Int32) (a_touches : Int32) (a_paints : Int32) (a_terms_size : Int32) (a_terms_parts : Int32) (a_terms_kind_n : Nat) (a_terms_kind_f : Nat → Int32) (a_terms_name_n : Nat) (a_terms_name_f : Nat → Int32) (a_terms_first_n : Nat) (a_terms_first_f : Nat → Int32) (a_terms_many_n : Nat) (a_terms_many_f : Nat → Int32) (a_terms_part_n : Nat) (a_terms_part_f : Nat → Int32) (a_register_n : Nat) (a_register_f : Nat → Int32) (a_became_n : Nat) (a_became_f : Nat → Int32) (a_node_n : Nat) (a_node_f : Nat → Int32) (o_a_thrown : Int32) (o_a_register_f : Nat → Int32) (hok : p_Mo_part_III n to_ x i a_thrown a_taped a_place a_resulted a_marks a_touches a_paints a_terms_size a_terms_parts a_terms_kind_n a_terms_kind_f a_terms_name_n a_terms_name_f a_terms_first_n a_terms_first_f a_terms_many_n a_terms_many_f a_terms_part_n a_terms_part_f a_register_n a_register_f a_became_n a_became_f a_node_n a_node_f = some (o_a_thrown, o_a_register_f)) : Met l y_Mo_part_III (.code y_Mo_part_III b_Mo_part_III 5 none :: GW) { frames := 1, cells := 0, slots := 0, locals := 23 } (va_Pc [.ref a, .int to_, .int x, .int i] (gP g cs ka [(a, .inr (14, [.int a_thrown, .int a_taped, .int a_place, .int a_resulted, .int a_marks, .ref a_tape, .ref a_result, .ref a_terms, .ref a_names, .ref a_reader, .ref a_paper, .ref a_register, .ref a_became, .ref a_node, .ref a_marked, .ref a_markedRegister, .ref a_up, .ref a_touched, .ref a_todo, .ref a_color, .int a_touches, .ref a_painted, .int a_paints])), (a_terms, .inr (11, [.ref a_terms_kind, .ref a_terms_name, .ref a_terms_first, .ref a_terms_many, .ref a_terms_part, .ref a_terms_number, .int a_terms_size, .int a_terms_parts])), (a_terms_kind, .inl (cs 0, a_terms_kind_n, .inl a_terms_kind_f)), (a_terms_name, .inl (cs 0, a_terms_name_n, .inl a_terms_name_f)), (a_terms_first, .inl (cs 0, a_terms_first_n, .inl a_terms_first_f)), (a_terms_many, .inl (cs 0, a_terms_many_n, .inl a_terms_many_f)), (a_terms_part, .inl (cs 0, a_terms_part_n, .inl a_terms_part_f)), (a_register, .inl (cs 0, a_register_n, .inl a_register_f)), (a_became, .inl (cs 0, a_became_n, .inl a_became_f)), (a_node, .inl (cs 0, a_node_n, .inl a_node_f))] sz)) (va_Qv (fun _ : Unit => True) (fun _ t => va_P g classes [(a, .inr (14, [.int o_a_thrown, .int a_taped, .int a_place, .int a_resulted, .int a_marks, .ref a_tape, .ref a_result, .ref a_terms, .ref a_names, .ref a_reader, .ref a_paper, .ref a_register, .ref a_became, .ref a_node, .ref a_marked, .ref a_markedRegister, .ref a_up, .ref a_touched, .ref a_todo, .ref a_color, .int a_touches, .ref a_painted, .int a_paints])), (a_terms, .inr (11, [.ref a_terms_kind, .ref a_terms_name, .ref a_terms_first, .ref a_terms_many, .ref a_terms_part, .ref a_terms_number, .int a_terms_size, .int a_terms_parts])), (a_terms_kind, .inl (cs 0, a_terms_kind_n, .inl a_terms_kind_f)), (a_terms_name, .inl (cs 0, a_terms_name_n, .inl a_terms_name_f)), (a_terms_first, .inl (cs 0, a_terms_first_n, .inl a_terms_first_f)), (a_terms_many, .inl (cs 0, a_terms_many_n, .inl a_terms_many_f)), (a_terms_part, .inl (cs 0, a_terms_part_n, .inl a_terms_part_f)), (a_register, .inl (cs 0, a_register_n, .inl o_a_register_f)), (a_became, .inl (cs 0, a_became_n, .inl a_became_f)), (a_node, .inl (cs 0, a_node_n, .inl a_node_f))] t.heap ∧ va_D (va_A [(a, .inr (14, [.int a_thrown, .int a_taped, .int a_place, .int a_resulted, .int a_marks, .ref a_tape, .ref a_result, .ref a_terms, .ref a_names, .ref a_reader, .ref a_paper, .ref a_register, .ref a_became, .ref a_node, .ref a_marked, .ref a_markedRegister, .ref a_up, .ref a_touched, .ref a_todo, .ref a_color, .int a_touches, .ref a_painted, .int a_paints])), (a_terms, .inr (11, [.ref a_terms_kind, .ref a_terms_name, .ref a_terms_first, .ref a_terms_many, .ref a_terms_part, .ref a_terms_number, .int a_terms_size, .int a_terms_parts])), (a_terms_kind, .inl (cs 0, a_terms_kind_n, .inl a_terms_kind_f)), (a_terms_name, .inl (cs 0, a_terms_name_n, .inl a_terms_name_f)), (a_terms_first, .inl (cs 0, a_terms_first_n, .inl a_terms_first_f)), (a_terms_many, .inl (cs 0, a_terms_many_n, .inl a_terms_many_f)), (a_terms_part, .inl (cs 0, a_terms_part_n, .inl a_terms_part_f)), (a_register, .inl (cs 0, a_register_n, .inl a_register_f)), (a_became, .inl (cs 0, a_became_n, .inl a_became_f)), (a_node, .inl (cs 0, a_node_n, .inl a_node_f))] sz) [(a, .inr (14, [.int o_a_thrown, .int a_taped, .int a_place, .int a_resulted, .int a_marks, .ref a_tape, .ref a_result, .ref a_terms, .ref a_names, .ref a_reader, .ref a_paper, .ref a_register, .ref a_became, .ref a_node, .ref a_marked, .ref a_markedRegister, .ref a_up, .ref a_touched, .ref a_todo, .ref a_color, .int a_touches, .ref a_painted, .int a_paints])), (a_terms, .inr (11, [.ref a_terms_kind, .ref a_terms_name, .ref a_terms_first, .ref a_terms_many, .ref a_terms_part, .ref a_terms_number, .int a_terms_size, .int a_terms_parts])), (a_terms_kind, .inl (cs 0, a_terms_kind_n, .inl a_terms_kind_f)), (a_terms_name, .inl (cs 0, a_terms_name_n, .inl a_terms_name_f)), (a_terms_first, .inl (cs 0, a_terms_first_n, .inl a_terms_first_f)), (a_terms_many, .inl (cs 0, a_terms_many_n, .inl a_terms_many_f)), (a_terms_part, .inl (cs 0, a_terms_part_n, .inl a_terms_part_f)), (a_register, .inl (cs 0, a_register_n, .inl o_a_register_f)), (a_became, .inl (cs 0, a_became_n, .inl a_became_f)), (a_node, .inl (cs 0, a_node_n, .inl a_node_f))]) (va_A [(a, .inr (14, [.int a_thrown, .int a_taped, .int a_place, .int a_resulted, .int a_marks, .ref a_tape, .ref a_result, .ref a_terms, .ref a_names, .ref a_reader, .ref a_paper, .ref a_register, .ref a_became, .ref a_node, .ref a_marked, .ref a_markedRegister, .ref a_up, .ref a_touched, .ref a_todo, .ref a_color, .int a_touches, .ref a_painted, .int a_paints])), (a_terms, .inr (11, [.ref a_terms_kind, .ref a_terms_name, .ref a_terms_first, .ref a_terms_many, .ref a_terms_part, .ref a_terms_number, .int a_terms_size, .int a_terms_parts])), (a_terms_kind, .inl (cs 0, a_terms_kind_n, .inl a_terms_kind_f)), (a_terms_name, .inl (cs 0, a_terms_name_n, .inl a_terms_name_f)), (a_terms_first, .inl (cs 0, a_terms_first_n, .inl a_terms_first_f)), (a_terms_many, .inl (cs 0, a_terms_many_n, .inl a_terms_many_f)), (a_terms_part, .inl (cs 0, a_terms_part_n, .inl a_terms_part_f)), (a_register, .inl (cs 0, a_register_n, .inl a_register_f)), (a_became, .inl (cs 0, a_became_n, .inl a_became_f)), (a_node, .inl (cs 0, a_node_n, .inl a_node_f))] sz)) 0 0 (va_A [(a, .inr (14, [.int a_thrown, .int a_taped, .int a_place, .int a_resulted, .int a_marks, .ref a_tape, .ref a_result, .ref a_terms, .ref a_names, .ref a_reader, .ref a_paper, .ref a_register, .ref a_became, .ref a_node, .ref a_marked, .ref a_markedRegister, .ref a_up, .ref a_touched, .ref a_todo, .ref a_color, .int a_touches, .ref a_painted, .int a_paints])), (a_terms, .inr (11, [.ref a_terms_kind, .ref a_terms_name, .ref a_terms_first, .ref a_terms_many, .ref a_terms_part, .ref a_terms_number, .int a_terms_size, .int a_terms_parts])), (a_terms_kind, .inl (cs 0, a_terms_kind_n, .inl a_terms_kind_f)), (a_terms_name, .inl (cs 0, a_terms_name_n, .inl a_terms_name_f)), (a_terms_first, .inl (cs 0, a_terms_first_n, .inl a_terms_first_f)), (a_terms_many, .inl (cs 0, a_terms_many_n, .inl a_terms_many_f)), (a_terms_part, .inl (cs 0, a_terms_part_n, .inl a_terms_part_f)), (a_register, .inl (cs 0, a_register_n, .inl a_register_f)), (a_became, .inl (cs 0, a_became_n, .inl a_became_f)), (a_node, .inl (cs 0, a_node_n, .inl a_node_f))] sz) := by
  refine Met.ofW (cc := b_Mo_part_III) (maxL := 5) (ret := none) (by decide) rfl ?_
  intro p e s m args below meth c s₁ B hml hv
  obtain ⟨rfl, hsz, hP, hK, hD0, hgl, hkn, hkr⟩ := hv
  have hx := B.exec
  have hb := B.bytes
  have hr := B.returns
  have hg : ∀ w ∈ GW, w.before ([.ref a, .int to_, .int x, .int i] : List Value).toArray s = true := fun w hw => atoms_spec (ws := .code y_Mo_part_III b_Mo_part_III 5 none :: GW) B.pre w (List.mem_cons_of_mem _ hw)
  have hown : s.vm.findClass R_Mo = some m.cls := findClass_of_methodNamed B.named
  have hlocks := B.notSynchronized
  subst hsz
  have hD := hD0.self (sz := s.heap.size)
  generalize hAe : va_A [(a, .inr (14, [.int a_thrown, .int a_taped, .int a_place, .int a_resulted, .int a_marks, .ref a_tape, .ref a_result, .ref a_terms, .ref a_names, .ref a_reader, .ref a_paper, .ref a_register, .ref a_became, .ref a_node, .ref a_marked, .ref a_markedRegister, .ref a_up, .ref a_touched, .ref a_todo, .ref a_color, .int a_touches, .ref a_painted, .int a_paints])), (a_terms, .inr (11, [.ref a_terms_kind, .ref a_terms_name, .ref a_terms_first, .ref a_terms_many, .ref a_terms_part, .ref a_terms_number, .int a_terms_size, .int a_terms_parts])), (a_terms_kind, .inl (cs 0, a_terms_kind_n, .inl a_terms_kind_f)), (a_terms_name, .inl (cs 0, a_terms_name_n, .inl a_terms_name_f)), (a_terms_first, .inl (cs 0, a_terms_first_n, .inl a_terms_first_f)), (a_terms_many, .inl (cs 0, a_terms_many_n, .inl a_terms_many_f)), (a_terms_part, .inl (cs 0, a_terms_part_n, .inl a_terms_part_f)), (a_register, .inl (cs 0, a_register_n, .inl a_register_f)), (a_became, .inl (cs 0, a_became_n, .inl a_became_f)), (a_node, .inl (cs 0, a_node_n, .inl a_node_f))] s.heap.size = A at hD hkn ⊢
  have hA : ∀ q : Nat, s.heap.size ≤ q → A q := fun q h => by rw [← hAe]; exact Or.inr h
  have hS : va_S A s.heap s.heap [] := va_S.rf
  have hP : va_P g classes [(a, .inr (14, [.int a_thrown, .int a_taped, .int a_place, .int a_resulted, .int a_marks, .ref a_tape, .ref a_result, .ref a_terms, .ref a_names, .ref a_reader, .ref a_paper, .ref a_register, .ref a_became, .ref a_node, .ref a_marked, .ref a_markedRegister, .ref a_up, .ref a_touched, .ref a_todo, .ref a_color, .int a_touches, .ref a_painted, .int a_paints])), (a_terms, .inr (11, [.ref a_terms_kind, .ref a_terms_name, .ref a_terms_first, .ref a_terms_many, .ref a_terms_part, .ref a_terms_number, .int a_terms_size, .int a_terms_parts])), (a_terms_kind, .inl (cs 0, a_terms_kind_n, .inl a_terms_kind_f)), (a_terms_name, .inl (cs 0, a_terms_name_n, .inl a_terms_name_f)), (a_terms_first, .inl (cs 0, a_terms_first_n, .inl a_terms_first_f)), (a_terms_many, .inl (cs 0, a_terms_many_n, .inl a_terms_many_f)), (a_terms_part, .inl (cs 0, a_terms_part_n, .inl a_terms_part_f)), (a_register, .inl (cs 0, a_register_n, .inl a_register_f)), (a_became, .inl (cs 0, a_became_n, .inl a_became_f)), (a_node, .inl (cs 0, a_node_n, .inl a_node_f))] s.heap := hP
  have hl := lv_entry ([.ref a, .int to_, .int x, .int i]) (n := 5) (Nat.le_of_ble_eq_true rfl)
  rw [lg_entry_eq]
  generalize (lg_sl ([.ref a, .int to_, .int x, .int i]) ++ List.replicate (5 - (lg_sl ([.ref a, .int to_, .int x, .int i])).length) Slot.unset).toArray = ls at hl ⊢
  have hl : lv_has ls 5 [(0, .ref a), (1, .int to_), (2, .int x), (3, .int i)] := hl
  refine gq (fun Q hQ => ?_)
  obtain ⟨H, hH⟩ : ∃ H : Heap, H = s.heap := ⟨_, rfl⟩
  rw [← hH] at hP
  have hS : va_S A s.heap H [] := by rw [hH]; exact hS
  refine W.eqH hH ?_
  obtain ⟨locs, hlc⟩ : ∃ L : List Loc, L = [] := ⟨_, rfl⟩
  rw [← hlc] at hS ⊢
  unfold p_Mo_part_III at hok
  refine lv_aload_n hx hb d_Mo_part_III_0 rfl (lv_at hl 0 rfl) ?_
  refine lv_iload_n hx hb d_Mo_part_III_1 rfl (lv_at hl 1 rfl) ?_
  obtain ⟨r1, hc1, hok⟩ := bd_some hok
  obtain ⟨hPc, hDc, hFc⟩ := cut0 (wc := []) hP hD hS hA [] (by decide) rfl
  refine va_calli (va_runS (As := [.int to_]) (rest := [.ref a]) ⟨hx, hb, hml, hown, hg⟩ (c_Mo_none l g cs ka H.size to_ r1 hc1) (va_cwS 1 hg (gw_S wd_820 wd_821 wd_780 wd_819) rfl rfl rfl (by decide +kernel) ⟨Nat.le_of_ble_eq_true rfl, Nat.le_of_ble_eq_true rfl⟩) ⟨gP_blind, gP_pre hPc hDc hK hgl hkn hkr hS hFc⟩ rfl rfl hl.1 rfl (lv_room (Nat.le_of_ble_eq_true rfl)) d_Mo_part_III_2 ⟨Nat.le_of_ble_eq_true rfl, Nat.le_of_ble_eq_true rfl⟩) hS (fun q _ h => hFc q h) hFc (fun r1' u t H locs ht hvm hr1 hB hz1 hk1 hS => ?_)
  subst hr1
  rw [ht] at hB
  obtain ⟨hP1, hD1⟩ := hB
  obtain ⟨hP, hD⟩ := jn_A hP hD [] [0, 1, 2, 3, 4, 5, 6, 7, 8, 9] rfl rfl (by decide) (by decide) hk1 hFc hP1 hD1
  obtain ⟨hP, hD⟩ : PD g A H [(a, .inr (14, [.int a_thrown, .int a_taped, .int a_place, .int a_resulted, .int a_marks, .ref a_tape, .ref a_result, .ref a_terms, .ref a_names, .ref a_reader, .ref a_paper, .ref a_register, .ref a_became, .ref a_node, .ref a_marked, .ref a_markedRegister, .ref a_up, .ref a_touched, .ref a_todo, .ref a_color, .int a_touches, .ref a_painted, .int a_paints])), (a_terms, .inr (11, [.ref a_terms_kind, .ref a_terms_name, .ref a_terms_first, .ref a_terms_many, .ref a_terms_part, .ref a_terms_number, .int a_terms_size, .int a_terms_parts])), (a_terms_kind, .inl (cs 0, a_terms_kind_n, .inl a_terms_kind_f)), (a_terms_name, .inl (cs 0, a_terms_name_n, .inl a_terms_name_f)), (a_terms_first, .inl (cs 0, a_terms_first_n, .inl a_terms_first_f)), (a_terms_many, .inl (cs 0, a_terms_many_n, .inl a_terms_many_f)), (a_terms_part, .inl (cs 0, a_terms_part_n, .inl a_terms_part_f)), (a_register, .inl (cs 0, a_register_n, .inl a_register_f)), (a_became, .inl (cs 0, a_became_n, .inl a_became_f)), (a_node, .inl (cs 0, a_node_n, .inl a_node_f))] := ⟨hP, hD⟩
  have J2 : ∀ (H : Heap) (locs : List Loc) (ls : Array Slot) (y0_2 : Int32), lv_has ls 5 [(0, .ref a), (1, .int to_), (2, .int x), (3, .int i)] → PD g A H [(a, .inr (14, [.int a_thrown, .int a_taped, .int a_place, .int a_resulted, .int a_marks, .ref a_tape, .ref a_result, .ref a_terms, .ref a_names, .ref a_reader, .ref a_paper, .ref a_register, .ref a_became, .ref a_node, .ref a_marked, .ref a_markedRegister, .ref a_up, .ref a_touched, .ref a_todo, .ref a_color, .int a_touches, .ref a_painted, .int a_paints])), (a_terms, .inr (11, [.ref a_terms_kind, .ref a_terms_name, .ref a_terms_first, .ref a_terms_many, .ref a_terms_part, .ref a_terms_number, .int a_terms_size, .int a_terms_parts])), (a_terms_kind, .inl (cs 0, a_terms_kind_n, .inl a_terms_kind_f)), (a_terms_name, .inl (cs 0, a_terms_name_n, .inl a_terms_name_f)), (a_terms_first, .inl (cs 0, a_terms_first_n, .inl a_terms_first_f)), (a_terms_many, .inl (cs 0, a_terms_many_n, .inl a_terms_many_f)), (a_terms_part, .inl (cs 0, a_terms_part_n, .inl a_terms_part_f)), (a_register, .inl (cs 0, a_register_n, .inl a_register_f)), (a_became, .inl (cs 0, a_became_n, .inl a_became_f)), (a_node, .inl (cs 0, a_node_n, .inl a_node_f))] → va_S A s.heap H locs → p_Mo_part_III_25 n to_ x i a_taped a_place a_resulted a_marks a_touches a_paints a_terms_size a_terms_parts a_terms_kind_n a_terms_kind_f a_terms_name_n a_terms_name_f a_terms_first_n a_terms_first_f a_terms_many_n a_terms_many_f a_terms_part_n a_terms_part_f a_register_n a_register_f a_became_n a_became_f a_node_n a_node_f y0_2 = some (o_a_thrown, o_a_register_f) → W p l e (headSpec (.code y_Mo_part_III b_Mo_part_III 5 none :: GW) { frames := 1, cells := 0, slots := 0, locals := 23 }).room s m ([.ref a, .int to_, .int x, .int i] : List Value).toArray below meth c H locs 0 0 Q (F0 m 25 ls [.int y0_2, .ref a]) := by
    intro H locs ls y0_2 hl ⟨hP, hD⟩ hS hok
    unfold p_Mo_part_III_25 at hok
    refine va_put (D := g) (ci := 14) (v := .int y0_2) (ty := .int) (C := R_Mo) (T := F_Mo) (N := 23) hx hb hg ul_Mo t_Mo tk_Mo n_Mo hown hK hP hD hS 0 rfl rfl 0 (by decide) (hg _ wd_776) (fun _ h9 => h9) rfl (by decide +kernel) rfl rfl (Nat.le_of_ble_eq_true rfl) d_Mo_part_III_25 (fun H locs hP hD hS => ?_)
    obtain ⟨hP, hD⟩ : PD g A H [(a, .inr (14, [.int y0_2, .int a_taped, .int a_place, .int a_resulted, .int a_marks, .ref a_tape, .ref a_result, .ref a_terms, .ref a_names, .ref a_reader, .ref a_paper, .ref a_register, .ref a_became, .ref a_node, .ref a_marked, .ref a_markedRegister, .ref a_up, .ref a_touched, .ref a_todo, .ref a_color, .int a_touches, .ref a_painted, .int a_paints])), (a_terms, .inr (11, [.ref a_terms_kind, .ref a_terms_name, .ref a_terms_first, .ref a_terms_many, .ref a_terms_part, .ref a_terms_number, .int a_terms_size, .int a_terms_parts])), (a_terms_kind, .inl (cs 0, a_terms_kind_n, .inl a_terms_kind_f)), (a_terms_name, .inl (cs 0, a_terms_name_n, .inl a_terms_name_f)), (a_terms_first, .inl (cs 0, a_terms_first_n, .inl a_terms_first_f)), (a_terms_many, .inl (cs 0, a_terms_many_n, .inl a_terms_many_f)), (a_terms_part, .inl (cs 0, a_terms_part_n, .inl a_terms_part_f)), (a_register, .inl (cs 0, a_register_n, .inl a_register_f)), (a_became, .inl (cs 0, a_became_n, .inl a_became_f)), (a_node, .inl (cs 0, a_node_n, .inl a_node_f))] := ⟨hP, hD⟩
    refine lv_aload_n hx hb d_Mo_part_III_28 rfl (lv_at hl 0 rfl) ?_
    refine va_get (D := g) (ci := 14) (v := .int y0_2) (C := R_Mo) (T := F_Mo) (N := 23) hx hb hg ul_Mo hown hK hP 0 rfl rfl 0 (by decide) (hg _ wd_776) (fun _ h9 => h9) rfl d_Mo_part_III_29 ?_
    refine lv_if_le hx hb d_Mo_part_III_32 rfl (fun h3 => ?_) (fun h3 => ?_)
    · rw [if_pos h3] at hok
      refine lv_aload_n hx hb d_Mo_part_III_36 rfl (lv_at hl 0 rfl) ?_
      refine lv_aload_n hx hb d_Mo_part_III_37 rfl (lv_at hl 0 rfl) ?_
      refine va_get (D := g) (ci := 14) (v := .ref a_register) (C := R_Mo) (T := F_Mo) (N := 23) hx hb hg ul_Mo hown hK hP 0 rfl rfl 11 (by decide) (hg _ wd_822) (fun _ h9 => h9) rfl d_Mo_part_III_38 ?_
      refine lv_iload_n hx hb d_Mo_part_III_41 rfl (lv_at hl 2 rfl) ?_
      obtain ⟨hi4, hok⟩ := ck_some hok
      refine va_iald hx hb hK hP 7 0 rfl rfl (ixb_in hi4) d_Mo_part_III_42 ?_
      obtain ⟨r5, hc5, hok⟩ := bd_some hok
      obtain ⟨hPc, hDc, hFc⟩ := cut0 (wc := [(a, .inr (14, [.int y0_2, .int a_taped, .int a_place, .int a_resulted, .int a_marks, .ref a_tape, .ref a_result, .ref a_terms, .ref a_names, .ref a_reader, .ref a_paper, .ref a_register, .ref a_became, .ref a_node, .ref a_marked, .ref a_markedRegister, .ref a_up, .ref a_touched, .ref a_todo, .ref a_color, .int a_touches, .ref a_painted, .int a_paints])), (a_terms, .inr (11, [.ref a_terms_kind, .ref a_terms_name, .ref a_terms_first, .ref a_terms_many, .ref a_terms_part, .ref a_terms_number, .int a_terms_size, .int a_terms_parts])), (a_terms_kind, .inl (cs 0, a_terms_kind_n, .inl a_terms_kind_f)), (a_terms_name, .inl (cs 0, a_terms_name_n, .inl a_terms_name_f)), (a_became, .inl (cs 0, a_became_n, .inl a_became_f)), (a_node, .inl (cs 0, a_node_n, .inl a_node_f))]) hP hD hS hA [0, 1, 2, 3, 8, 9] (by decide) rfl
      refine va_calli (va_runV (As := [.int (a_register_f x.toNatClampNeg)]) (rest := []) ⟨hx, hb, hml, hown, hg⟩ (c_Mo_meant l g cs ka a_tape a_result a_names a_reader a_paper a_register a_marked a_markedRegister a_up a_touched a_todo a_color a_painted a_terms_first a_terms_many a_terms_part a_terms_number a a_terms a_terms_kind a_terms_name a_became a_node H.size n (a_register_f x.toNatClampNeg) y0_2 a_taped a_place a_resulted a_marks a_touches a_paints a_terms_size a_terms_parts a_terms_kind_n a_terms_kind_f a_terms_name_n a_terms_name_f a_became_n a_became_f a_node_n a_node_f r5 hc5) (cwV (C := R_Mo) 1 hg (gw_V wd_794 wd_795 wd_796 wd_780 wd_793) rfl rfl rfl (by decide +kernel) ⟨Nat.le_of_ble_eq_true rfl, Nat.le_of_ble_eq_true rfl⟩) ⟨gP_blind, va_recv (q0 := 0) (ci := 14) (q := (R_Mo, F_Mo, 23)) hK hP rfl rfl, gP_pre hPc hDc hK hgl hkn hkr hS hFc⟩ rfl rfl hl.1 rfl (lv_room (Nat.le_of_ble_eq_true rfl)) d_Mo_part_III_43 ⟨Nat.le_of_ble_eq_true rfl, Nat.le_of_ble_eq_true rfl⟩) hS (fun q _ h => hFc q h) hFc (fun r5' u t H locs ht hvm hr5 hB hz1 hk1 hS => ?_)
      subst hr5
      rw [ht] at hB
      obtain ⟨hP1, hD1⟩ := hB
      obtain ⟨hP, hD⟩ := jn_A hP hD [0, 1, 2, 3, 8, 9] [4, 5, 6, 7] rfl rfl (by decide) (by decide) hk1 hFc hP1 hD1
      obtain ⟨hP, hD⟩ : PD g A H [(a_terms_first, .inl (cs 0, a_terms_first_n, .inl a_terms_first_f)), (a_terms_many, .inl (cs 0, a_terms_many_n, .inl a_terms_many_f)), (a_terms_part, .inl (cs 0, a_terms_part_n, .inl a_terms_part_f)), (a_register, .inl (cs 0, a_register_n, .inl a_register_f)), (a, .inr (14, [.int y0_2, .int a_taped, .int a_place, .int a_resulted, .int a_marks, .ref a_tape, .ref a_result, .ref a_terms, .ref a_names, .ref a_reader, .ref a_paper, .ref a_register, .ref a_became, .ref a_node, .ref a_marked, .ref a_markedRegister, .ref a_up, .ref a_touched, .ref a_todo, .ref a_color, .int a_touches, .ref a_painted, .int a_paints])), (a_terms, .inr (11, [.ref a_terms_kind, .ref a_terms_name, .ref a_terms_first, .ref a_terms_many, .ref a_terms_part, .ref a_terms_number, .int a_terms_size, .int a_terms_parts])), (a_terms_kind, .inl (cs 0, a_terms_kind_n, .inl a_terms_kind_f)), (a_terms_name, .inl (cs 0, a_terms_name_n, .inl a_terms_name_f)), (a_became, .inl (cs 0, a_became_n, .inl a_became_f)), (a_node, .inl (cs 0, a_node_n, .inl a_node_f))] := ⟨hP, hD⟩
      refine lv_istore hx hb d_Mo_part_III_46 hl (by decide) rfl (fun ls hl => ?_)
      have hl : lv_has ls 5 [(4, .int r5), (0, .ref a), (1, .int to_), (2, .int x), (3, .int i)] := hl
      refine lv_aload_n hx hb d_Mo_part_III_48 rfl (lv_at hl 1 rfl) ?_
      refine va_get (D := g) (ci := 14) (v := .ref a_terms) (C := R_Mo) (T := F_Mo) (N := 23) hx hb hg ul_Mo hown hK hP 4 rfl rfl 7 (by decide) (hg _ wd_788) (fun _ h9 => h9) rfl d_Mo_part_III_49 ?_
      refine va_get (D := g) (ci := 11) (v := .ref a_terms_kind) (C := R_MoTerms) (T := F_MoTerms) (N := 8) hx hb hg ul_MoTerms hown hK hP 5 rfl rfl 0 (by decide) (hg _ wd_789) (fun _ h9 => h9) rfl d_Mo_part_III_52 ?_
      refine lv_iload hx hb d_Mo_part_III_55 (lv_at hl 0 rfl) ?_
      obtain ⟨hi6, hok⟩ := ck_some hok
      refine va_iald hx hb hK hP 6 0 rfl rfl (ixb_in hi6) d_Mo_part_III_57 ?_
      refine lv_iconst (v := 2) hx hb d_Mo_part_III_58 (by decide) ?_
      refine lv_icmp_ne hx hb d_Mo_part_III_59 rfl (fun h7 => ?_) (fun h7 => ?_)
      · rw [if_neg h7] at hok
        refine lv_aload_n hx hb d_Mo_part_III_76 rfl (lv_at hl 1 rfl) ?_
        refine lv_iconst (v := 2) hx hb d_Mo_part_III_77 (by decide) ?_
        refine va_put (D := g) (ci := 14) (v := .int 2) (ty := .int) (C := R_Mo) (T := F_Mo) (N := 23) hx hb hg ul_Mo t_Mo tk_Mo n_Mo hown hK hP hD hS 4 rfl rfl 0 (by decide) (hg _ wd_776) (fun _ h9 => h9) rfl (by decide +kernel) rfl rfl (Nat.le_of_ble_eq_true rfl) d_Mo_part_III_78 (fun H locs hP hD hS => ?_)
        obtain ⟨hP, hD⟩ : PD g A H [(a_terms_first, .inl (cs 0, a_terms_first_n, .inl a_terms_first_f)), (a_terms_many, .inl (cs 0, a_terms_many_n, .inl a_terms_many_f)), (a_terms_part, .inl (cs 0, a_terms_part_n, .inl a_terms_part_f)), (a_register, .inl (cs 0, a_register_n, .inl a_register_f)), (a, .inr (14, [.int 2, .int a_taped, .int a_place, .int a_resulted, .int a_marks, .ref a_tape, .ref a_result, .ref a_terms, .ref a_names, .ref a_reader, .ref a_paper, .ref a_register, .ref a_became, .ref a_node, .ref a_marked, .ref a_markedRegister, .ref a_up, .ref a_touched, .ref a_todo, .ref a_color, .int a_touches, .ref a_painted, .int a_paints])), (a_terms, .inr (11, [.ref a_terms_kind, .ref a_terms_name, .ref a_terms_first, .ref a_terms_many, .ref a_terms_part, .ref a_terms_number, .int a_terms_size, .int a_terms_parts])), (a_terms_kind, .inl (cs 0, a_terms_kind_n, .inl a_terms_kind_f)), (a_terms_name, .inl (cs 0, a_terms_name_n, .inl a_terms_name_f)), (a_became, .inl (cs 0, a_became_n, .inl a_became_f)), (a_node, .inl (cs 0, a_node_n, .inl a_node_f))] := ⟨hP, hD⟩
        refine lv_goto hx hb d_Mo_part_III_81 rfl ?_
        have hq := Option.some.inj hok
        obtain ⟨hq0, hq⟩ := Prod.mk.inj hq
        have hq1 := hq
        subst hq0
        subst hq1
        obtain ⟨hP9, hD9⟩ := sub2 (ws' := [(a, .inr (14, [.int 2, .int a_taped, .int a_place, .int a_resulted, .int a_marks, .ref a_tape, .ref a_result, .ref a_terms, .ref a_names, .ref a_reader, .ref a_paper, .ref a_register, .ref a_became, .ref a_node, .ref a_marked, .ref a_markedRegister, .ref a_up, .ref a_touched, .ref a_todo, .ref a_color, .int a_touches, .ref a_painted, .int a_paints])), (a_terms, .inr (11, [.ref a_terms_kind, .ref a_terms_name, .ref a_terms_first, .ref a_terms_many, .ref a_terms_part, .ref a_terms_number, .int a_terms_size, .int a_terms_parts])), (a_terms_kind, .inl (cs 0, a_terms_kind_n, .inl a_terms_kind_f)), (a_terms_name, .inl (cs 0, a_terms_name_n, .inl a_terms_name_f)), (a_terms_first, .inl (cs 0, a_terms_first_n, .inl a_terms_first_f)), (a_terms_many, .inl (cs 0, a_terms_many_n, .inl a_terms_many_f)), (a_terms_part, .inl (cs 0, a_terms_part_n, .inl a_terms_part_f)), (a_register, .inl (cs 0, a_register_n, .inl a_register_f)), (a_became, .inl (cs 0, a_became_n, .inl a_became_f)), (a_node, .inl (cs 0, a_node_n, .inl a_node_f))]) hP hD [4, 5, 6, 7, 0, 1, 2, 3, 8, 9] rfl (by decide) rfl
        rw [hQ]
        exact W.vret hx hb hr (fun t ht hW => ⟨⟨(), rfl, trivial, by rw [ht]; exact hP9, hD9⟩, hS.F ht⟩) hS.2.2 d_Mo_part_III_102
      · rw [if_pos h7] at hok
        refine lv_iload_n hx hb d_Mo_part_III_62 rfl (lv_at hl 4 rfl) ?_
        refine lv_aload_n hx hb d_Mo_part_III_63 rfl (lv_at hl 1 rfl) ?_
        refine va_get (D := g) (ci := 14) (v := .ref a_terms) (C := R_Mo) (T := F_Mo) (N := 23) hx hb hg ul_Mo hown hK hP 4 rfl rfl 7 (by decide) (hg _ wd_788) (fun _ h9 => h9) rfl d_Mo_part_III_64 ?_
        refine va_get (D := g) (ci := 11) (v := .ref a_terms_many) (C := R_MoTerms) (T := F_MoTerms) (N := 8) hx hb hg ul_MoTerms hown hK hP 5 rfl rfl 3 (by decide) (hg _ wd_808) (fun _ h9 => h9) rfl d_Mo_part_III_67 ?_
        refine lv_iload hx hb d_Mo_part_III_70 (lv_at hl 0 rfl) ?_
        obtain ⟨hi8, hok⟩ := ck_some hok
        refine va_iald hx hb hK hP 1 0 rfl rfl (ixb_in hi8) d_Mo_part_III_72 ?_
        refine lv_icmp_le hx hb d_Mo_part_III_73 rfl (fun h9 => ?_) (fun h9 => ?_)
        · rw [if_pos h9] at hok
          refine lv_aload_n hx hb d_Mo_part_III_84 rfl (lv_at hl 1 rfl) ?_
          refine va_get (D := g) (ci := 14) (v := .ref a_register) (C := R_Mo) (T := F_Mo) (N := 23) hx hb hg ul_Mo hown hK hP 4 rfl rfl 11 (by decide) (hg _ wd_822) (fun _ h9 => h9) rfl d_Mo_part_III_85 ?_
          refine lv_iload_n hx hb d_Mo_part_III_88 rfl (lv_at hl 2 rfl) ?_
          refine lv_aload_n hx hb d_Mo_part_III_89 rfl (lv_at hl 1 rfl) ?_
          refine va_get (D := g) (ci := 14) (v := .ref a_terms) (C := R_Mo) (T := F_Mo) (N := 23) hx hb hg ul_Mo hown hK hP 4 rfl rfl 7 (by decide) (hg _ wd_788) (fun _ h9 => h9) rfl d_Mo_part_III_90 ?_
          refine lv_iload hx hb d_Mo_part_III_93 (lv_at hl 0 rfl) ?_
          refine lv_iload_n hx hb d_Mo_part_III_95 rfl (lv_at hl 4 rfl) ?_
          refine lv_iconst (v := 1) hx hb d_Mo_part_III_96 (by decide) ?_
          refine lv_isub hx hb d_Mo_part_III_97 ?_
          obtain ⟨r10, hc10, hok⟩ := bd_some hok
          obtain ⟨hPc, hDc, hFc⟩ := cut0 (wc := [(a_terms, .inr (11, [.ref a_terms_kind, .ref a_terms_name, .ref a_terms_first, .ref a_terms_many, .ref a_terms_part, .ref a_terms_number, .int a_terms_size, .int a_terms_parts])), (a_terms_first, .inl (cs 0, a_terms_first_n, .inl a_terms_first_f)), (a_terms_part, .inl (cs 0, a_terms_part_n, .inl a_terms_part_f))]) hP hD hS hA [5, 0, 2] (by decide) rfl
          refine va_calli (va_runV (As := [.int r5, .int (i - 1)]) (rest := [.int to_, .ref a_register]) ⟨hx, hb, hml, hown, hg⟩ (c_MoTerms_part l g cs ka a_terms_kind a_terms_name a_terms_many a_terms_number a_terms a_terms_first a_terms_part H.size r5 (i - 1) a_terms_size a_terms_parts a_terms_first_n a_terms_first_f a_terms_part_n a_terms_part_f r10 hc10) (cwV (C := R_MoTerms) 2 hg (gw_V wd_813 wd_769 wd_770 wd_767 wd_766) rfl rfl rfl (by decide +kernel) ⟨Nat.le_of_ble_eq_true rfl, Nat.le_of_ble_eq_true rfl⟩) ⟨gP_blind, va_recv (q0 := 5) (ci := 11) (q := (R_MoTerms, F_MoTerms, 8)) hK hP rfl rfl, gP_pre hPc hDc hK hgl hkn hkr hS hFc⟩ rfl rfl hl.1 rfl (lv_room (Nat.le_of_ble_eq_true rfl)) d_Mo_part_III_98 ⟨Nat.le_of_ble_eq_true rfl, Nat.le_of_ble_eq_true rfl⟩) hS (fun q _ h => hFc q h) hFc (fun r10' u t H locs ht hvm hr10 hB hz1 hk1 hS => ?_)
          subst hr10
          rw [ht] at hB
          obtain ⟨hP1, hD1⟩ := hB
          obtain ⟨hP, hD⟩ := jn_A hP hD [5, 0, 2] [1, 3, 4, 6, 7, 8, 9] rfl rfl (by decide) (by decide) hk1 hFc hP1 hD1
          obtain ⟨hP, hD⟩ : PD g A H [(a_terms_many, .inl (cs 0, a_terms_many_n, .inl a_terms_many_f)), (a_register, .inl (cs 0, a_register_n, .inl a_register_f)), (a, .inr (14, [.int y0_2, .int a_taped, .int a_place, .int a_resulted, .int a_marks, .ref a_tape, .ref a_result, .ref a_terms, .ref a_names, .ref a_reader, .ref a_paper, .ref a_register, .ref a_became, .ref a_node, .ref a_marked, .ref a_markedRegister, .ref a_up, .ref a_touched, .ref a_todo, .ref a_color, .int a_touches, .ref a_painted, .int a_paints])), (a_terms_kind, .inl (cs 0, a_terms_kind_n, .inl a_terms_kind_f)), (a_terms_name, .inl (cs 0, a_terms_name_n, .inl a_terms_name_f)), (a_became, .inl (cs 0, a_became_n, .inl a_became_f)), (a_node, .inl (cs 0, a_node_n, .inl a_node_f)), (a_terms, .inr (11, [.ref a_terms_kind, .ref a_terms_name, .ref a_terms_first, .ref a_terms_many, .ref a_terms_part, .ref a_terms_number, .int a_terms_size, .int a_terms_parts])), (a_terms_first, .inl (cs 0, a_terms_first_n, .inl a_terms_first_f)), (a_terms_part, .inl (cs 0, a_terms_part_n, .inl a_terms_part_f))] := ⟨hP, hD⟩
          obtain ⟨hi11, hok⟩ := ck_some hok
          refine va_iast hx hb hK hP hD hS 1 0 rfl rfl (ixb_in hi11) d_Mo_part_III_101 (fun H locs hP hD hS => ?_)
          obtain ⟨hP, hD⟩ : PD g A H [(a_terms_many, .inl (cs 0, a_terms_many_n, .inl a_terms_many_f)), (a_register, .inl (cs 0, a_register_n, .inl (upd a_register_f to_.toNatClampNeg r10))), (a, .inr (14, [.int y0_2, .int a_taped, .int a_place, .int a_resulted, .int a_marks, .ref a_tape, .ref a_result, .ref a_terms, .ref a_names, .ref a_reader, .ref a_paper, .ref a_register, .ref a_became, .ref a_node, .ref a_marked, .ref a_markedRegister, .ref a_up, .ref a_touched, .ref a_todo, .ref a_color, .int a_touches, .ref a_painted, .int a_paints])), (a_terms_kind, .inl (cs 0, a_terms_kind_n, .inl a_terms_kind_f)), (a_terms_name, .inl (cs 0, a_terms_name_n, .inl a_terms_name_f)), (a_became, .inl (cs 0, a_became_n, .inl a_became_f)), (a_node, .inl (cs 0, a_node_n, .inl a_node_f)), (a_terms, .inr (11, [.ref a_terms_kind, .ref a_terms_name, .ref a_terms_first, .ref a_terms_many, .ref a_terms_part, .ref a_terms_number, .int a_terms_size, .int a_terms_parts])), (a_terms_first, .inl (cs 0, a_terms_first_n, .inl a_terms_first_f)), (a_terms_part, .inl (cs 0, a_terms_part_n, .inl a_terms_part_f))] := ⟨hP, hD⟩
          have hq := Option.some.inj hok
          obtain ⟨hq0, hq⟩ := Prod.mk.inj hq
          have hq1 := hq
          subst hq0
          subst hq1
          obtain ⟨hP9, hD9⟩ := sub2 (ws' := [(a, .inr (14, [.int y0_2, .int a_taped, .int a_place, .int a_resulted, .int a_marks, .ref a_tape, .ref a_result, .ref a_terms, .ref a_names, .ref a_reader, .ref a_paper, .ref a_register, .ref a_became, .ref a_node, .ref a_marked, .ref a_markedRegister, .ref a_up, .ref a_touched, .ref a_todo, .ref a_color, .int a_touches, .ref a_painted, .int a_paints])), (a_terms, .inr (11, [.ref a_terms_kind, .ref a_terms_name, .ref a_terms_first, .ref a_terms_many, .ref a_terms_part, .ref a_terms_number, .int a_terms_size, .int a_terms_parts])), (a_terms_kind, .inl (cs 0, a_terms_kind_n, .inl a_terms_kind_f)), (a_terms_name, .inl (cs 0, a_terms_name_n, .inl a_terms_name_f)), (a_terms_first, .inl (cs 0, a_terms_first_n, .inl a_terms_first_f)), (a_terms_many, .inl (cs 0, a_terms_many_n, .inl a_terms_many_f)), (a_terms_part, .inl (cs 0, a_terms_part_n, .inl a_terms_part_f)), (a_register, .inl (cs 0, a_register_n, .inl (upd a_register_f to_.toNatClampNeg r10))), (a_became, .inl (cs 0, a_became_n, .inl a_became_f)), (a_node, .inl (cs 0, a_node_n, .inl a_node_f))]) hP hD [2, 7, 3, 4, 8, 0, 9, 1, 5, 6] rfl (by decide) rfl
          rw [hQ]
          exact W.vret hx hb hr (fun t ht hW => ⟨⟨(), rfl, trivial, by rw [ht]; exact hP9, hD9⟩, hS.F ht⟩) hS.2.2 d_Mo_part_III_102
        · rw [if_neg h9] at hok
          refine lv_aload_n hx hb d_Mo_part_III_76 rfl (lv_at hl 1 rfl) ?_
          refine lv_iconst (v := 2) hx hb d_Mo_part_III_77 (by decide) ?_
          refine va_put (D := g) (ci := 14) (v := .int 2) (ty := .int) (C := R_Mo) (T := F_Mo) (N := 23) hx hb hg ul_Mo t_Mo tk_Mo n_Mo hown hK hP hD hS 4 rfl rfl 0 (by decide) (hg _ wd_776) (fun _ h9 => h9) rfl (by decide +kernel) rfl rfl (Nat.le_of_ble_eq_true rfl) d_Mo_part_III_78 (fun H locs hP hD hS => ?_)
          obtain ⟨hP, hD⟩ : PD g A H [(a_terms_first, .inl (cs 0, a_terms_first_n, .inl a_terms_first_f)), (a_terms_many, .inl (cs 0, a_terms_many_n, .inl a_terms_many_f)), (a_terms_part, .inl (cs 0, a_terms_part_n, .inl a_terms_part_f)), (a_register, .inl (cs 0, a_register_n, .inl a_register_f)), (a, .inr (14, [.int 2, .int a_taped, .int a_place, .int a_resulted, .int a_marks, .ref a_tape, .ref a_result, .ref a_terms, .ref a_names, .ref a_reader, .ref a_paper, .ref a_register, .ref a_became, .ref a_node, .ref a_marked, .ref a_markedRegister, .ref a_up, .ref a_touched, .ref a_todo, .ref a_color, .int a_touches, .ref a_painted, .int a_paints])), (a_terms, .inr (11, [.ref a_terms_kind, .ref a_terms_name, .ref a_terms_first, .ref a_terms_many, .ref a_terms_part, .ref a_terms_number, .int a_terms_size, .int a_terms_parts])), (a_terms_kind, .inl (cs 0, a_terms_kind_n, .inl a_terms_kind_f)), (a_terms_name, .inl (cs 0, a_terms_name_n, .inl a_terms_name_f)), (a_became, .inl (cs 0, a_became_n, .inl a_became_f)), (a_node, .inl (cs 0, a_node_n, .inl a_node_f))] := ⟨hP, hD⟩
          refine lv_goto hx hb d_Mo_part_III_81 rfl ?_
          have hq := Option.some.inj hok
          obtain ⟨hq0, hq⟩ := Prod.mk.inj hq
          have hq1 := hq
          subst hq0
          subst hq1
          obtain ⟨hP9, hD9⟩ := sub2 (ws' := [(a, .inr (14, [.int 2, .int a_taped, .int a_place, .int a_resulted, .int a_marks, .ref a_tape, .ref a_result, .ref a_terms, .ref a_names, .ref a_reader, .ref a_paper, .ref a_register, .ref a_became, .ref a_node, .ref a_marked, .ref a_markedRegister, .ref a_up, .ref a_touched, .ref a_todo, .ref a_color, .int a_touches, .ref a_painted, .int a_paints])), (a_terms, .inr (11, [.ref a_terms_kind, .ref a_terms_name, .ref a_terms_first, .ref a_terms_many, .ref a_terms_part, .ref a_terms_number, .int a_terms_size, .int a_terms_parts])), (a_terms_kind, .inl (cs 0, a_terms_kind_n, .inl a_terms_kind_f)), (a_terms_name, .inl (cs 0, a_terms_name_n, .inl a_terms_name_f)), (a_terms_first, .inl (cs 0, a_terms_first_n, .inl a_terms_first_f)), (a_terms_many, .inl (cs 0, a_terms_many_n, .inl a_terms_many_f)), (a_terms_part, .inl (cs 0, a_terms_part_n, .inl a_terms_part_f)), (a_register, .inl (cs 0, a_register_n, .inl a_register_f)), (a_became, .inl (cs 0, a_became_n, .inl a_became_f)), (a_node, .inl (cs 0, a_node_n, .inl a_node_f))]) hP hD [4, 5, 6, 7, 0, 1, 2, 3, 8, 9] rfl (by decide) rfl
          rw [hQ]
          exact W.vret hx hb hr (fun t ht hW => ⟨⟨(), rfl, trivial, by rw [ht]; exact hP9, hD9⟩, hS.F ht⟩) hS.2.2 d_Mo_part_III_102
    · rw [if_neg h3] at hok
      have hq := Option.some.inj hok
      obtain ⟨hq0, hq⟩ := Prod.mk.inj hq
      have hq1 := hq
      subst hq0
      subst hq1
      obtain ⟨hP9, hD9⟩ := sub2 (ws' := [(a, .inr (14, [.int y0_2, .int a_taped, .int a_place, .int a_resulted, .int a_marks, .ref a_tape, .ref a_result, .ref a_terms, .ref a_names, .ref a_reader, .ref a_paper, .ref a_register, .ref a_became, .ref a_node, .ref a_marked, .ref a_markedRegister, .ref a_up, .ref a_touched, .ref a_todo, .ref a_color, .int a_touches, .ref a_painted, .int a_paints])), (a_terms, .inr (11, [.ref a_terms_kind, .ref a_terms_name, .ref a_terms_first, .ref a_terms_many, .ref a_terms_part, .ref a_terms_number, .int a_terms_size, .int a_terms_parts])), (a_terms_kind, .inl (cs 0, a_terms_kind_n, .inl a_terms_kind_f)), (a_terms_name, .inl (cs 0, a_terms_name_n, .inl a_terms_name_f)), (a_terms_first, .inl (cs 0, a_terms_first_n, .inl a_terms_first_f)), (a_terms_many, .inl (cs 0, a_terms_many_n, .inl a_terms_many_f)), (a_terms_part, .inl (cs 0, a_terms_part_n, .inl a_terms_part_f)), (a_register, .inl (cs 0, a_register_n, .inl a_register_f)), (a_became, .inl (cs 0, a_became_n, .inl a_became_f)), (a_node, .inl (cs 0, a_node_n, .inl a_node_f))]) hP hD [0, 1, 2, 3, 4, 5, 6, 7, 8, 9] rfl (by decide) rfl
      rw [hQ]
      exact W.vret hx hb hr (fun t ht hW => ⟨⟨(), rfl, trivial, by rw [ht]; exact hP9, hD9⟩, hS.F ht⟩) hS.2.2 d_Mo_part_III_35
  have J12 : ∀ (H : Heap) (locs : List Loc) (ls : Array Slot), lv_has ls 5 [(0, .ref a), (1, .int to_), (2, .int x), (3, .int i)] → PD g A H [(a, .inr (14, [.int a_thrown, .int a_taped, .int a_place, .int a_resulted, .int a_marks, .ref a_tape, .ref a_result, .ref a_terms, .ref a_names, .ref a_reader, .ref a_paper, .ref a_register, .ref a_became, .ref a_node, .ref a_marked, .ref a_markedRegister, .ref a_up, .ref a_touched, .ref a_todo, .ref a_color, .int a_touches, .ref a_painted, .int a_paints])), (a_terms, .inr (11, [.ref a_terms_kind, .ref a_terms_name, .ref a_terms_first, .ref a_terms_many, .ref a_terms_part, .ref a_terms_number, .int a_terms_size, .int a_terms_parts])), (a_terms_kind, .inl (cs 0, a_terms_kind_n, .inl a_terms_kind_f)), (a_terms_name, .inl (cs 0, a_terms_name_n, .inl a_terms_name_f)), (a_terms_first, .inl (cs 0, a_terms_first_n, .inl a_terms_first_f)), (a_terms_many, .inl (cs 0, a_terms_many_n, .inl a_terms_many_f)), (a_terms_part, .inl (cs 0, a_terms_part_n, .inl a_terms_part_f)), (a_register, .inl (cs 0, a_register_n, .inl a_register_f)), (a_became, .inl (cs 0, a_became_n, .inl a_became_f)), (a_node, .inl (cs 0, a_node_n, .inl a_node_f))] → va_S A s.heap H locs → p_Mo_part_III_20 n to_ x i a_taped a_place a_resulted a_marks a_touches a_paints a_terms_size a_terms_parts a_terms_kind_n a_terms_kind_f a_terms_name_n a_terms_name_f a_terms_first_n a_terms_first_f a_terms_many_n a_terms_many_f a_terms_part_n a_terms_part_f a_register_n a_register_f a_became_n a_became_f a_node_n a_node_f = some (o_a_thrown, o_a_register_f) → W p l e (headSpec (.code y_Mo_part_III b_Mo_part_III 5 none :: GW) { frames := 1, cells := 0, slots := 0, locals := 23 }).room s m ([.ref a, .int to_, .int x, .int i] : List Value).toArray below meth c H locs 0 0 Q (F0 m 20 ls [.ref a]) := by
    intro H locs ls hl ⟨hP, hD⟩ hS hok
    unfold p_Mo_part_III_20 at hok
    refine lv_iconst (v := 1) hx hb d_Mo_part_III_20 (by decide) ?_
    refine lv_goto hx hb d_Mo_part_III_21 rfl ?_
    exact J2 _ _ _ (1 : Int32) (lv_sub hl [0, 1, 2, 3] rfl) (sub3 hP hD [0, 1, 2, 3, 4, 5, 6, 7, 8, 9] (by decide)) hS hok
  refine lv_if_ne hx hb d_Mo_part_III_5 rfl (fun h13 => ?_) (fun h13 => ?_)
  · rw [if_neg h13] at hok
    exact J12 _ _ _ (lv_sub hl [0, 1, 2, 3] rfl) (sub3 hP hD [0, 1, 2, 3, 4, 5, 6, 7, 8, 9] (by decide)) hS hok
  · rw [if_pos h13] at hok
    refine lv_iload_n hx hb d_Mo_part_III_8 rfl (lv_at hl 2 rfl) ?_
    obtain ⟨r14, hc14, hok⟩ := bd_some hok
    obtain ⟨hPc, hDc, hFc⟩ := cut0 (wc := []) hP hD hS hA [] (by decide) rfl
    refine va_calli (va_runS (As := [.int x]) (rest := [.ref a]) ⟨hx, hb, hml, hown, hg⟩ (c_Mo_none l g cs ka H.size x r14 hc14) (va_cwS 1 hg (gw_S wd_820 wd_821 wd_780 wd_819) rfl rfl rfl (by decide +kernel) ⟨Nat.le_of_ble_eq_true rfl, Nat.le_of_ble_eq_true rfl⟩) ⟨gP_blind, gP_pre hPc hDc hK hgl hkn hkr hS hFc⟩ rfl rfl hl.1 rfl (lv_room (Nat.le_of_ble_eq_true rfl)) d_Mo_part_III_9 ⟨Nat.le_of_ble_eq_true rfl, Nat.le_of_ble_eq_true rfl⟩) hS (fun q _ h => hFc q h) hFc (fun r14' u t H locs ht hvm hr14 hB hz1 hk1 hS => ?_)
    subst hr14
    rw [ht] at hB
    obtain ⟨hP1, hD1⟩ := hB
    obtain ⟨hP, hD⟩ := jn_A hP hD [] [0, 1, 2, 3, 4, 5, 6, 7, 8, 9] rfl rfl (by decide) (by decide) hk1 hFc hP1 hD1
    obtain ⟨hP, hD⟩ : PD g A H [(a, .inr (14, [.int a_thrown, .int a_taped, .int a_place, .int a_resulted, .int a_marks, .ref a_tape, .ref a_result, .ref a_terms, .ref a_names, .ref a_reader, .ref a_paper, .ref a_register, .ref a_became, .ref a_node, .ref a_marked, .ref a_markedRegister, .ref a_up, .ref a_touched, .ref a_todo, .ref a_color, .int a_touches, .ref a_painted, .int a_paints])), (a_terms, .inr (11, [.ref a_terms_kind, .ref a_terms_name, .ref a_terms_first, .ref a_terms_many, .ref a_terms_part, .ref a_terms_number, .int a_terms_size, .int a_terms_parts])), (a_terms_kind, .inl (cs 0, a_terms_kind_n, .inl a_terms_kind_f)), (a_terms_name, .inl (cs 0, a_terms_name_n, .inl a_terms_name_f)), (a_terms_first, .inl (cs 0, a_terms_first_n, .inl a_terms_first_f)), (a_terms_many, .inl (cs 0, a_terms_many_n, .inl a_terms_many_f)), (a_terms_part, .inl (cs 0, a_terms_part_n, .inl a_terms_part_f)), (a_register, .inl (cs 0, a_register_n, .inl a_register_f)), (a_became, .inl (cs 0, a_became_n, .inl a_became_f)), (a_node, .inl (cs 0, a_node_n, .inl a_node_f))] := ⟨hP, hD⟩
    refine lv_if_ne hx hb d_Mo_part_III_12 rfl (fun h15 => ?_) (fun h15 => ?_)
    · rw [if_neg h15] at hok
      exact J12 _ _ _ (lv_sub hl [0, 1, 2, 3] rfl) (sub3 hP hD [0, 1, 2, 3, 4, 5, 6, 7, 8, 9] (by decide)) hS hok
    · rw [if_pos h15] at hok
      refine lv_iload_n hx hb d_Mo_part_III_15 rfl (lv_at hl 3 rfl) ?_
      refine lv_iconst (v := 1) hx hb d_Mo_part_III_16 (by decide) ?_
      refine lv_icmp_ge hx hb d_Mo_part_III_17 rfl (fun h16 => ?_) (fun h16 => ?_)
      · rw [if_pos h16] at hok
        refine lv_iconst (v := 0) hx hb d_Mo_part_III_24 (by decide) ?_
        exact J2 _ _ _ (0 : Int32) (lv_sub hl [0, 1, 2, 3] rfl) (sub3 hP hD [0, 1, 2, 3, 4, 5, 6, 7, 8, 9] (by decide)) hS hok
      · rw [if_neg h16] at hok
        exact J12 _ _ _ (lv_sub hl [0, 1, 2, 3] rfl) (sub3 hP hD [0, 1, 2, 3, 4, 5, 6, 7, 8, 9] (by decide)) hS hok

theorem d_Mo_word_0 : decode b_Mo_word 0 = .ok (.aload_n 0, 1) := by decide +kernel
theorem d_Mo_word_1 : decode b_Mo_word 1 = .ok (.iconst 0, 1) := by decide +kernel
theorem d_Mo_word_2 : decode b_Mo_word 2 = .ok (.putfield 91, 3) := by decide +kernel
theorem d_Mo_word_5 : decode b_Mo_word 5 = .ok (.iload_n 1, 1) := by decide +kernel
theorem d_Mo_word_6 : decode b_Mo_word 6 = .ok (.ifCond .lt 11, 3) := by decide +kernel
theorem d_Mo_word_9 : decode b_Mo_word 9 = .ok (.iload_n 1, 1) := by decide +kernel
theorem d_Mo_word_10 : decode b_Mo_word 10 = .ok (.aload_n 0, 1) := by decide +kernel
theorem d_Mo_word_11 : decode b_Mo_word 11 = .ok (.getfield 189, 3) := by decide +kernel
theorem d_Mo_word_14 : decode b_Mo_word 14 = .ok (.if_icmp .lt 10, 3) := by decide +kernel
theorem d_Mo_word_17 : decode b_Mo_word 17 = .ok (.aload_n 0, 1) := by decide +kernel
theorem d_Mo_word_18 : decode b_Mo_word 18 = .ok (.iconst 1, 1) := by decide +kernel
theorem d_Mo_word_19 : decode b_Mo_word 19 = .ok (.invokevirtual 94, 3) := by decide +kernel
theorem d_Mo_word_22 : decode b_Mo_word 22 = .ok (.i2l, 1) := by decide +kernel
theorem d_Mo_word_23 : decode b_Mo_word 23 = .ok (.lreturn, 1) := by decide +kernel
theorem d_Mo_word_24 : decode b_Mo_word 24 = .ok (.lconst 0, 1) := by decide +kernel
theorem d_Mo_word_25 : decode b_Mo_word 25 = .ok (.lstore_n 2, 1) := by decide +kernel
theorem d_Mo_word_26 : decode b_Mo_word 26 = .ok (.iload_n 1, 1) := by decide +kernel
theorem d_Mo_word_27 : decode b_Mo_word 27 = .ok (.istore 4, 2) := by decide +kernel
theorem d_Mo_word_29 : decode b_Mo_word 29 = .ok (.iload 4, 2) := by decide +kernel
theorem d_Mo_word_31 : decode b_Mo_word 31 = .ok (.iload_n 1, 1) := by decide +kernel
theorem d_Mo_word_32 : decode b_Mo_word 32 = .ok (.bipush 8, 2) := by decide +kernel
theorem d_Mo_word_34 : decode b_Mo_word 34 = .ok (.iadd, 1) := by decide +kernel
theorem d_Mo_word_35 : decode b_Mo_word 35 = .ok (.if_icmp .ge 40, 3) := by decide +kernel
theorem d_Mo_word_38 : decode b_Mo_word 38 = .ok (.lload_n 2, 1) := by decide +kernel
theorem d_Mo_word_39 : decode b_Mo_word 39 = .ok (.bipush 8, 2) := by decide +kernel
theorem d_Mo_word_41 : decode b_Mo_word 41 = .ok (.lshl, 1) := by decide +kernel
theorem d_Mo_word_42 : decode b_Mo_word 42 = .ok (.iload 4, 2) := by decide +kernel
theorem d_Mo_word_44 : decode b_Mo_word 44 = .ok (.aload_n 0, 1) := by decide +kernel
theorem d_Mo_word_45 : decode b_Mo_word 45 = .ok (.getfield 189, 3) := by decide +kernel
theorem d_Mo_word_48 : decode b_Mo_word 48 = .ok (.if_icmp .ge 17, 3) := by decide +kernel
theorem d_Mo_word_51 : decode b_Mo_word 51 = .ok (.aload_n 0, 1) := by decide +kernel
theorem d_Mo_word_52 : decode b_Mo_word 52 = .ok (.getfield 17, 3) := by decide +kernel
theorem d_Mo_word_55 : decode b_Mo_word 55 = .ok (.iload 4, 2) := by decide +kernel
theorem d_Mo_word_57 : decode b_Mo_word 57 = .ok (.baload, 1) := by decide +kernel
theorem d_Mo_word_58 : decode b_Mo_word 58 = .ok (.sipush 255, 3) := by decide +kernel
theorem d_Mo_word_61 : decode b_Mo_word 61 = .ok (.iand, 1) := by decide +kernel
theorem d_Mo_word_62 : decode b_Mo_word 62 = .ok (.goto 4, 3) := by decide +kernel
theorem d_Mo_word_65 : decode b_Mo_word 65 = .ok (.iconst 0, 1) := by decide +kernel
theorem d_Mo_word_66 : decode b_Mo_word 66 = .ok (.i2l, 1) := by decide +kernel
theorem d_Mo_word_67 : decode b_Mo_word 67 = .ok (.lor, 1) := by decide +kernel
theorem d_Mo_word_68 : decode b_Mo_word 68 = .ok (.lstore_n 2, 1) := by decide +kernel
theorem d_Mo_word_69 : decode b_Mo_word 69 = .ok (.iinc 4 1, 3) := by decide +kernel
theorem d_Mo_word_72 : decode b_Mo_word 72 = .ok (.goto (-43), 3) := by decide +kernel
theorem d_Mo_word_75 : decode b_Mo_word 75 = .ok (.lload_n 2, 1) := by decide +kernel
theorem d_Mo_word_76 : decode b_Mo_word 76 = .ok (.lreturn, 1) := by decide +kernel
def p_Mo_word_29 (n : Nat) (i : Int32) (a_resulted : Int32) (a_result_n : Nat) (a_result_f : Nat → Int32) (kf4 : Nat) (x4_4 : Int32) (x2_4 : Int64) : Option (Int64 × Int32) := match kf4 with
  | 0 => none
  | kf4 + 1 => if (i + 8) ≤ x4_4 then (some (x2_4, (0 : Int32))) else (if a_resulted ≤ x4_4 then (p_Mo_word_29 n i a_resulted a_result_n a_result_f kf4 (x4_4 + 1) ((x2_4 <<< ((8 : Int32).toInt64 &&& 63)) ||| ((0 : Int32).toInt64))) else (ck (ixb x4_4 a_result_n) (p_Mo_word_29 n i a_resulted a_result_n a_result_f kf4 (x4_4 + 1) ((x2_4 <<< ((8 : Int32).toInt64 &&& 63)) ||| (((a_result_f x4_4.toNatClampNeg) &&& 255).toInt64)))))
def p_Mo_word (n : Nat) (i : Int32) (a_thrown : Int32) (a_taped : Int32) (a_place : Int32) (a_resulted : Int32) (a_marks : Int32) (a_touches : Int32) (a_paints : Int32) (a_result_n : Nat) (a_result_f : Nat → Int32) : Option (Int64 × Int32) := if i < 0 then ((p_Mo_fail (1 : Int32) (0 : Int32) a_taped a_place a_resulted a_marks a_touches a_paints).bind (fun (r2, a_thrown_2) => some (r2.toInt64, a_thrown_2))) else (if i < a_resulted then (p_Mo_word_29 n i a_resulted a_result_n a_result_f n i (0 : Int64)) else ((p_Mo_fail (1 : Int32) (0 : Int32) a_taped a_place a_resulted a_marks a_touches a_paints).bind (fun (r8, a_thrown_8) => some (r8.toInt64, a_thrown_8))))
set_option maxHeartbeats 40000000 in
set_option maxRecDepth 100000 in
theorem c_Mo_word (l : Launch) (g : va_G) (cs : Nat → ClassId) (ka : Nat → Nat) (a_tape : Nat) (a_terms : Nat) (a_names : Nat) (a_reader : Nat) (a_paper : Nat) (a_register : Nat) (a_became : Nat) (a_node : Nat) (a_marked : Nat) (a_markedRegister : Nat) (a_up : Nat) (a_touched : Nat) (a_todo : Nat) (a_color : Nat) (a_painted : Nat) (a a_result : Nat) (sz : Nat) (n : Nat) (i : Int32) (a_thrown : Int32) (a_taped : Int32) (a_place : Int32) (a_resulted : Int32) (a_marks : Int32) (a_touches : Int32) (a_paints : Int32) (a_result_n : Nat) (a_result_f : Nat → Int32) (r : Int64) (o_a_thrown : Int32) (hok : p_Mo_word n i a_thrown a_taped a_place a_resulted a_marks a_touches a_paints a_result_n a_result_f = some (r, o_a_thrown)) : Met l y_Mo_word (.code y_Mo_word b_Mo_word 5 (some .long) :: GW) { frames := 1, cells := 0, slots := 0, locals := 21 } (va_Pc [.ref a, .int i] (gP g cs ka [(a, .inr (14, [.int a_thrown, .int a_taped, .int a_place, .int a_resulted, .int a_marks, .ref a_tape, .ref a_result, .ref a_terms, .ref a_names, .ref a_reader, .ref a_paper, .ref a_register, .ref a_became, .ref a_node, .ref a_marked, .ref a_markedRegister, .ref a_up, .ref a_touched, .ref a_todo, .ref a_color, .int a_touches, .ref a_painted, .int a_paints])), (a_result, .inl (cs 1, a_result_n, .inl a_result_f))] sz)) (va_Ql (fun (r' : Int64) (_ : Unit) => r = r') (fun _ t => va_P g classes [(a, .inr (14, [.int o_a_thrown, .int a_taped, .int a_place, .int a_resulted, .int a_marks, .ref a_tape, .ref a_result, .ref a_terms, .ref a_names, .ref a_reader, .ref a_paper, .ref a_register, .ref a_became, .ref a_node, .ref a_marked, .ref a_markedRegister, .ref a_up, .ref a_touched, .ref a_todo, .ref a_color, .int a_touches, .ref a_painted, .int a_paints])), (a_result, .inl (cs 1, a_result_n, .inl a_result_f))] t.heap ∧ va_D (va_A [(a, .inr (14, [.int a_thrown, .int a_taped, .int a_place, .int a_resulted, .int a_marks, .ref a_tape, .ref a_result, .ref a_terms, .ref a_names, .ref a_reader, .ref a_paper, .ref a_register, .ref a_became, .ref a_node, .ref a_marked, .ref a_markedRegister, .ref a_up, .ref a_touched, .ref a_todo, .ref a_color, .int a_touches, .ref a_painted, .int a_paints])), (a_result, .inl (cs 1, a_result_n, .inl a_result_f))] sz) [(a, .inr (14, [.int o_a_thrown, .int a_taped, .int a_place, .int a_resulted, .int a_marks, .ref a_tape, .ref a_result, .ref a_terms, .ref a_names, .ref a_reader, .ref a_paper, .ref a_register, .ref a_became, .ref a_node, .ref a_marked, .ref a_markedRegister, .ref a_up, .ref a_touched, .ref a_todo, .ref a_color, .int a_touches, .ref a_painted, .int a_paints])), (a_result, .inl (cs 1, a_result_n, .inl a_result_f))]) (va_A [(a, .inr (14, [.int a_thrown, .int a_taped, .int a_place, .int a_resulted, .int a_marks, .ref a_tape, .ref a_result, .ref a_terms, .ref a_names, .ref a_reader, .ref a_paper, .ref a_register, .ref a_became, .ref a_node, .ref a_marked, .ref a_markedRegister, .ref a_up, .ref a_touched, .ref a_todo, .ref a_color, .int a_touches, .ref a_painted, .int a_paints])), (a_result, .inl (cs 1, a_result_n, .inl a_result_f))] sz)) 0 0 (va_A [(a, .inr (14, [.int a_thrown, .int a_taped, .int a_place, .int a_resulted, .int a_marks, .ref a_tape, .ref a_result, .ref a_terms, .ref a_names, .ref a_reader, .ref a_paper, .ref a_register, .ref a_became, .ref a_node, .ref a_marked, .ref a_markedRegister, .ref a_up, .ref a_touched, .ref a_todo, .ref a_color, .int a_touches, .ref a_painted, .int a_paints])), (a_result, .inl (cs 1, a_result_n, .inl a_result_f))] sz) := by
  refine Met.ofW (cc := b_Mo_word) (maxL := 5) (ret := (some .long)) (by decide) rfl ?_
  intro p e s m args below meth c s₁ B hml hv
  obtain ⟨rfl, hsz, hP, hK, hD0, hgl, hkn, hkr⟩ := hv
  have hx := B.exec
  have hb := B.bytes
  have hr := B.returns
  have hg : ∀ w ∈ GW, w.before ([.ref a, .int i] : List Value).toArray s = true := fun w hw => atoms_spec (ws := .code y_Mo_word b_Mo_word 5 (some .long) :: GW) B.pre w (List.mem_cons_of_mem _ hw)
  have hown : s.vm.findClass R_Mo = some m.cls := findClass_of_methodNamed B.named
  have hlocks := B.notSynchronized
  subst hsz
  have hD := hD0.self (sz := s.heap.size)
  generalize hAe : va_A [(a, .inr (14, [.int a_thrown, .int a_taped, .int a_place, .int a_resulted, .int a_marks, .ref a_tape, .ref a_result, .ref a_terms, .ref a_names, .ref a_reader, .ref a_paper, .ref a_register, .ref a_became, .ref a_node, .ref a_marked, .ref a_markedRegister, .ref a_up, .ref a_touched, .ref a_todo, .ref a_color, .int a_touches, .ref a_painted, .int a_paints])), (a_result, .inl (cs 1, a_result_n, .inl a_result_f))] s.heap.size = A at hD hkn ⊢
  have hA : ∀ q : Nat, s.heap.size ≤ q → A q := fun q h => by rw [← hAe]; exact Or.inr h
  have hS : va_S A s.heap s.heap [] := va_S.rf
  have hP : va_P g classes [(a, .inr (14, [.int a_thrown, .int a_taped, .int a_place, .int a_resulted, .int a_marks, .ref a_tape, .ref a_result, .ref a_terms, .ref a_names, .ref a_reader, .ref a_paper, .ref a_register, .ref a_became, .ref a_node, .ref a_marked, .ref a_markedRegister, .ref a_up, .ref a_touched, .ref a_todo, .ref a_color, .int a_touches, .ref a_painted, .int a_paints])), (a_result, .inl (cs 1, a_result_n, .inl a_result_f))] s.heap := hP
  have hl := lv_entry ([.ref a, .int i]) (n := 5) (Nat.le_of_ble_eq_true rfl)
  rw [lg_entry_eq]
  generalize (lg_sl ([.ref a, .int i]) ++ List.replicate (5 - (lg_sl ([.ref a, .int i])).length) Slot.unset).toArray = ls at hl ⊢
  have hl : lv_has ls 5 [(0, .ref a), (1, .int i)] := hl
  refine gq (fun Q hQ => ?_)
  obtain ⟨H, hH⟩ : ∃ H : Heap, H = s.heap := ⟨_, rfl⟩
  rw [← hH] at hP
  have hS : va_S A s.heap H [] := by rw [hH]; exact hS
  refine W.eqH hH ?_
  obtain ⟨locs, hlc⟩ : ∃ L : List Loc, L = [] := ⟨_, rfl⟩
  rw [← hlc] at hS ⊢
  unfold p_Mo_word at hok
  refine lv_aload_n hx hb d_Mo_word_0 rfl (lv_at hl 0 rfl) ?_
  refine lv_iconst (v := 0) hx hb d_Mo_word_1 (by decide) ?_
  refine va_put (D := g) (ci := 14) (v := .int 0) (ty := .int) (C := R_Mo) (T := F_Mo) (N := 23) hx hb hg ul_Mo t_Mo tk_Mo n_Mo hown hK hP hD hS 0 rfl rfl 0 (by decide) (hg _ wd_776) (fun _ h9 => h9) rfl (by decide +kernel) rfl rfl (Nat.le_of_ble_eq_true rfl) d_Mo_word_2 (fun H locs hP hD hS => ?_)
  obtain ⟨hP, hD⟩ : PD g A H [(a, .inr (14, [.int 0, .int a_taped, .int a_place, .int a_resulted, .int a_marks, .ref a_tape, .ref a_result, .ref a_terms, .ref a_names, .ref a_reader, .ref a_paper, .ref a_register, .ref a_became, .ref a_node, .ref a_marked, .ref a_markedRegister, .ref a_up, .ref a_touched, .ref a_todo, .ref a_color, .int a_touches, .ref a_painted, .int a_paints])), (a_result, .inl (cs 1, a_result_n, .inl a_result_f))] := ⟨hP, hD⟩
  refine lv_iload_n hx hb d_Mo_word_5 rfl (lv_at hl 1 rfl) ?_
  refine lv_if_lt hx hb d_Mo_word_6 rfl (fun h1 => ?_) (fun h1 => ?_)
  · rw [if_pos h1] at hok
    refine lv_aload_n hx hb d_Mo_word_17 rfl (lv_at hl 0 rfl) ?_
    refine lv_iconst (v := 1) hx hb d_Mo_word_18 (by decide) ?_
    obtain ⟨⟨r2, a_thrown_2⟩, hc2, hok⟩ := bd_some hok
    dsimp only at hok
    obtain ⟨hPc, hDc, hFc⟩ := cut0 (wc := [(a, .inr (14, [.int 0, .int a_taped, .int a_place, .int a_resulted, .int a_marks, .ref a_tape, .ref a_result, .ref a_terms, .ref a_names, .ref a_reader, .ref a_paper, .ref a_register, .ref a_became, .ref a_node, .ref a_marked, .ref a_markedRegister, .ref a_up, .ref a_touched, .ref a_todo, .ref a_color, .int a_touches, .ref a_painted, .int a_paints]))]) hP hD hS hA [0] (by decide) rfl
    refine va_calli (va_runV (As := [.int 1]) (rest := []) ⟨hx, hb, hml, hown, hg⟩ (c_Mo_fail l g cs ka a_tape a_result a_terms a_names a_reader a_paper a_register a_became a_node a_marked a_markedRegister a_up a_touched a_todo a_color a_painted a H.size (1 : Int32) (0 : Int32) a_taped a_place a_resulted a_marks a_touches a_paints r2 a_thrown_2 hc2) (cwV (C := R_Mo) 1 hg (gw_V wd_785 wd_786 wd_787 wd_780 wd_784) rfl rfl rfl (by decide +kernel) ⟨Nat.le_of_ble_eq_true rfl, Nat.le_of_ble_eq_true rfl⟩) ⟨gP_blind, va_recv (q0 := 0) (ci := 14) (q := (R_Mo, F_Mo, 23)) hK hP rfl rfl, gP_pre hPc hDc hK hgl hkn hkr hS hFc⟩ rfl rfl hl.1 rfl (lv_room (Nat.le_of_ble_eq_true rfl)) d_Mo_word_19 ⟨Nat.le_of_ble_eq_true rfl, Nat.le_of_ble_eq_true rfl⟩) hS (fun q _ h => hFc q h) hFc (fun r2' u t H locs ht hvm hr2 hB hz1 hk1 hS => ?_)
    subst hr2
    rw [ht] at hB
    obtain ⟨hP1, hD1⟩ := hB
    obtain ⟨hP, hD⟩ := jn_A hP hD [0] [1] rfl rfl (by decide) (by decide) hk1 hFc hP1 hD1
    obtain ⟨hP, hD⟩ : PD g A H [(a_result, .inl (cs 1, a_result_n, .inl a_result_f)), (a, .inr (14, [.int a_thrown_2, .int a_taped, .int a_place, .int a_resulted, .int a_marks, .ref a_tape, .ref a_result, .ref a_terms, .ref a_names, .ref a_reader, .ref a_paper, .ref a_register, .ref a_became, .ref a_node, .ref a_marked, .ref a_markedRegister, .ref a_up, .ref a_touched, .ref a_todo, .ref a_color, .int a_touches, .ref a_painted, .int a_paints]))] := ⟨hP, hD⟩
    refine lv_i2l hx hb d_Mo_word_22 rfl ?_
    have hq := Option.some.inj hok
    obtain ⟨hq0, hq⟩ := Prod.mk.inj hq
    have hq1 := hq
    subst hq0
    subst hq1
    obtain ⟨hP9, hD9⟩ := sub2 (ws' := [(a, .inr (14, [.int a_thrown_2, .int a_taped, .int a_place, .int a_resulted, .int a_marks, .ref a_tape, .ref a_result, .ref a_terms, .ref a_names, .ref a_reader, .ref a_paper, .ref a_register, .ref a_became, .ref a_node, .ref a_marked, .ref a_markedRegister, .ref a_up, .ref a_touched, .ref a_todo, .ref a_color, .int a_touches, .ref a_painted, .int a_paints])), (a_result, .inl (cs 1, a_result_n, .inl a_result_f))]) hP hD [1, 0] rfl (by decide) rfl
    rw [hQ]
    exact W.lret (v := r2.toInt64) hx hb hr (fun t ht hW => ⟨⟨_, (), rfl, rfl, by rw [ht]; exact hP9, hD9⟩, hS.F ht⟩) hS.2.2 d_Mo_word_23
  · rw [if_neg h1] at hok
    refine lv_iload_n hx hb d_Mo_word_9 rfl (lv_at hl 1 rfl) ?_
    refine lv_aload_n hx hb d_Mo_word_10 rfl (lv_at hl 0 rfl) ?_
    refine va_get (D := g) (ci := 14) (v := .int a_resulted) (C := R_Mo) (T := F_Mo) (N := 23) hx hb hg ul_Mo hown hK hP 0 rfl rfl 3 (by decide) (hg _ wd_837) (fun _ h9 => h9) rfl d_Mo_word_11 ?_
    refine lv_icmp_lt hx hb d_Mo_word_14 rfl (fun h3 => ?_) (fun h3 => ?_)
    · rw [if_pos h3] at hok
      refine lv_lconst (v := 0) hx hb d_Mo_word_24 (by decide) ?_
      refine lv_lstore_n hx hb d_Mo_word_25 rfl hl (by decide) rfl (fun ls hl => ?_)
      have hl : lv_has ls 5 [(2, .long 0), (0, .ref a), (1, .int i)] := hl
      refine lv_iload_n hx hb d_Mo_word_26 rfl (lv_at hl 2 rfl) ?_
      refine lv_istore hx hb d_Mo_word_27 hl (by decide) rfl (fun ls hl => ?_)
      have hl : lv_has ls 5 [(4, .int i), (2, .long 0), (0, .ref a), (1, .int i)] := hl
      have J4 : ∀ (kf4 : Nat) (H : Heap) (locs : List Loc) (ls : Array Slot) (x4_4 : Int32) (x2_4 : Int64), lv_has ls 5 [(4, .int x4_4), (2, .long x2_4), (0, .ref a), (1, .int i)] → PD g A H [(a, .inr (14, [.int 0, .int a_taped, .int a_place, .int a_resulted, .int a_marks, .ref a_tape, .ref a_result, .ref a_terms, .ref a_names, .ref a_reader, .ref a_paper, .ref a_register, .ref a_became, .ref a_node, .ref a_marked, .ref a_markedRegister, .ref a_up, .ref a_touched, .ref a_todo, .ref a_color, .int a_touches, .ref a_painted, .int a_paints])), (a_result, .inl (cs 1, a_result_n, .inl a_result_f))] → va_S A s.heap H locs → p_Mo_word_29 n i a_resulted a_result_n a_result_f kf4 x4_4 x2_4 = some (r, o_a_thrown) → W p l e (headSpec (.code y_Mo_word b_Mo_word 5 (some .long) :: GW) { frames := 1, cells := 0, slots := 0, locals := 21 }).room s m ([.ref a, .int i] : List Value).toArray below meth c H locs 0 0 Q (F0 m 29 ls []) := by
        intro kf4
        induction kf4 with
        | zero => intro H locs ls x4_4 x2_4 hl ⟨hP, hD⟩ hS hok; rw [p_Mo_word_29] at hok; cases hok
        | succ kf4 ih4 =>
          intro H locs ls x4_4 x2_4 hl ⟨hP, hD⟩ hS hok
          rw [p_Mo_word_29] at hok
          refine lv_iload hx hb d_Mo_word_29 (lv_at hl 0 rfl) ?_
          refine lv_iload_n hx hb d_Mo_word_31 rfl (lv_at hl 3 rfl) ?_
          refine lv_bipush (v := 8) hx hb d_Mo_word_32 (by decide) ?_
          refine lv_iadd hx hb d_Mo_word_34 ?_
          refine lv_icmp_ge hx hb d_Mo_word_35 rfl (fun h5 => ?_) (fun h5 => ?_)
          · rw [if_pos h5] at hok
            refine lv_lload_n hx hb d_Mo_word_75 rfl (lv_at hl 1 rfl) ?_
            have hq := Option.some.inj hok
            obtain ⟨hq0, hq⟩ := Prod.mk.inj hq
            have hq1 := hq
            subst hq0
            subst hq1
            obtain ⟨hP9, hD9⟩ := sub2 (ws' := [(a, .inr (14, [.int 0, .int a_taped, .int a_place, .int a_resulted, .int a_marks, .ref a_tape, .ref a_result, .ref a_terms, .ref a_names, .ref a_reader, .ref a_paper, .ref a_register, .ref a_became, .ref a_node, .ref a_marked, .ref a_markedRegister, .ref a_up, .ref a_touched, .ref a_todo, .ref a_color, .int a_touches, .ref a_painted, .int a_paints])), (a_result, .inl (cs 1, a_result_n, .inl a_result_f))]) hP hD [0, 1] rfl (by decide) rfl
            rw [hQ]
            exact W.lret (v := x2_4) hx hb hr (fun t ht hW => ⟨⟨_, (), rfl, rfl, by rw [ht]; exact hP9, hD9⟩, hS.F ht⟩) hS.2.2 d_Mo_word_76
          · rw [if_neg h5] at hok
            refine lv_lload_n hx hb d_Mo_word_38 rfl (lv_at hl 1 rfl) ?_
            refine lv_bipush (v := 8) hx hb d_Mo_word_39 (by decide) ?_
            refine lv_lshl hx hb d_Mo_word_41 rfl ?_
            refine lv_iload hx hb d_Mo_word_42 (lv_at hl 0 rfl) ?_
            refine lv_aload_n hx hb d_Mo_word_44 rfl (lv_at hl 2 rfl) ?_
            refine va_get (D := g) (ci := 14) (v := .int a_resulted) (C := R_Mo) (T := F_Mo) (N := 23) hx hb hg ul_Mo hown hK hP 0 rfl rfl 3 (by decide) (hg _ wd_837) (fun _ h9 => h9) rfl d_Mo_word_45 ?_
            refine lv_icmp_ge hx hb d_Mo_word_48 rfl (fun h6 => ?_) (fun h6 => ?_)
            · rw [if_pos h6] at hok
              refine lv_iconst (v := 0) hx hb d_Mo_word_65 (by decide) ?_
              refine lv_i2l hx hb d_Mo_word_66 rfl ?_
              refine lv_lor hx hb d_Mo_word_67 ?_
              refine lv_lstore_n hx hb d_Mo_word_68 rfl hl (by decide) rfl (fun ls hl => ?_)
              have hl : lv_has ls 5 [(2, .long ((x2_4 <<< ((8 : Int32).toInt64 &&& 63)) ||| ((0 : Int32).toInt64))), (4, .int x4_4), (0, .ref a), (1, .int i)] := hl
              refine lv_iinc (k := 1) (v := x4_4 + 1) hx hb d_Mo_word_69 hl rfl rfl (by decide) rfl (fun ls hl => ?_)
              have hl : lv_has ls 5 [(4, .int (x4_4 + 1)), (2, .long ((x2_4 <<< ((8 : Int32).toInt64 &&& 63)) ||| ((0 : Int32).toInt64))), (0, .ref a), (1, .int i)] := hl
              refine lv_goto hx hb d_Mo_word_72 rfl ?_
              exact ih4 _ _ _ (x4_4 + 1) ((x2_4 <<< ((8 : Int32).toInt64 &&& 63)) ||| ((0 : Int32).toInt64)) (lv_sub hl [0, 1, 2, 3] rfl) (sub3 hP hD [0, 1] (by decide)) hS hok
            · rw [if_neg h6] at hok
              refine lv_aload_n hx hb d_Mo_word_51 rfl (lv_at hl 2 rfl) ?_
              refine va_get (D := g) (ci := 14) (v := .ref a_result) (C := R_Mo) (T := F_Mo) (N := 23) hx hb hg ul_Mo hown hK hP 0 rfl rfl 6 (by decide) (hg _ wd_838) (fun _ h9 => h9) rfl d_Mo_word_52 ?_
              refine lv_iload hx hb d_Mo_word_55 (lv_at hl 0 rfl) ?_
              obtain ⟨hi7, hok⟩ := ck_some hok
              refine va_bald hx hb hK hP 1 1 rfl rfl (ixb_in hi7) d_Mo_word_57 ?_
              refine lv_sipush (v := 255) hx hb d_Mo_word_58 (by decide) ?_
              refine lv_iand hx hb d_Mo_word_61 ?_
              refine lv_goto hx hb d_Mo_word_62 rfl ?_
              refine lv_i2l hx hb d_Mo_word_66 rfl ?_
              refine lv_lor hx hb d_Mo_word_67 ?_
              refine lv_lstore_n hx hb d_Mo_word_68 rfl hl (by decide) rfl (fun ls hl => ?_)
              have hl : lv_has ls 5 [(2, .long ((x2_4 <<< ((8 : Int32).toInt64 &&& 63)) ||| (((a_result_f x4_4.toNatClampNeg) &&& 255).toInt64))), (4, .int x4_4), (0, .ref a), (1, .int i)] := hl
              refine lv_iinc (k := 1) (v := x4_4 + 1) hx hb d_Mo_word_69 hl rfl rfl (by decide) rfl (fun ls hl => ?_)
              have hl : lv_has ls 5 [(4, .int (x4_4 + 1)), (2, .long ((x2_4 <<< ((8 : Int32).toInt64 &&& 63)) ||| (((a_result_f x4_4.toNatClampNeg) &&& 255).toInt64))), (0, .ref a), (1, .int i)] := hl
              refine lv_goto hx hb d_Mo_word_72 rfl ?_
              exact ih4 _ _ _ (x4_4 + 1) ((x2_4 <<< ((8 : Int32).toInt64 &&& 63)) ||| (((a_result_f x4_4.toNatClampNeg) &&& 255).toInt64)) (lv_sub hl [0, 1, 2, 3] rfl) (sub3 hP hD [0, 1] (by decide)) hS hok
      exact J4 n H locs ls i (0 : Int64) hl ⟨hP, hD⟩ hS hok
    · rw [if_neg h3] at hok
      refine lv_aload_n hx hb d_Mo_word_17 rfl (lv_at hl 0 rfl) ?_
      refine lv_iconst (v := 1) hx hb d_Mo_word_18 (by decide) ?_
      obtain ⟨⟨r8, a_thrown_8⟩, hc8, hok⟩ := bd_some hok
      dsimp only at hok
      obtain ⟨hPc, hDc, hFc⟩ := cut0 (wc := [(a, .inr (14, [.int 0, .int a_taped, .int a_place, .int a_resulted, .int a_marks, .ref a_tape, .ref a_result, .ref a_terms, .ref a_names, .ref a_reader, .ref a_paper, .ref a_register, .ref a_became, .ref a_node, .ref a_marked, .ref a_markedRegister, .ref a_up, .ref a_touched, .ref a_todo, .ref a_color, .int a_touches, .ref a_painted, .int a_paints]))]) hP hD hS hA [0] (by decide) rfl
      refine va_calli (va_runV (As := [.int 1]) (rest := []) ⟨hx, hb, hml, hown, hg⟩ (c_Mo_fail l g cs ka a_tape a_result a_terms a_names a_reader a_paper a_register a_became a_node a_marked a_markedRegister a_up a_touched a_todo a_color a_painted a H.size (1 : Int32) (0 : Int32) a_taped a_place a_resulted a_marks a_touches a_paints r8 a_thrown_8 hc8) (cwV (C := R_Mo) 1 hg (gw_V wd_785 wd_786 wd_787 wd_780 wd_784) rfl rfl rfl (by decide +kernel) ⟨Nat.le_of_ble_eq_true rfl, Nat.le_of_ble_eq_true rfl⟩) ⟨gP_blind, va_recv (q0 := 0) (ci := 14) (q := (R_Mo, F_Mo, 23)) hK hP rfl rfl, gP_pre hPc hDc hK hgl hkn hkr hS hFc⟩ rfl rfl hl.1 rfl (lv_room (Nat.le_of_ble_eq_true rfl)) d_Mo_word_19 ⟨Nat.le_of_ble_eq_true rfl, Nat.le_of_ble_eq_true rfl⟩) hS (fun q _ h => hFc q h) hFc (fun r8' u t H locs ht hvm hr8 hB hz1 hk1 hS => ?_)
      subst hr8
      rw [ht] at hB
      obtain ⟨hP1, hD1⟩ := hB
      obtain ⟨hP, hD⟩ := jn_A hP hD [0] [1] rfl rfl (by decide) (by decide) hk1 hFc hP1 hD1
      obtain ⟨hP, hD⟩ : PD g A H [(a_result, .inl (cs 1, a_result_n, .inl a_result_f)), (a, .inr (14, [.int a_thrown_8, .int a_taped, .int a_place, .int a_resulted, .int a_marks, .ref a_tape, .ref a_result, .ref a_terms, .ref a_names, .ref a_reader, .ref a_paper, .ref a_register, .ref a_became, .ref a_node, .ref a_marked, .ref a_markedRegister, .ref a_up, .ref a_touched, .ref a_todo, .ref a_color, .int a_touches, .ref a_painted, .int a_paints]))] := ⟨hP, hD⟩
      refine lv_i2l hx hb d_Mo_word_22 rfl ?_
      have hq := Option.some.inj hok
      obtain ⟨hq0, hq⟩ := Prod.mk.inj hq
      have hq1 := hq
      subst hq0
      subst hq1
      obtain ⟨hP9, hD9⟩ := sub2 (ws' := [(a, .inr (14, [.int a_thrown_8, .int a_taped, .int a_place, .int a_resulted, .int a_marks, .ref a_tape, .ref a_result, .ref a_terms, .ref a_names, .ref a_reader, .ref a_paper, .ref a_register, .ref a_became, .ref a_node, .ref a_marked, .ref a_markedRegister, .ref a_up, .ref a_touched, .ref a_todo, .ref a_color, .int a_touches, .ref a_painted, .int a_paints])), (a_result, .inl (cs 1, a_result_n, .inl a_result_f))]) hP hD [1, 0] rfl (by decide) rfl
      rw [hQ]
      exact W.lret (v := r8.toInt64) hx hb hr (fun t ht hW => ⟨⟨_, (), rfl, rfl, by rw [ht]; exact hP9, hD9⟩, hS.F ht⟩) hS.2.2 d_Mo_word_23
