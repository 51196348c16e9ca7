theorem tx_at_UB_99 : (tx_at R_UB 99 "java/lang/IllegalArgumentException").all (fun w => decide (w ∈ tables_1) && (goodWord w || ((isNest w && w.onTables) || tx_isS w))) = true := by decide +kernel
theorem wd_626 : ((.classLink "UnifyBench" 97 "java/lang/IllegalArgumentException") : Cond) ∈ GW := gw_3 116 (by decide +kernel) rfl
theorem wd_627 : ((.initialized "java/lang/IllegalArgumentException") : Cond) ∈ GW := gw_1 30 (by decide +kernel) rfl
theorem wd_628 : ((.fieldLink "UnifyBench" 10 "UnifyBench" "tape" "LUnifyBench$Bytes;") : Cond) ∈ GW := gw_2 205 (by decide +kernel) rfl
theorem wd_629 : ((.methodLink "UnifyBench" 181 y_Bytes_add) : Cond) ∈ GW := gw_3 103 (by decide +kernel) rfl
theorem wd_630 : ((.methodLink "UnifyBench" 86 y_Bytes_size) : Cond) ∈ GW := gw_3 30 (by decide +kernel) rfl
theorem wd_631 : ((.code y_UB_addToTape prog_1_method_14_code 3 none) : Cond) ∈ GW := gw_3 102 (by decide +kernel) rfl
theorem wd_632 : ((.initialized "UnifyBench") : Cond) ∈ GW := gw_1 1 (by decide +kernel) rfl
theorem wd_633 : ((.methodLink "UnifyBench" 93 y_UB_addToTape) : Cond) ∈ GW := gw_3 99 (by decide +kernel) rfl
theorem wd_634 : ((.instanceMethod y_UB_addToTape) : Cond) ∈ GW := gw_3 101 (by decide +kernel) rfl
theorem wd_635 : (.selects R_UB y_UB_addToTape y_UB_addToTape : Cond) ∈ GW := gw_pr 4 (by decide +kernel) rfl
theorem tx_at_UB_92 : (tx_at R_UB 92 "java/lang/IndexOutOfBoundsException").all (fun w => decide (w ∈ tables_1) && (goodWord w || ((isNest w && w.onTables) || tx_isS w))) = true := by decide +kernel
theorem wd_636 : ((.classLink "UnifyBench" 90 "java/lang/IndexOutOfBoundsException") : Cond) ∈ GW := gw_3 34 (by decide +kernel) rfl
theorem wd_637 : ((.initialized "java/lang/IndexOutOfBoundsException") : Cond) ∈ GW := gw_1 29 (by decide +kernel) rfl
theorem wd_638 : ((.methodLink "UnifyBench" 100 y_Bytes_cut) : Cond) ∈ GW := gw_3 131 (by decide +kernel) rfl
theorem wd_639 : ((.fieldLink "UnifyBench" 73 "UnifyBench" "marks" "I") : Cond) ∈ GW := gw_2 213 (by decide +kernel) rfl
theorem wd_640 : ((.fieldLink "UnifyBench" 26 "UnifyBench" "terms" "LUnifyBench$Terms;") : Cond) ∈ GW := gw_2 207 (by decide +kernel) rfl
theorem wd_641 : ((.fieldLink "UnifyBench" 69 "UnifyBench" "marked" "LUnifyBench$Ints;") : Cond) ∈ GW := gw_2 212 (by decide +kernel) rfl
theorem wd_642 : ((.code y_Terms_pushBindings prog_11_method_25_code 3 none) : Cond) ∈ GW := gw_5 186 (by decide +kernel) rfl
theorem wd_643 : ((.methodLink "UnifyBench" 152 y_Terms_pushBindings) : Cond) ∈ GW := gw_5 183 (by decide +kernel) rfl
theorem wd_644 : ((.instanceMethod y_Terms_pushBindings) : Cond) ∈ GW := gw_5 184 (by decide +kernel) rfl
theorem wd_645 : ((.selects "UnifyBench$Terms" y_Terms_pushBindings y_Terms_pushBindings) : Cond) ∈ GW := gw_5 185 (by decide +kernel) rfl
theorem wd_646 : ((.fieldLink "UnifyBench" 62 "UnifyBench" "registers" "[I") : Cond) ∈ GW := gw_2 211 (by decide +kernel) rfl
theorem wd_647 : ((.methodLink "UnifyBench" 149 y_Ints_push) : Cond) ∈ GW := gw_5 182 (by decide +kernel) rfl
theorem wd_648 : ((.code y_Terms_popBindings prog_11_method_26_code 3 none) : Cond) ∈ GW := gw_5 197 (by decide +kernel) rfl
theorem wd_649 : ((.methodLink "UnifyBench" 156 y_Terms_popBindings) : Cond) ∈ GW := gw_5 194 (by decide +kernel) rfl
theorem wd_650 : ((.instanceMethod y_Terms_popBindings) : Cond) ∈ GW := gw_5 195 (by decide +kernel) rfl
theorem wd_651 : ((.selects "UnifyBench$Terms" y_Terms_popBindings y_Terms_popBindings) : Cond) ∈ GW := gw_5 196 (by decide +kernel) rfl
theorem wd_652 : ((.methodLink "UnifyBench" 159 y_Ints_pop) : Cond) ∈ GW := gw_5 199 (by decide +kernel) rfl
theorem tx_at_UB_144 : (tx_at R_UB 144 "java/util/NoSuchElementException").all (fun w => decide (w ∈ tables_1) && (goodWord w || ((isNest w && w.onTables) || tx_isS w))) = true := by decide +kernel
theorem wd_653 : ((.classLink "UnifyBench" 142 "java/util/NoSuchElementException") : Cond) ∈ GW := gw_5 159 (by decide +kernel) rfl
theorem wd_654 : ((.initialized "java/util/NoSuchElementException") : Cond) ∈ GW := gw_1 34 (by decide +kernel) rfl
theorem wd_655 : ((.code y_UB_checkRegister prog_1_method_15_code 1 none) : Cond) ∈ GW := gw_3 145 (by decide +kernel) rfl
theorem wd_656 : ((.methodLink "UnifyBench" 103 y_UB_checkRegister) : Cond) ∈ GW := gw_3 143 (by decide +kernel) rfl
theorem wd_657 : ((.static y_UB_checkRegister) : Cond) ∈ GW := gw_3 144 (by decide +kernel) rfl
theorem wd_658 : ((.fieldLink "UnifyBench" 49 "UnifyBench" "unifier" "LUnifyBench$Unifier;") : Cond) ∈ GW := gw_2 209 (by decide +kernel) rfl
theorem wd_659 : ((.code y_Unifier_makeSame prog_12_method_2_code 4 (some .boolean)) : Cond) ∈ GW := gw_5 62 (by decide +kernel) rfl
theorem wd_660 : ((.methodLink "UnifyBench" 128 y_Unifier_makeSame) : Cond) ∈ GW := gw_5 59 (by decide +kernel) rfl
theorem wd_661 : ((.instanceMethod y_Unifier_makeSame) : Cond) ∈ GW := gw_5 60 (by decide +kernel) rfl
theorem wd_662 : ((.selects "UnifyBench$Unifier" y_Unifier_makeSame y_Unifier_makeSame) : Cond) ∈ GW := gw_5 61 (by decide +kernel) rfl
theorem wd_663 : ((.code y_Unifier_areSame prog_12_method_3_code 4 (some .boolean)) : Cond) ∈ GW := gw_5 148 (by decide +kernel) rfl
theorem wd_664 : ((.methodLink "UnifyBench" 132 y_Unifier_areSame) : Cond) ∈ GW := gw_5 145 (by decide +kernel) rfl
theorem wd_665 : ((.instanceMethod y_Unifier_areSame) : Cond) ∈ GW := gw_5 146 (by decide +kernel) rfl
theorem wd_666 : ((.selects "UnifyBench$Unifier" y_Unifier_areSame y_Unifier_areSame) : Cond) ∈ GW := gw_5 147 (by decide +kernel) rfl
theorem wd_667 : ((.methodLink "UnifyBench" 135 y_Terms_meant) : Cond) ∈ GW := gw_5 157 (by decide +kernel) rfl
theorem wd_668 : ((.methodLink "UnifyBench" 139 y_Terms_partsOf) : Cond) ∈ GW := gw_5 158 (by decide +kernel) rfl
theorem wd_669 : ((.methodLink "UnifyBench" 145 y_Terms_partAt) : Cond) ∈ GW := gw_5 174 (by decide +kernel) rfl
theorem wd_670 : ((.methodLink "UnifyBench" 80 y_Arrays_fill) : Cond) ∈ GW := gw_2 204 (by decide +kernel) rfl
theorem wd_671 : ((.code y_Terms_forgetAll prog_11_method_8_code 1 none) : Cond) ∈ GW := gw_3 3 (by decide +kernel) rfl
theorem wd_672 : ((.methodLink "UnifyBench" 162 y_Terms_forgetAll) : Cond) ∈ GW := gw_3 0 (by decide +kernel) rfl
theorem wd_673 : ((.instanceMethod y_Terms_forgetAll) : Cond) ∈ GW := gw_3 1 (by decide +kernel) rfl
theorem wd_674 : ((.selects "UnifyBench$Terms" y_Terms_forgetAll y_Terms_forgetAll) : Cond) ∈ GW := gw_3 2 (by decide +kernel) rfl
theorem wd_675 : ((.fieldLink "UnifyBench" 19 "UnifyBench" "names" "LUnifyBench$Names;") : Cond) ∈ GW := gw_2 206 (by decide +kernel) rfl
theorem wd_676 : ((.code y_Names_forgetAll prog_6_method_15_code 1 none) : Cond) ∈ GW := gw_3 12 (by decide +kernel) rfl
theorem wd_677 : ((.methodLink "UnifyBench" 165 y_Names_forgetAll) : Cond) ∈ GW := gw_3 9 (by decide +kernel) rfl
theorem wd_678 : ((.instanceMethod y_Names_forgetAll) : Cond) ∈ GW := gw_3 10 (by decide +kernel) rfl
theorem wd_679 : ((.selects "UnifyBench$Names" y_Names_forgetAll y_Names_forgetAll) : Cond) ∈ GW := gw_3 11 (by decide +kernel) rfl
theorem wd_680 : ((.methodLink "UnifyBench" 166 y_Ints_cut) : Cond) ∈ GW := gw_3 21 (by decide +kernel) rfl
theorem wd_681 : ((.fieldLink "UnifyBench" 58 "UnifyBench" "printer" "LUnifyBench$Printer;") : Cond) ∈ GW := gw_2 210 (by decide +kernel) rfl
theorem wd_682 : ((.code y_Printer_show prog_8_method_3_code 5 (some .boolean)) : Cond) ∈ GW := gw_5 210 (by decide +kernel) rfl
theorem wd_683 : ((.methodLink "UnifyBench" 167 y_Printer_show) : Cond) ∈ GW := gw_5 207 (by decide +kernel) rfl
theorem wd_684 : ((.instanceMethod y_Printer_show) : Cond) ∈ GW := gw_5 208 (by decide +kernel) rfl
theorem wd_685 : ((.selects "UnifyBench$Printer" y_Printer_show y_Printer_show) : Cond) ∈ GW := gw_5 209 (by decide +kernel) rfl
theorem wd_686 : ((.code y_Printer_result prog_8_method_2_code 1 (some (.object "UnifyBench$Bytes"))) : Cond) ∈ GW := gw_6 55 (by decide +kernel) rfl
theorem wd_687 : ((.methodLink "UnifyBench" 171 y_Printer_result) : Cond) ∈ GW := gw_6 52 (by decide +kernel) rfl
theorem wd_688 : ((.instanceMethod y_Printer_result) : Cond) ∈ GW := gw_6 53 (by decide +kernel) rfl
theorem wd_689 : ((.selects "UnifyBench$Printer" y_Printer_result y_Printer_result) : Cond) ∈ GW := gw_6 54 (by decide +kernel) rfl
theorem wd_690 : ((.methodLink "UnifyBench" 175 y_Bytes_at) : Cond) ∈ GW := gw_6 63 (by decide +kernel) rfl
theorem wd_691 : ((.fieldLink "UnifyBench" 77 "UnifyBench" "place" "I") : Cond) ∈ GW := gw_2 214 (by decide +kernel) rfl
theorem wd_692 : ((.code y_Terms_boundVariables prog_11_method_24_code 3 (some .int)) : Cond) ∈ GW := gw_6 74 (by decide +kernel) rfl
theorem wd_693 : ((.methodLink "UnifyBench" 178 y_Terms_boundVariables) : Cond) ∈ GW := gw_6 71 (by decide +kernel) rfl
theorem wd_694 : ((.instanceMethod y_Terms_boundVariables) : Cond) ∈ GW := gw_6 72 (by decide +kernel) rfl
theorem wd_695 : ((.selects "UnifyBench$Terms" y_Terms_boundVariables y_Terms_boundVariables) : Cond) ∈ GW := gw_6 73 (by decide +kernel) rfl
theorem d_UB_checkRegister_0 : decode b_UB_checkRegister 0 = .ok (.iload_n 0, 1) := by decide +kernel
theorem d_UB_checkRegister_1 : decode b_UB_checkRegister 1 = .ok (.ifCond .lt 9, 3) := by decide +kernel
theorem d_UB_checkRegister_4 : decode b_UB_checkRegister 4 = .ok (.iload_n 0, 1) := by decide +kernel
theorem d_UB_checkRegister_5 : decode b_UB_checkRegister 5 = .ok (.bipush 8, 2) := by decide +kernel
theorem d_UB_checkRegister_7 : decode b_UB_checkRegister 7 = .ok (.if_icmp .lt 11, 3) := by decide +kernel
theorem d_UB_checkRegister_10 : decode b_UB_checkRegister 10 = .ok (.new 97, 3) := by decide +kernel
theorem d_UB_checkRegister_13 : decode b_UB_checkRegister 13 = .ok (.dup, 1) := by decide +kernel
theorem d_UB_checkRegister_14 : decode b_UB_checkRegister 14 = .ok (.invokespecial 99, 3) := by decide +kernel
theorem d_UB_checkRegister_17 : decode b_UB_checkRegister 17 = .ok (.athrow, 1) := by decide +kernel
theorem d_UB_checkRegister_18 : decode b_UB_checkRegister 18 = .ok (.return_, 1) := by decide +kernel
def p_UB_checkRegister (rr : Int32) : Option ((Nat) × Nat × Nat) := if rr < 0 then (al 1 6 (some (1, 0, 0))) else (if rr < 8 then (some (0, 0, 0)) else (al 1 6 (some (1, 0, 0))))
set_option maxHeartbeats 4000000 in
set_option maxRecDepth 100000 in
theorem c_UB_checkRegister (l : Launch) (g : va_G) (cs : Nat → ClassId) (ka : Nat → Nat) (hfl : l.flags = pinnedFlags ++ [noTraceFlag]) (sz : Nat) (rr : Int32) (xc : Nat) (mc ms : Nat) (hok : p_UB_checkRegister rr = some (xc, mc, ms)) : tx_Met l y_UB_checkRegister (.code y_UB_checkRegister b_UB_checkRegister 1 none :: GW) { frames := 6, cells := mc, slots := ms, locals := 90 } (va_Pc [.int rr] (gP g cs ka [] sz)) (fun _ st oc t => (tx_O xc (none) oc t ∧ va_P g classes [] t.heap ∧ va_D (va_A [] sz) []) ∧ va_F (va_A [] sz) st t) mc ms (va_A [] sz) := by
  refine tx_ofW (cc := b_UB_checkRegister) (maxL := 1) (ret := none) (by decide) rfl ?_
  intro p e s m args below meth c s₁ B hml hv
  obtain ⟨rfl, hsz, hP, hK, hD0, hgl, hkn, hkr⟩ := hv
  have hx := B.exec
  have hb := B.bytes
  have hr := B.returns
  have hg : ∀ w ∈ GW, w.before ([.int rr] : List Value).toArray s = true := fun w hw => atoms_spec (ws := .code y_UB_checkRegister b_UB_checkRegister 1 none :: GW) B.pre w (List.mem_cons_of_mem _ hw)
  have hown : s.vm.findClass R_UB = some m.cls := findClass_of_methodNamed B.named
  have hlocks := B.notSynchronized
  have hcd : (Cond.code y_UB_checkRegister b_UB_checkRegister 1 none).before ([.int rr] : List Value).toArray s = true := atoms_spec (ws := .code y_UB_checkRegister b_UB_checkRegister 1 none :: GW) B.pre _ List.mem_cons_self
  subst hsz
  have hD := hD0.self (sz := s.heap.size)
  generalize hAe : va_A [] s.heap.size = A at hD hkn ⊢
  have hA : ∀ q : Nat, s.heap.size ≤ q → A q := fun q h => by rw [← hAe]; exact Or.inr h
  have hS : va_S A s.heap s.heap [] := va_S.rf
  have hP : va_P g classes [] s.heap := hP
  have hl := lv_entry ([.int rr]) (n := 1) (Nat.le_of_ble_eq_true rfl)
  rw [lg_entry_eq]
  generalize (lg_sl ([.int rr]) ++ List.replicate (1 - (lg_sl ([.int rr])).length) Slot.unset).toArray = ls at hl ⊢
  have hl : lv_has ls 1 [(0, .int rr)] := hl
  refine gq (fun Q hQ => ?_)
  obtain ⟨H, hH⟩ : ∃ H : Heap, H = s.heap := ⟨_, rfl⟩
  rw [← hH] at hP
  have hS : va_S A s.heap H [] := by rw [hH]; exact hS
  refine W.eqH hH ?_
  obtain ⟨locs, hlc⟩ : ∃ L : List Loc, L = [] := ⟨_, rfl⟩
  rw [← hlc] at hS ⊢
  unfold p_UB_checkRegister at hok
  refine lv_iload_n hx hb d_UB_checkRegister_0 rfl (lv_at hl 0 rfl) ?_
  refine lv_if_lt hx hb d_UB_checkRegister_1 rfl (fun h1 => ?_) (fun h1 => ?_)
  · rw [if_pos h1] at hok
    obtain ⟨m3, s3, hok, hmc3, hms3⟩ := al_some hok
    obtain ⟨hq, hw⟩ := Prod.mk.inj (Option.some.inj hok)
    obtain ⟨hmc0, hms0⟩ := Prod.mk.inj hw
    have hq0 := hq
    subst hq0
    have hD9 := hD.sub (ws' := []) [] (by decide) rfl
    rw [hQ]
    refine tx_wid (k := 0 + 1) (n := 0 + 6) (by omega) (by omega) ?_
    exact tx_throw (X := "java/lang/IllegalArgumentException") hx hb (hml.trans hl.1.symm) hfl hlocks hown (by decide) (hg _ wd_626) (hg _ wd_627) (tx_before tx_at_UB_99 hg hgl hkn) hkn hP hS hA (tx_noH B hcd 17) (show 0 + 1 ≤ mc from by omega) (show 0 + 6 ≤ ms from by omega) (Nat.le_of_ble_eq_true rfl) (Nat.le_of_ble_eq_true rfl) d_UB_checkRegister_10 d_UB_checkRegister_13 d_UB_checkRegister_14 d_UB_checkRegister_17 (fun t x hPt hSt hW hX => ⟨⟨tx_O.t0 (by decide) hX, hPt.sub (ws' := []) [] rfl, hD9⟩, hSt.F rfl⟩) hS.2.2
  · rw [if_neg h1] at hok
    refine lv_iload_n hx hb d_UB_checkRegister_4 rfl (lv_at hl 0 rfl) ?_
    refine lv_bipush (v := 8) hx hb d_UB_checkRegister_5 (by decide) ?_
    refine lv_icmp_lt hx hb d_UB_checkRegister_7 rfl (fun h4 => ?_) (fun h4 => ?_)
    · rw [if_pos h4] at hok
      obtain ⟨hq, hw⟩ := Prod.mk.inj (Option.some.inj hok)
      obtain ⟨hmc0, hms0⟩ := Prod.mk.inj hw
      have hq0 := hq
      subst hq0
      obtain ⟨hP9, hD9⟩ := sub2 (ws' := []) hP hD [] rfl (by decide) rfl
      refine W.widen (k := mc) (n := ms) (by omega) (by omega) ?_
      rw [hQ]
      exact tx_ret (W.vret hx hb hr (fun t ht hW => ⟨⟨tx_O.r0, by rw [ht]; exact hP9, hD9⟩, hS.F ht⟩) hS.2.2 d_UB_checkRegister_18)
    · rw [if_neg h4] at hok
      obtain ⟨m6, s6, hok, hmc6, hms6⟩ := al_some hok
      obtain ⟨hq, hw⟩ := Prod.mk.inj (Option.some.inj hok)
      obtain ⟨hmc0, hms0⟩ := Prod.mk.inj hw
      have hq0 := hq
      subst hq0
      have hD9 := hD.sub (ws' := []) [] (by decide) rfl
      rw [hQ]
      refine tx_wid (k := 0 + 1) (n := 0 + 6) (by omega) (by omega) ?_
      exact tx_throw (X := "java/lang/IllegalArgumentException") hx hb (hml.trans hl.1.symm) hfl hlocks hown (by decide) (hg _ wd_626) (hg _ wd_627) (tx_before tx_at_UB_99 hg hgl hkn) hkn hP hS hA (tx_noH B hcd 17) (show 0 + 1 ≤ mc from by omega) (show 0 + 6 ≤ ms from by omega) (Nat.le_of_ble_eq_true rfl) (Nat.le_of_ble_eq_true rfl) d_UB_checkRegister_10 d_UB_checkRegister_13 d_UB_checkRegister_14 d_UB_checkRegister_17 (fun t x hPt hSt hW hX => ⟨⟨tx_O.t0 (by decide) hX, hPt.sub (ws' := []) [] rfl, hD9⟩, hSt.F rfl⟩) hS.2.2

theorem d_UB_addToTape_0 : decode b_UB_addToTape 0 = .ok (.bipush 24, 2) := by decide +kernel
theorem d_UB_addToTape_2 : decode b_UB_addToTape 2 = .ok (.istore_n 2, 1) := by decide +kernel
theorem d_UB_addToTape_3 : decode b_UB_addToTape 3 = .ok (.iload_n 2, 1) := by decide +kernel
theorem d_UB_addToTape_4 : decode b_UB_addToTape 4 = .ok (.ifCond .lt 19, 3) := by decide +kernel
theorem d_UB_addToTape_7 : decode b_UB_addToTape 7 = .ok (.aload_n 0, 1) := by decide +kernel
theorem d_UB_addToTape_8 : decode b_UB_addToTape 8 = .ok (.getfield 10, 3) := by decide +kernel
theorem d_UB_addToTape_11 : decode b_UB_addToTape 11 = .ok (.iload_n 1, 1) := by decide +kernel
theorem d_UB_addToTape_12 : decode b_UB_addToTape 12 = .ok (.iload_n 2, 1) := by decide +kernel
theorem d_UB_addToTape_13 : decode b_UB_addToTape 13 = .ok (.ishr, 1) := by decide +kernel
theorem d_UB_addToTape_14 : decode b_UB_addToTape 14 = .ok (.invokevirtual 181, 3) := by decide +kernel
theorem d_UB_addToTape_17 : decode b_UB_addToTape 17 = .ok (.iinc 2 (-8), 3) := by decide +kernel
theorem d_UB_addToTape_20 : decode b_UB_addToTape 20 = .ok (.goto (-17), 3) := by decide +kernel
theorem d_UB_addToTape_23 : decode b_UB_addToTape 23 = .ok (.return_, 1) := by decide +kernel
def p_UB_addToTape_3 (n : Nat) (four : Int32) (kf1 : Nat) (x2_1 : Int32) (a_tape_size_1 : Int32) (a_tape_items_1n : Nat) (a_tape_items_1f : Nat → Int32) : Option ((Int32 × Nat × (Nat → Int32)) × Nat × Nat) := match kf1 with
  | 0 => none
  | kf1 + 1 => if x2_1 < 0 then (some ((a_tape_size_1, a_tape_items_1n, a_tape_items_1f), 0, 0)) else ((p_Bytes_add (four >>> (x2_1 &&& 31)) a_tape_size_1 a_tape_items_1n a_tape_items_1f).bind (fun ((a_size_3, a_items_n_3, a_items_f_3), mk3, sk3) => al mk3 sk3 (p_UB_addToTape_3 n four kf1 (x2_1 + (-8)) a_size_3 a_items_n_3 a_items_f_3)))
def p_UB_addToTape (n : Nat) (four : Int32) (a_marks : Int32) (a_place : Int32) (a_tape_size : Int32) (a_tape_items_n : Nat) (a_tape_items_f : Nat → Int32) : Option ((Int32 × Nat × (Nat → Int32)) × Nat × Nat) := p_UB_addToTape_3 n four n (24 : Int32) a_tape_size a_tape_items_n a_tape_items_f
set_option maxHeartbeats 4000000 in
set_option maxRecDepth 100000 in
theorem c_UB_addToTape (l : Launch) (g : va_G) (cs : Nat → ClassId) (ka : Nat → Nat) (a_names : Nat) (a_terms : Nat) (a_reader : Nat) (a_unifier : Nat) (a_printer : Nat) (a_registers : Nat) (a_marked : Nat) (a a_tape a_tape_items : Nat) (sz : Nat) (n : Nat) (four : Int32) (a_marks : Int32) (a_place : Int32) (a_tape_size : Int32) (a_tape_items_n : Nat) (a_tape_items_f : Nat → Int32) (o_a_tape_size : Int32) (o_a_tape_items_n : Nat) (o_a_tape_items_f : Nat → Int32) (mc ms : Nat) (hok : p_UB_addToTape n four a_marks a_place a_tape_size a_tape_items_n a_tape_items_f = some ((o_a_tape_size, o_a_tape_items_n, o_a_tape_items_f), mc, ms)) : Met l y_UB_addToTape (.code y_UB_addToTape b_UB_addToTape 3 none :: GW) { frames := 3, cells := mc, slots := ms, locals := 143 } (va_Pc [.ref a, .int four] (gP g cs ka [(a, .inr (9, [.ref a_tape, .ref a_names, .ref a_terms, .ref a_reader, .ref a_unifier, .ref a_printer, .ref a_registers, .ref a_marked, .int a_marks, .int a_place])), (a_tape, .inr (0, [.ref a_tape_items, .int a_tape_size])), (a_tape_items, .inl (cs 1, a_tape_items_n, .inl a_tape_items_f))] sz)) (va_Qv (fun _ : Unit => True) (fun _ t => ∃ b_a_tape_items : Nat, va_P g classes [(a, .inr (9, [.ref a_tape, .ref a_names, .ref a_terms, .ref a_reader, .ref a_unifier, .ref a_printer, .ref a_registers, .ref a_marked, .int a_marks, .int a_place])), (a_tape, .inr (0, [.ref b_a_tape_items, .int o_a_tape_size])), (b_a_tape_items, .inl (cs 1, o_a_tape_items_n, .inl o_a_tape_items_f))] t.heap ∧ va_D (va_A [(a, .inr (9, [.ref a_tape, .ref a_names, .ref a_terms, .ref a_reader, .ref a_unifier, .ref a_printer, .ref a_registers, .ref a_marked, .int a_marks, .int a_place])), (a_tape, .inr (0, [.ref a_tape_items, .int a_tape_size])), (a_tape_items, .inl (cs 1, a_tape_items_n, .inl a_tape_items_f))] sz) [(a, .inr (9, [.ref a_tape, .ref a_names, .ref a_terms, .ref a_reader, .ref a_unifier, .ref a_printer, .ref a_registers, .ref a_marked, .int a_marks, .int a_place])), (a_tape, .inr (0, [.ref b_a_tape_items, .int o_a_tape_size])), (b_a_tape_items, .inl (cs 1, o_a_tape_items_n, .inl o_a_tape_items_f))]) (va_A [(a, .inr (9, [.ref a_tape, .ref a_names, .ref a_terms, .ref a_reader, .ref a_unifier, .ref a_printer, .ref a_registers, .ref a_marked, .int a_marks, .int a_place])), (a_tape, .inr (0, [.ref a_tape_items, .int a_tape_size])), (a_tape_items, .inl (cs 1, a_tape_items_n, .inl a_tape_items_f))] sz)) mc ms (va_A [(a, .inr (9, [.ref a_tape, .ref a_names, .ref a_terms, .ref a_reader, .ref a_unifier, .ref a_printer, .ref a_registers, .ref a_marked, .int a_marks, .int a_place])), (a_tape, .inr (0, [.ref a_tape_items, .int a_tape_size])), (a_tape_items, .inl (cs 1, a_tape_items_n, .inl a_tape_items_f))] sz) := by
  refine Met.ofW (cc := b_UB_addToTape) (maxL := 3) (ret := none) (by decide) rfl ?_
  intro p e s m args below meth c s₁ B hml hv
  obtain ⟨rfl, hsz, hP, hK, hD0, hgl, hkn, hkr⟩ := hv
  have hx := B.exec
  have hb := B.bytes
  have hr := B.returns
  have hg : ∀ w ∈ GW, w.before ([.ref a, .int four] : List Value).toArray s = true := fun w hw => atoms_spec (ws := .code y_UB_addToTape b_UB_addToTape 3 none :: GW) B.pre w (List.mem_cons_of_mem _ hw)
  have hown : s.vm.findClass R_UB = some m.cls := findClass_of_methodNamed B.named
  have hlocks := B.notSynchronized
  subst hsz
  have hD := hD0.self (sz := s.heap.size)
  generalize hAe : va_A [(a, .inr (9, [.ref a_tape, .ref a_names, .ref a_terms, .ref a_reader, .ref a_unifier, .ref a_printer, .ref a_registers, .ref a_marked, .int a_marks, .int a_place])), (a_tape, .inr (0, [.ref a_tape_items, .int a_tape_size])), (a_tape_items, .inl (cs 1, a_tape_items_n, .inl a_tape_items_f))] s.heap.size = A at hD hkn ⊢
  have hA : ∀ q : Nat, s.heap.size ≤ q → A q := fun q h => by rw [← hAe]; exact Or.inr h
  have hS : va_S A s.heap s.heap [] := va_S.rf
  have hP : va_P g classes [(a, .inr (9, [.ref a_tape, .ref a_names, .ref a_terms, .ref a_reader, .ref a_unifier, .ref a_printer, .ref a_registers, .ref a_marked, .int a_marks, .int a_place])), (a_tape, .inr (0, [.ref a_tape_items, .int a_tape_size])), (a_tape_items, .inl (cs 1, a_tape_items_n, .inl a_tape_items_f))] s.heap := hP
  have hl := lv_entry ([.ref a, .int four]) (n := 3) (Nat.le_of_ble_eq_true rfl)
  rw [lg_entry_eq]
  generalize (lg_sl ([.ref a, .int four]) ++ List.replicate (3 - (lg_sl ([.ref a, .int four])).length) Slot.unset).toArray = ls at hl ⊢
  have hl : lv_has ls 3 [(0, .ref a), (1, .int four)] := hl
  refine gq (fun Q hQ => ?_)
  obtain ⟨H, hH⟩ : ∃ H : Heap, H = s.heap := ⟨_, rfl⟩
  rw [← hH] at hP
  have hS : va_S A s.heap H [] := by rw [hH]; exact hS
  refine W.eqH hH ?_
  obtain ⟨locs, hlc⟩ : ∃ L : List Loc, L = [] := ⟨_, rfl⟩
  rw [← hlc] at hS ⊢
  unfold p_UB_addToTape at hok
  refine lv_bipush (v := 24) hx hb d_UB_addToTape_0 (by decide) ?_
  refine lv_istore_n hx hb d_UB_addToTape_2 rfl hl (by decide) rfl (fun ls hl => ?_)
  have hl : lv_has ls 3 [(2, .int 24), (0, .ref a), (1, .int four)] := hl
  have J1 : ∀ (kf1 : Nat) (H : Heap) (locs : List Loc) (ls : Array Slot) (cells1 slots1 mr1 sr1 : Nat) (a_tape_items_1 : Nat) (x2_1 : Int32) (a_tape_size_1 : Int32) (a_tape_items_1n : Nat) (a_tape_items_1f : Nat → Int32), lv_has ls 3 [(2, .int x2_1), (0, .ref a), (1, .int four)] → PD g A H [(a, .inr (9, [.ref a_tape, .ref a_names, .ref a_terms, .ref a_reader, .ref a_unifier, .ref a_printer, .ref a_registers, .ref a_marked, .int a_marks, .int a_place])), (a_tape, .inr (0, [.ref a_tape_items_1, .int a_tape_size_1])), (a_tape_items_1, .inl (cs 1, a_tape_items_1n, .inl a_tape_items_1f))] → va_S A s.heap H locs → cells1 + mr1 = mc → slots1 + sr1 = ms → p_UB_addToTape_3 n four kf1 x2_1 a_tape_size_1 a_tape_items_1n a_tape_items_1f = some ((o_a_tape_size, o_a_tape_items_n, o_a_tape_items_f), mr1, sr1) → W p l e (headSpec (.code y_UB_addToTape b_UB_addToTape 3 none :: GW) { frames := 3, cells := mc, slots := ms, locals := 143 }).room s m ([.ref a, .int four] : List Value).toArray below meth c H locs cells1 slots1 Q (F0 m 3 ls []) := by
    intro kf1
    induction kf1 with
    | zero => intro H locs ls cells1 slots1 mr1 sr1 a_tape_items_1 x2_1 a_tape_size_1 a_tape_items_1n a_tape_items_1f hl ⟨hP, hD⟩ hS hmr1 hsr1 hok; rw [p_UB_addToTape_3] at hok; cases hok
    | succ kf1 ih1 =>
      intro H locs ls cells1 slots1 mr1 sr1 a_tape_items_1 x2_1 a_tape_size_1 a_tape_items_1n a_tape_items_1f hl ⟨hP, hD⟩ hS hmr1 hsr1 hok
      rw [p_UB_addToTape_3] at hok
      refine lv_iload_n hx hb d_UB_addToTape_3 rfl (lv_at hl 0 rfl) ?_
      refine lv_if_lt hx hb d_UB_addToTape_4 rfl (fun h2 => ?_) (fun h2 => ?_)
      · rw [if_pos h2] at hok
        obtain ⟨hq, hw⟩ := Prod.mk.inj (Option.some.inj hok)
        obtain ⟨hmc0, hms0⟩ := Prod.mk.inj hw
        obtain ⟨hq0, hq⟩ := Prod.mk.inj hq
        obtain ⟨hq1, hq⟩ := Prod.mk.inj hq
        have hq2 := hq
        subst hq0
        subst hq1
        subst hq2
        obtain ⟨hP9, hD9⟩ := sub2 (ws' := [(a, .inr (9, [.ref a_tape, .ref a_names, .ref a_terms, .ref a_reader, .ref a_unifier, .ref a_printer, .ref a_registers, .ref a_marked, .int a_marks, .int a_place])), (a_tape, .inr (0, [.ref a_tape_items_1, .int a_tape_size_1])), (a_tape_items_1, .inl (cs 1, a_tape_items_1n, .inl a_tape_items_1f))]) hP hD [0, 1, 2] rfl (by decide) rfl
        refine W.widen (k := mc) (n := ms) (by omega) (by omega) ?_
        rw [hQ]
        exact W.vret hx hb hr (fun t ht hW => ⟨⟨(), rfl, trivial, a_tape_items_1, by rw [ht]; exact hP9, hD9⟩, hS.F ht⟩) hS.2.2 d_UB_addToTape_23
      · rw [if_neg h2] at hok
        refine lv_aload_n hx hb d_UB_addToTape_7 rfl (lv_at hl 1 rfl) ?_
        refine va_get (D := g) (ci := 9) (v := .ref a_tape) (C := R_UB) (T := F_UB) (N := 10) hx hb hg ul_UB hown hK hP 0 rfl rfl 0 (by decide) (hg _ wd_628) (fun _ h9 => h9) rfl d_UB_addToTape_8 ?_
        refine lv_iload_n hx hb d_UB_addToTape_11 rfl (lv_at hl 2 rfl) ?_
        refine lv_iload_n hx hb d_UB_addToTape_12 rfl (lv_at hl 0 rfl) ?_
        refine lv_ishr hx hb d_UB_addToTape_13 ?_
        obtain ⟨⟨⟨a_size_3, a_items_n_3, a_items_f_3⟩, mk3, sk3⟩, hc3, hok⟩ := bd_some hok
        dsimp only at hok
        obtain ⟨m3, s3, hok, hmc3, hms3⟩ := al_some hok
        obtain ⟨hPc, hDc, hFc⟩ := cut0 (wc := [(a_tape, .inr (0, [.ref a_tape_items_1, .int a_tape_size_1])), (a_tape_items_1, .inl (cs 1, a_tape_items_1n, .inl a_tape_items_1f))]) hP hD hS hA [1, 2] (by decide) rfl
        refine va_callv (va_runV (As := [.int (four >>> (x2_1 &&& 31))]) (rest := []) ⟨hx, hb, hml, hown, hg⟩ (c_Bytes_add l g cs ka a_tape a_tape_items_1 H.size (four >>> (x2_1 &&& 31)) a_tape_size_1 a_tape_items_1n a_tape_items_1f a_size_3 a_items_n_3 a_items_f_3 mk3 sk3 hc3) (cwV (C := R_Bytes) 1 hg (gw_V wd_629 wd_541 wd_542 wd_450 wd_539) rfl rfl rfl (by decide +kernel) ⟨Nat.le_of_ble_eq_true rfl, Nat.le_of_ble_eq_true rfl⟩) ⟨gP_blind, va_recv (q0 := 1) (ci := 0) (q := (R_Bytes, F_Bytes, 2)) hK hP rfl rfl, gP_pre hPc hDc hK hgl hkn hkr hS hFc⟩ rfl rfl hl.1 rfl (lv_room (Nat.le_of_ble_eq_true rfl)) d_UB_addToTape_14 ⟨show cells1 + mk3 ≤ mc from by omega, show slots1 + sk3 ≤ ms from by omega⟩) hS (fun q _ h => hFc q h) hFc (fun u t H locs ht hvm hr3 hB hz1 hk1 hS => ?_)
        rw [ht] at hB
        obtain ⟨a_items_3, hP1, hD1⟩ := hB
        obtain ⟨hP, hD⟩ := jn_A hP hD [1, 2] [0] rfl rfl (by decide) (by decide) hk1 hFc hP1 hD1
        obtain ⟨hP, hD⟩ : PD g A H [(a, .inr (9, [.ref a_tape, .ref a_names, .ref a_terms, .ref a_reader, .ref a_unifier, .ref a_printer, .ref a_registers, .ref a_marked, .int a_marks, .int a_place])), (a_tape, .inr (0, [.ref a_items_3, .int a_size_3])), (a_items_3, .inl (cs 1, a_items_n_3, .inl a_items_f_3))] := ⟨hP, hD⟩
        refine lv_iinc (k := 0) (v := x2_1 + (-8)) hx hb d_UB_addToTape_17 hl rfl rfl (by decide) rfl (fun ls hl => ?_)
        have hl : lv_has ls 3 [(2, .int (x2_1 + (-8))), (0, .ref a), (1, .int four)] := hl
        refine lv_goto hx hb d_UB_addToTape_20 rfl ?_
        exact ih1 _ _ _ _ _ _ _ a_items_3 (x2_1 + (-8)) a_size_3 a_items_n_3 a_items_f_3 (lv_sub hl [0, 1, 2] rfl) (sub3 hP hD [0, 1, 2] (by decide)) hS (by omega) (by omega) hok
  exact J1 n H locs ls _ _ _ _ a_tape_items (24 : Int32) a_tape_size a_tape_items_n a_tape_items_f hl ⟨hP, hD⟩ hS (by omega) (by omega) hok

theorem d_UB_feed_0 : decode b_UB_feed 0 = .ok (.aload_n 0, 1) := by decide +kernel
theorem d_UB_feed_1 : decode b_UB_feed 1 = .ok (.getfield 10, 3) := by decide +kernel
theorem d_UB_feed_4 : decode b_UB_feed 4 = .ok (.invokevirtual 86, 3) := by decide +kernel
theorem d_UB_feed_7 : decode b_UB_feed 7 = .ok (.bipush 20, 2) := by decide +kernel
theorem d_UB_feed_9 : decode b_UB_feed 9 = .ok (.iadd, 1) := by decide +kernel
theorem d_UB_feed_10 : decode b_UB_feed 10 = .ok (.sipush 4096, 3) := by decide +kernel
theorem d_UB_feed_13 : decode b_UB_feed 13 = .ok (.if_icmp .le 11, 3) := by decide +kernel
theorem d_UB_feed_16 : decode b_UB_feed 16 = .ok (.new 90, 3) := by decide +kernel
theorem d_UB_feed_19 : decode b_UB_feed 19 = .ok (.dup, 1) := by decide +kernel
theorem d_UB_feed_20 : decode b_UB_feed 20 = .ok (.invokespecial 92, 3) := by decide +kernel
theorem d_UB_feed_23 : decode b_UB_feed 23 = .ok (.athrow, 1) := by decide +kernel
theorem d_UB_feed_24 : decode b_UB_feed 24 = .ok (.aload_n 0, 1) := by decide +kernel
theorem d_UB_feed_25 : decode b_UB_feed 25 = .ok (.iload_n 1, 1) := by decide +kernel
theorem d_UB_feed_26 : decode b_UB_feed 26 = .ok (.invokevirtual 93, 3) := by decide +kernel
theorem d_UB_feed_29 : decode b_UB_feed 29 = .ok (.aload_n 0, 1) := by decide +kernel
theorem d_UB_feed_30 : decode b_UB_feed 30 = .ok (.iload_n 2, 1) := by decide +kernel
theorem d_UB_feed_31 : decode b_UB_feed 31 = .ok (.invokevirtual 93, 3) := by decide +kernel
theorem d_UB_feed_34 : decode b_UB_feed 34 = .ok (.aload_n 0, 1) := by decide +kernel
theorem d_UB_feed_35 : decode b_UB_feed 35 = .ok (.iload_n 3, 1) := by decide +kernel
theorem d_UB_feed_36 : decode b_UB_feed 36 = .ok (.invokevirtual 93, 3) := by decide +kernel
theorem d_UB_feed_39 : decode b_UB_feed 39 = .ok (.aload_n 0, 1) := by decide +kernel
theorem d_UB_feed_40 : decode b_UB_feed 40 = .ok (.iload 4, 2) := by decide +kernel
theorem d_UB_feed_42 : decode b_UB_feed 42 = .ok (.invokevirtual 93, 3) := by decide +kernel
theorem d_UB_feed_45 : decode b_UB_feed 45 = .ok (.aload_n 0, 1) := by decide +kernel
theorem d_UB_feed_46 : decode b_UB_feed 46 = .ok (.iload 5, 2) := by decide +kernel
theorem d_UB_feed_48 : decode b_UB_feed 48 = .ok (.invokevirtual 93, 3) := by decide +kernel
theorem d_UB_feed_51 : decode b_UB_feed 51 = .ok (.aload_n 0, 1) := by decide +kernel
theorem d_UB_feed_52 : decode b_UB_feed 52 = .ok (.getfield 10, 3) := by decide +kernel
theorem d_UB_feed_55 : decode b_UB_feed 55 = .ok (.invokevirtual 86, 3) := by decide +kernel
theorem d_UB_feed_58 : decode b_UB_feed 58 = .ok (.ireturn, 1) := by decide +kernel
def p_UB_feed (n : Nat) (v1 : Int32) (v2 : Int32) (v3 : Int32) (v4 : Int32) (v5 : Int32) (a_marks : Int32) (a_place : Int32) (a_tape_size : Int32) (a_tape_items_n : Nat) (a_tape_items_f : Nat → Int32) : Option ((Nat × Int32 × Int32 × Nat × (Nat → Int32)) × Nat × Nat) := (p_Bytes_size a_tape_size).bind (fun r1 => if (r1 + 20) ≤ 4096 then ((p_UB_addToTape n v1 a_marks a_place a_tape_size a_tape_items_n a_tape_items_f).bind (fun ((a_tape_size_3, a_tape_items_n_3, a_tape_items_f_3), mk3, sk3) => al mk3 sk3 ((p_UB_addToTape n v2 a_marks a_place a_tape_size_3 a_tape_items_n_3 a_tape_items_f_3).bind (fun ((a_tape_size_4, a_tape_items_n_4, a_tape_items_f_4), mk4, sk4) => al mk4 sk4 ((p_UB_addToTape n v3 a_marks a_place a_tape_size_4 a_tape_items_n_4 a_tape_items_f_4).bind (fun ((a_tape_size_5, a_tape_items_n_5, a_tape_items_f_5), mk5, sk5) => al mk5 sk5 ((p_UB_addToTape n v4 a_marks a_place a_tape_size_5 a_tape_items_n_5 a_tape_items_f_5).bind (fun ((a_tape_size_6, a_tape_items_n_6, a_tape_items_f_6), mk6, sk6) => al mk6 sk6 ((p_UB_addToTape n v5 a_marks a_place a_tape_size_6 a_tape_items_n_6 a_tape_items_f_6).bind (fun ((a_tape_size_7, a_tape_items_n_7, a_tape_items_f_7), mk7, sk7) => al mk7 sk7 ((p_Bytes_size a_tape_size_7).bind (fun r8 => some ((0, r8, a_tape_size_7, a_tape_items_n_7, a_tape_items_f_7), 0, 0))))))))))))) else (al 1 6 (some ((3, (0 : Int32), a_tape_size, a_tape_items_n, a_tape_items_f), 0, 0))))
set_option maxHeartbeats 4000000 in
set_option maxRecDepth 100000 in
theorem c_UB_feed (l : Launch) (g : va_G) (cs : Nat → ClassId) (ka : Nat → Nat) (hfl : l.flags = pinnedFlags ++ [noTraceFlag]) (a_names : Nat) (a_terms : Nat) (a_reader : Nat) (a_unifier : Nat) (a_printer : Nat) (a_registers : Nat) (a_marked : Nat) (a a_tape a_tape_items : Nat) (sz : Nat) (n : Nat) (v1 : Int32) (v2 : Int32) (v3 : Int32) (v4 : Int32) (v5 : Int32) (a_marks : Int32) (a_place : Int32) (a_tape_size : Int32) (a_tape_items_n : Nat) (a_tape_items_f : Nat → Int32) (xc : Nat) (r : Int32) (o_a_tape_size : Int32) (o_a_tape_items_n : Nat) (o_a_tape_items_f : Nat → Int32) (mc ms : Nat) (hok : p_UB_feed n v1 v2 v3 v4 v5 a_marks a_place a_tape_size a_tape_items_n a_tape_items_f = some ((xc, r, o_a_tape_size, o_a_tape_items_n, o_a_tape_items_f), mc, ms)) : tx_Met l y_UB_feed (.code y_UB_feed b_UB_feed 6 (some .int) :: GW) { frames := 6, cells := mc, slots := ms, locals := 165 } (va_Pc [.ref a, .int v1, .int v2, .int v3, .int v4, .int v5] (gP g cs ka [(a, .inr (9, [.ref a_tape, .ref a_names, .ref a_terms, .ref a_reader, .ref a_unifier, .ref a_printer, .ref a_registers, .ref a_marked, .int a_marks, .int a_place])), (a_tape, .inr (0, [.ref a_tape_items, .int a_tape_size])), (a_tape_items, .inl (cs 1, a_tape_items_n, .inl a_tape_items_f))] sz)) (fun _ st oc t => (tx_O xc (some (.int r)) oc t ∧ ∃ b_a_tape_items : Nat, va_P g classes [(a, .inr (9, [.ref a_tape, .ref a_names, .ref a_terms, .ref a_reader, .ref a_unifier, .ref a_printer, .ref a_registers, .ref a_marked, .int a_marks, .int a_place])), (a_tape, .inr (0, [.ref b_a_tape_items, .int o_a_tape_size])), (b_a_tape_items, .inl (cs 1, o_a_tape_items_n, .inl o_a_tape_items_f))] t.heap ∧ va_D (va_A [(a, .inr (9, [.ref a_tape, .ref a_names, .ref a_terms, .ref a_reader, .ref a_unifier, .ref a_printer, .ref a_registers, .ref a_marked, .int a_marks, .int a_place])), (a_tape, .inr (0, [.ref a_tape_items, .int a_tape_size])), (a_tape_items, .inl (cs 1, a_tape_items_n, .inl a_tape_items_f))] sz) [(a, .inr (9, [.ref a_tape, .ref a_names, .ref a_terms, .ref a_reader, .ref a_unifier, .ref a_printer, .ref a_registers, .ref a_marked, .int a_marks, .int a_place])), (a_tape, .inr (0, [.ref b_a_tape_items, .int o_a_tape_size])), (b_a_tape_items, .inl (cs 1, o_a_tape_items_n, .inl o_a_tape_items_f))]) ∧ va_F (va_A [(a, .inr (9, [.ref a_tape, .ref a_names, .ref a_terms, .ref a_reader, .ref a_unifier, .ref a_printer, .ref a_registers, .ref a_marked, .int a_marks, .int a_place])), (a_tape, .inr (0, [.ref a_tape_items, .int a_tape_size])), (a_tape_items, .inl (cs 1, a_tape_items_n, .inl a_tape_items_f))] sz) st t) mc ms (va_A [(a, .inr (9, [.ref a_tape, .ref a_names, .ref a_terms, .ref a_reader, .ref a_unifier, .ref a_printer, .ref a_registers, .ref a_marked, .int a_marks, .int a_place])), (a_tape, .inr (0, [.ref a_tape_items, .int a_tape_size])), (a_tape_items, .inl (cs 1, a_tape_items_n, .inl a_tape_items_f))] sz) := by
  refine tx_ofW (cc := b_UB_feed) (maxL := 6) (ret := (some .int)) (by decide) rfl ?_
  intro p e s m args below meth c s₁ B hml hv
  obtain ⟨rfl, hsz, hP, hK, hD0, hgl, hkn, hkr⟩ := hv
  have hx := B.exec
  have hb := B.bytes
  have hr := B.returns
  have hg : ∀ w ∈ GW, w.before ([.ref a, .int v1, .int v2, .int v3, .int v4, .int v5] : List Value).toArray s = true := fun w hw => atoms_spec (ws := .code y_UB_feed b_UB_feed 6 (some .int) :: GW) B.pre w (List.mem_cons_of_mem _ hw)
  have hown : s.vm.findClass R_UB = some m.cls := findClass_of_methodNamed B.named
  have hlocks := B.notSynchronized
  have hcd : (Cond.code y_UB_feed b_UB_feed 6 (some .int)).before ([.ref a, .int v1, .int v2, .int v3, .int v4, .int v5] : List Value).toArray s = true := atoms_spec (ws := .code y_UB_feed b_UB_feed 6 (some .int) :: GW) B.pre _ List.mem_cons_self
  subst hsz
  have hD := hD0.self (sz := s.heap.size)
  generalize hAe : va_A [(a, .inr (9, [.ref a_tape, .ref a_names, .ref a_terms, .ref a_reader, .ref a_unifier, .ref a_printer, .ref a_registers, .ref a_marked, .int a_marks, .int a_place])), (a_tape, .inr (0, [.ref a_tape_items, .int a_tape_size])), (a_tape_items, .inl (cs 1, a_tape_items_n, .inl a_tape_items_f))] s.heap.size = A at hD hkn ⊢
  have hA : ∀ q : Nat, s.heap.size ≤ q → A q := fun q h => by rw [← hAe]; exact Or.inr h
  have hS : va_S A s.heap s.heap [] := va_S.rf
  have hP : va_P g classes [(a, .inr (9, [.ref a_tape, .ref a_names, .ref a_terms, .ref a_reader, .ref a_unifier, .ref a_printer, .ref a_registers, .ref a_marked, .int a_marks, .int a_place])), (a_tape, .inr (0, [.ref a_tape_items, .int a_tape_size])), (a_tape_items, .inl (cs 1, a_tape_items_n, .inl a_tape_items_f))] s.heap := hP
  have hl := lv_entry ([.ref a, .int v1, .int v2, .int v3, .int v4, .int v5]) (n := 6) (Nat.le_of_ble_eq_true rfl)
  rw [lg_entry_eq]
  generalize (lg_sl ([.ref a, .int v1, .int v2, .int v3, .int v4, .int v5]) ++ List.replicate (6 - (lg_sl ([.ref a, .int v1, .int v2, .int v3, .int v4, .int v5])).length) Slot.unset).toArray = ls at hl ⊢
  have hl : lv_has ls 6 [(0, .ref a), (1, .int v1), (2, .int v2), (3, .int v3), (4, .int v4), (5, .int v5)] := hl
  refine gq (fun Q hQ => ?_)
  obtain ⟨H, hH⟩ : ∃ H : Heap, H = s.heap := ⟨_, rfl⟩
  rw [← hH] at hP
  have hS : va_S A s.heap H [] := by rw [hH]; exact hS
  refine W.eqH hH ?_
  obtain ⟨locs, hlc⟩ : ∃ L : List Loc, L = [] := ⟨_, rfl⟩
  rw [← hlc] at hS ⊢
  unfold p_UB_feed at hok
  refine lv_aload_n hx hb d_UB_feed_0 rfl (lv_at hl 0 rfl) ?_
  refine va_get (D := g) (ci := 9) (v := .ref a_tape) (C := R_UB) (T := F_UB) (N := 10) hx hb hg ul_UB hown hK hP 0 rfl rfl 0 (by decide) (hg _ wd_628) (fun _ h9 => h9) rfl d_UB_feed_1 ?_
  obtain ⟨r1, hc1, hok⟩ := bd_some hok
  obtain ⟨hPc, hDc, hFc⟩ := cut0 (wc := [(a_tape, .inr (0, [.ref a_tape_items, .int a_tape_size]))]) hP hD hS hA [1] (by decide) rfl
  refine va_calli (va_runV (As := []) (rest := []) ⟨hx, hb, hml, hown, hg⟩ (c_Bytes_size l g cs ka a_tape_items a_tape H.size a_tape_size r1 hc1) (cwV (C := R_Bytes) 0 hg (gw_V wd_630 wd_452 wd_453 wd_450 wd_449) rfl rfl rfl (by decide +kernel) ⟨Nat.le_of_ble_eq_true rfl, Nat.le_of_ble_eq_true rfl⟩) ⟨gP_blind, va_recv (q0 := 1) (ci := 0) (q := (R_Bytes, F_Bytes, 2)) hK hP rfl rfl, gP_pre hPc hDc hK hgl hkn hkr hS hFc⟩ rfl rfl hl.1 rfl (lv_room (Nat.le_of_ble_eq_true rfl)) d_UB_feed_4 ⟨show 0 + 0 ≤ mc from by omega, show 0 + 0 ≤ ms from by omega⟩) hS (fun q _ h => hFc q h) hFc (fun r1' u t H locs ht hvm hr1 hB hz1 hk1 hS => ?_)
  subst hr1
  rw [ht] at hB
  obtain ⟨hP1, hD1⟩ := hB
  obtain ⟨hP, hD⟩ := jn_A hP hD [1] [0, 2] rfl rfl (by decide) (by decide) hk1 hFc hP1 hD1
  obtain ⟨hP, hD⟩ : PD g A H [(a, .inr (9, [.ref a_tape, .ref a_names, .ref a_terms, .ref a_reader, .ref a_unifier, .ref a_printer, .ref a_registers, .ref a_marked, .int a_marks, .int a_place])), (a_tape_items, .inl (cs 1, a_tape_items_n, .inl a_tape_items_f)), (a_tape, .inr (0, [.ref a_tape_items, .int a_tape_size]))] := ⟨hP, hD⟩
  refine lv_bipush (v := 20) hx hb d_UB_feed_7 (by decide) ?_
  refine lv_iadd hx hb d_UB_feed_9 ?_
  refine lv_sipush (v := 4096) hx hb d_UB_feed_10 (by decide) ?_
  refine lv_icmp_le hx hb d_UB_feed_13 rfl (fun h2 => ?_) (fun h2 => ?_)
  · rw [if_pos h2] at hok
    refine lv_aload_n hx hb d_UB_feed_24 rfl (lv_at hl 0 rfl) ?_
    refine lv_iload_n hx hb d_UB_feed_25 rfl (lv_at hl 1 rfl) ?_
    obtain ⟨⟨⟨a_tape_size_3, a_tape_items_n_3, a_tape_items_f_3⟩, mk3, sk3⟩, hc3, hok⟩ := bd_some hok
    dsimp only at hok
    obtain ⟨m3, s3, hok, hmc3, hms3⟩ := al_some hok
    obtain ⟨hPc, hDc, hFc⟩ := cut0 (wc := [(a, .inr (9, [.ref a_tape, .ref a_names, .ref a_terms, .ref a_reader, .ref a_unifier, .ref a_printer, .ref a_registers, .ref a_marked, .int a_marks, .int a_place])), (a_tape, .inr (0, [.ref a_tape_items, .int a_tape_size])), (a_tape_items, .inl (cs 1, a_tape_items_n, .inl a_tape_items_f))]) hP hD hS hA [0, 2, 1] (by decide) rfl
    refine va_callv (va_runV (As := [.int v1]) (rest := []) ⟨hx, hb, hml, hown, hg⟩ (c_UB_addToTape l g cs ka a_names a_terms a_reader a_unifier a_printer a_registers a_marked a a_tape a_tape_items H.size n v1 a_marks a_place a_tape_size a_tape_items_n a_tape_items_f a_tape_size_3 a_tape_items_n_3 a_tape_items_f_3 mk3 sk3 hc3) (cwV (C := R_UB) 1 hg (gw_V wd_633 wd_634 wd_635 wd_632 wd_631) rfl rfl rfl (by decide +kernel) ⟨Nat.le_of_ble_eq_true rfl, Nat.le_of_ble_eq_true rfl⟩) ⟨gP_blind, va_recv (q0 := 0) (ci := 9) (q := (R_UB, F_UB, 10)) hK hP rfl rfl, gP_pre hPc hDc hK hgl hkn hkr hS hFc⟩ rfl rfl hl.1 rfl (lv_room (Nat.le_of_ble_eq_true rfl)) d_UB_feed_26 ⟨show 0 + 0 + mk3 ≤ mc from by omega, show 0 + 0 + sk3 ≤ ms from by omega⟩) hS (fun q _ h => hFc q h) hFc (fun u t H locs ht hvm hr3 hB hz1 hk1 hS => ?_)
    rw [ht] at hB
    obtain ⟨a_tape_items_3, hP1, hD1⟩ := hB
    obtain ⟨hP, hD⟩ := jn_A hP hD [0, 2, 1] [] rfl rfl (by decide) (by decide) hk1 hFc hP1 hD1
    obtain ⟨hP, hD⟩ : PD g A H [(a, .inr (9, [.ref a_tape, .ref a_names, .ref a_terms, .ref a_reader, .ref a_unifier, .ref a_printer, .ref a_registers, .ref a_marked, .int a_marks, .int a_place])), (a_tape, .inr (0, [.ref a_tape_items_3, .int a_tape_size_3])), (a_tape_items_3, .inl (cs 1, a_tape_items_n_3, .inl a_tape_items_f_3))] := ⟨hP, hD⟩
    refine lv_aload_n hx hb d_UB_feed_29 rfl (lv_at hl 0 rfl) ?_
    refine lv_iload_n hx hb d_UB_feed_30 rfl (lv_at hl 2 rfl) ?_
    obtain ⟨⟨⟨a_tape_size_4, a_tape_items_n_4, a_tape_items_f_4⟩, mk4, sk4⟩, hc4, hok⟩ := bd_some hok
    dsimp only at hok
    obtain ⟨m4, s4, hok, hmc4, hms4⟩ := al_some hok
    obtain ⟨hPc, hDc, hFc⟩ := cut0 (wc := [(a, .inr (9, [.ref a_tape, .ref a_names, .ref a_terms, .ref a_reader, .ref a_unifier, .ref a_printer, .ref a_registers, .ref a_marked, .int a_marks, .int a_place])), (a_tape, .inr (0, [.ref a_tape_items_3, .int a_tape_size_3])), (a_tape_items_3, .inl (cs 1, a_tape_items_n_3, .inl a_tape_items_f_3))]) hP hD hS hA [0, 1, 2] (by decide) rfl
    refine va_callv (va_runV (As := [.int v2]) (rest := []) ⟨hx, hb, hml, hown, hg⟩ (c_UB_addToTape l g cs ka a_names a_terms a_reader a_unifier a_printer a_registers a_marked a a_tape a_tape_items_3 H.size n v2 a_marks a_place a_tape_size_3 a_tape_items_n_3 a_tape_items_f_3 a_tape_size_4 a_tape_items_n_4 a_tape_items_f_4 mk4 sk4 hc4) (cwV (C := R_UB) 1 hg (gw_V wd_633 wd_634 wd_635 wd_632 wd_631) rfl rfl rfl (by decide +kernel) ⟨Nat.le_of_ble_eq_true rfl, Nat.le_of_ble_eq_true rfl⟩) ⟨gP_blind, va_recv (q0 := 0) (ci := 9) (q := (R_UB, F_UB, 10)) hK hP rfl rfl, gP_pre hPc hDc hK hgl hkn hkr hS hFc⟩ rfl rfl hl.1 rfl (lv_room (Nat.le_of_ble_eq_true rfl)) d_UB_feed_31 ⟨show 0 + 0 + mk3 + mk4 ≤ mc from by omega, show 0 + 0 + sk3 + sk4 ≤ ms from by omega⟩) hS (fun q _ h => hFc q h) hFc (fun u t H locs ht hvm hr4 hB hz1 hk1 hS => ?_)
    rw [ht] at hB
    obtain ⟨a_tape_items_4, hP1, hD1⟩ := hB
    obtain ⟨hP, hD⟩ := jn_A hP hD [0, 1, 2] [] rfl rfl (by decide) (by decide) hk1 hFc hP1 hD1
    obtain ⟨hP, hD⟩ : PD g A H [(a, .inr (9, [.ref a_tape, .ref a_names, .ref a_terms, .ref a_reader, .ref a_unifier, .ref a_printer, .ref a_registers, .ref a_marked, .int a_marks, .int a_place])), (a_tape, .inr (0, [.ref a_tape_items_4, .int a_tape_size_4])), (a_tape_items_4, .inl (cs 1, a_tape_items_n_4, .inl a_tape_items_f_4))] := ⟨hP, hD⟩
    refine lv_aload_n hx hb d_UB_feed_34 rfl (lv_at hl 0 rfl) ?_
    refine lv_iload_n hx hb d_UB_feed_35 rfl (lv_at hl 3 rfl) ?_
    obtain ⟨⟨⟨a_tape_size_5, a_tape_items_n_5, a_tape_items_f_5⟩, mk5, sk5⟩, hc5, hok⟩ := bd_some hok
    dsimp only at hok
    obtain ⟨m5, s5, hok, hmc5, hms5⟩ := al_some hok
    obtain ⟨hPc, hDc, hFc⟩ := cut0 (wc := [(a, .inr (9, [.ref a_tape, .ref a_names, .ref a_terms, .ref a_reader, .ref a_unifier, .ref a_printer, .ref a_registers, .ref a_marked, .int a_marks, .int a_place])), (a_tape, .inr (0, [.ref a_tape_items_4, .int a_tape_size_4])), (a_tape_items_4, .inl (cs 1, a_tape_items_n_4, .inl a_tape_items_f_4))]) hP hD hS hA [0, 1, 2] (by decide) rfl
    refine va_callv (va_runV (As := [.int v3]) (rest := []) ⟨hx, hb, hml, hown, hg⟩ (c_UB_addToTape l g cs ka a_names a_terms a_reader a_unifier a_printer a_registers a_marked a a_tape a_tape_items_4 H.size n v3 a_marks a_place a_tape_size_4 a_tape_items_n_4 a_tape_items_f_4 a_tape_size_5 a_tape_items_n_5 a_tape_items_f_5 mk5 sk5 hc5) (cwV (C := R_UB) 1 hg (gw_V wd_633 wd_634 wd_635 wd_632 wd_631) rfl rfl rfl (by decide +kernel) ⟨Nat.le_of_ble_eq_true rfl, Nat.le_of_ble_eq_true rfl⟩) ⟨gP_blind, va_recv (q0 := 0) (ci := 9) (q := (R_UB, F_UB, 10)) hK hP rfl rfl, gP_pre hPc hDc hK hgl hkn hkr hS hFc⟩ rfl rfl hl.1 rfl (lv_room (Nat.le_of_ble_eq_true rfl)) d_UB_feed_36 ⟨show 0 + 0 + mk3 + mk4 + mk5 ≤ mc from by omega, show 0 + 0 + sk3 + sk4 + sk5 ≤ ms from by omega⟩) hS (fun q _ h => hFc q h) hFc (fun u t H locs ht hvm hr5 hB hz1 hk1 hS => ?_)
    rw [ht] at hB
    obtain ⟨a_tape_items_5, hP1, hD1⟩ := hB
    obtain ⟨hP, hD⟩ := jn_A hP hD [0, 1, 2] [] rfl rfl (by decide) (by decide) hk1 hFc hP1 hD1
    obtain ⟨hP, hD⟩ : PD g A H [(a, .inr (9, [.ref a_tape, .ref a_names, .ref a_terms, .ref a_reader, .ref a_unifier, .ref a_printer, .ref a_registers, .ref a_marked, .int a_marks, .int a_place])), (a_tape, .inr (0, [.ref a_tape_items_5, .int a_tape_size_5])), (a_tape_items_5, .inl (cs 1, a_tape_items_n_5, .inl a_tape_items_f_5))] := ⟨hP, hD⟩
    refine lv_aload_n hx hb d_UB_feed_39 rfl (lv_at hl 0 rfl) ?_
    refine lv_iload hx hb d_UB_feed_40 (lv_at hl 4 rfl) ?_
    obtain ⟨⟨⟨a_tape_size_6, a_tape_items_n_6, a_tape_items_f_6⟩, mk6, sk6⟩, hc6, hok⟩ := bd_some hok
    dsimp only at hok
    obtain ⟨m6, s6, hok, hmc6, hms6⟩ := al_some hok
    obtain ⟨hPc, hDc, hFc⟩ := cut0 (wc := [(a, .inr (9, [.ref a_tape, .ref a_names, .ref a_terms, .ref a_reader, .ref a_unifier, .ref a_printer, .ref a_registers, .ref a_marked, .int a_marks, .int a_place])), (a_tape, .inr (0, [.ref a_tape_items_5, .int a_tape_size_5])), (a_tape_items_5, .inl (cs 1, a_tape_items_n_5, .inl a_tape_items_f_5))]) hP hD hS hA [0, 1, 2] (by decide) rfl
    refine va_callv (va_runV (As := [.int v4]) (rest := []) ⟨hx, hb, hml, hown, hg⟩ (c_UB_addToTape l g cs ka a_names a_terms a_reader a_unifier a_printer a_registers a_marked a a_tape a_tape_items_5 H.size n v4 a_marks a_place a_tape_size_5 a_tape_items_n_5 a_tape_items_f_5 a_tape_size_6 a_tape_items_n_6 a_tape_items_f_6 mk6 sk6 hc6) (cwV (C := R_UB) 1 hg (gw_V wd_633 wd_634 wd_635 wd_632 wd_631) rfl rfl rfl (by decide +kernel) ⟨Nat.le_of_ble_eq_true rfl, Nat.le_of_ble_eq_true rfl⟩) ⟨gP_blind, va_recv (q0 := 0) (ci := 9) (q := (R_UB, F_UB, 10)) hK hP rfl rfl, gP_pre hPc hDc hK hgl hkn hkr hS hFc⟩ rfl rfl hl.1 rfl (lv_room (Nat.le_of_ble_eq_true rfl)) d_UB_feed_42 ⟨show 0 + 0 + mk3 + mk4 + mk5 + mk6 ≤ mc from by omega, show 0 + 0 + sk3 + sk4 + sk5 + sk6 ≤ ms from by omega⟩) hS (fun q _ h => hFc q h) hFc (fun u t H locs ht hvm hr6 hB hz1 hk1 hS => ?_)
    rw [ht] at hB
    obtain ⟨a_tape_items_6, hP1, hD1⟩ := hB
    obtain ⟨hP, hD⟩ := jn_A hP hD [0, 1, 2] [] rfl rfl (by decide) (by decide) hk1 hFc hP1 hD1
    obtain ⟨hP, hD⟩ : PD g A H [(a, .inr (9, [.ref a_tape, .ref a_names, .ref a_terms, .ref a_reader, .ref a_unifier, .ref a_printer, .ref a_registers, .ref a_marked, .int a_marks, .int a_place])), (a_tape, .inr (0, [.ref a_tape_items_6, .int a_tape_size_6])), (a_tape_items_6, .inl (cs 1, a_tape_items_n_6, .inl a_tape_items_f_6))] := ⟨hP, hD⟩
    refine lv_aload_n hx hb d_UB_feed_45 rfl (lv_at hl 0 rfl) ?_
    refine lv_iload hx hb d_UB_feed_46 (lv_at hl 5 rfl) ?_
    obtain ⟨⟨⟨a_tape_size_7, a_tape_items_n_7, a_tape_items_f_7⟩, mk7, sk7⟩, hc7, hok⟩ := bd_some hok
    dsimp only at hok
    obtain ⟨m7, s7, hok, hmc7, hms7⟩ := al_some hok
    obtain ⟨hPc, hDc, hFc⟩ := cut0 (wc := [(a, .inr (9, [.ref a_tape, .ref a_names, .ref a_terms, .ref a_reader, .ref a_unifier, .ref a_printer, .ref a_registers, .ref a_marked, .int a_marks, .int a_place])), (a_tape, .inr (0, [.ref a_tape_items_6, .int a_tape_size_6])), (a_tape_items_6, .inl (cs 1, a_tape_items_n_6, .inl a_tape_items_f_6))]) hP hD hS hA [0, 1, 2] (by decide) rfl
    refine va_callv (va_runV (As := [.int v5]) (rest := []) ⟨hx, hb, hml, hown, hg⟩ (c_UB_addToTape l g cs ka a_names a_terms a_reader a_unifier a_printer a_registers a_marked a a_tape a_tape_items_6 H.size n v5 a_marks a_place a_tape_size_6 a_tape_items_n_6 a_tape_items_f_6 a_tape_size_7 a_tape_items_n_7 a_tape_items_f_7 mk7 sk7 hc7) (cwV (C := R_UB) 1 hg (gw_V wd_633 wd_634 wd_635 wd_632 wd_631) rfl rfl rfl (by decide +kernel) ⟨Nat.le_of_ble_eq_true rfl, Nat.le_of_ble_eq_true rfl⟩) ⟨gP_blind, va_recv (q0 := 0) (ci := 9) (q := (R_UB, F_UB, 10)) hK hP rfl rfl, gP_pre hPc hDc hK hgl hkn hkr hS hFc⟩ rfl rfl hl.1 rfl (lv_room (Nat.le_of_ble_eq_true rfl)) d_UB_feed_48 ⟨show 0 + 0 + mk3 + mk4 + mk5 + mk6 + mk7 ≤ mc from by omega, show 0 + 0 + sk3 + sk4 + sk5 + sk6 + sk7 ≤ ms from by omega⟩) hS (fun q _ h => hFc q h) hFc (fun u t H locs ht hvm hr7 hB hz1 hk1 hS => ?_)
    rw [ht] at hB
    obtain ⟨a_tape_items_7, hP1, hD1⟩ := hB
    obtain ⟨hP, hD⟩ := jn_A hP hD [0, 1, 2] [] rfl rfl (by decide) (by decide) hk1 hFc hP1 hD1
    obtain ⟨hP, hD⟩ : PD g A H [(a, .inr (9, [.ref a_tape, .ref a_names, .ref a_terms, .ref a_reader, .ref a_unifier, .ref a_printer, .ref a_registers, .ref a_marked, .int a_marks, .int a_place])), (a_tape, .inr (0, [.ref a_tape_items_7, .int a_tape_size_7])), (a_tape_items_7, .inl (cs 1, a_tape_items_n_7, .inl a_tape_items_f_7))] := ⟨hP, hD⟩
    refine lv_aload_n hx hb d_UB_feed_51 rfl (lv_at hl 0 rfl) ?_
    refine va_get (D := g) (ci := 9) (v := .ref a_tape) (C := R_UB) (T := F_UB) (N := 10) hx hb hg ul_UB hown hK hP 0 rfl rfl 0 (by decide) (hg _ wd_628) (fun _ h9 => h9) rfl d_UB_feed_52 ?_
    obtain ⟨r8, hc8, hok⟩ := bd_some hok
    obtain ⟨hPc, hDc, hFc⟩ := cut0 (wc := [(a_tape, .inr (0, [.ref a_tape_items_7, .int a_tape_size_7]))]) hP hD hS hA [1] (by decide) rfl
    refine va_calli (va_runV (As := []) (rest := []) ⟨hx, hb, hml, hown, hg⟩ (c_Bytes_size l g cs ka a_tape_items_7 a_tape H.size a_tape_size_7 r8 hc8) (cwV (C := R_Bytes) 0 hg (gw_V wd_630 wd_452 wd_453 wd_450 wd_449) rfl rfl rfl (by decide +kernel) ⟨Nat.le_of_ble_eq_true rfl, Nat.le_of_ble_eq_true rfl⟩) ⟨gP_blind, va_recv (q0 := 1) (ci := 0) (q := (R_Bytes, F_Bytes, 2)) hK hP rfl rfl, gP_pre hPc hDc hK hgl hkn hkr hS hFc⟩ rfl rfl hl.1 rfl (lv_room (Nat.le_of_ble_eq_true rfl)) d_UB_feed_55 ⟨show 0 + 0 + mk3 + mk4 + mk5 + mk6 + mk7 + 0 ≤ mc from by omega, show 0 + 0 + sk3 + sk4 + sk5 + sk6 + sk7 + 0 ≤ ms from by omega⟩) hS (fun q _ h => hFc q h) hFc (fun r8' u t H locs ht hvm hr8 hB hz1 hk1 hS => ?_)
    subst hr8
    rw [ht] at hB
    obtain ⟨hP1, hD1⟩ := hB
    obtain ⟨hP, hD⟩ := jn_A hP hD [1] [0, 2] rfl rfl (by decide) (by decide) hk1 hFc hP1 hD1
    obtain ⟨hP, hD⟩ : PD g A H [(a, .inr (9, [.ref a_tape, .ref a_names, .ref a_terms, .ref a_reader, .ref a_unifier, .ref a_printer, .ref a_registers, .ref a_marked, .int a_marks, .int a_place])), (a_tape_items_7, .inl (cs 1, a_tape_items_n_7, .inl a_tape_items_f_7)), (a_tape, .inr (0, [.ref a_tape_items_7, .int a_tape_size_7]))] := ⟨hP, hD⟩
    obtain ⟨hq, hw⟩ := Prod.mk.inj (Option.some.inj hok)
    obtain ⟨hmc0, hms0⟩ := Prod.mk.inj hw
    obtain ⟨hq0, hq⟩ := Prod.mk.inj hq
    obtain ⟨hq1, hq⟩ := Prod.mk.inj hq
    obtain ⟨hq2, hq⟩ := Prod.mk.inj hq
    obtain ⟨hq3, hq⟩ := Prod.mk.inj hq
    have hq4 := hq
    subst hq0
    subst hq1
    subst hq2
    subst hq3
    subst hq4
    obtain ⟨hP9, hD9⟩ := sub2 (ws' := [(a, .inr (9, [.ref a_tape, .ref a_names, .ref a_terms, .ref a_reader, .ref a_unifier, .ref a_printer, .ref a_registers, .ref a_marked, .int a_marks, .int a_place])), (a_tape, .inr (0, [.ref a_tape_items_7, .int a_tape_size_7])), (a_tape_items_7, .inl (cs 1, a_tape_items_n_7, .inl a_tape_items_f_7))]) hP hD [0, 2, 1] rfl (by decide) rfl
    refine W.widen (k := mc) (n := ms) (by omega) (by omega) ?_
    rw [hQ]
    exact tx_ret (W.iret (v := r8) hx hb hr (fun t ht hW => ⟨⟨tx_O.r0, a_tape_items_7, by rw [ht]; exact hP9, hD9⟩, hS.F ht⟩) hS.2.2 d_UB_feed_58)
  · rw [if_neg h2] at hok
    obtain ⟨m10, s10, hok, hmc10, hms10⟩ := al_some hok
    obtain ⟨hq, hw⟩ := Prod.mk.inj (Option.some.inj hok)
    obtain ⟨hmc0, hms0⟩ := Prod.mk.inj hw
    obtain ⟨hq0, hq⟩ := Prod.mk.inj hq
    obtain ⟨hq1, hq⟩ := Prod.mk.inj hq
    obtain ⟨hq2, hq⟩ := Prod.mk.inj hq
    obtain ⟨hq3, hq⟩ := Prod.mk.inj hq
    have hq4 := hq
    subst hq0
    subst hq1
    subst hq2
    subst hq3
    subst hq4
    have hD9 := hD.sub (ws' := [(a, .inr (9, [.ref a_tape, .ref a_names, .ref a_terms, .ref a_reader, .ref a_unifier, .ref a_printer, .ref a_registers, .ref a_marked, .int a_marks, .int a_place])), (a_tape, .inr (0, [.ref a_tape_items, .int a_tape_size])), (a_tape_items, .inl (cs 1, a_tape_items_n, .inl a_tape_items_f))]) [0, 2, 1] (by decide) rfl
    rw [hQ]
    refine tx_wid (k := 0 + 0 + 1) (n := 0 + 0 + 6) (by omega) (by omega) ?_
    exact tx_throw (X := "java/lang/IndexOutOfBoundsException") hx hb (hml.trans hl.1.symm) hfl hlocks hown (by decide) (hg _ wd_636) (hg _ wd_637) (tx_before tx_at_UB_92 hg hgl hkn) hkn hP hS hA (tx_noH B hcd 23) (show 0 + 0 + 1 ≤ mc from by omega) (show 0 + 0 + 6 ≤ ms from by omega) (Nat.le_of_ble_eq_true rfl) (Nat.le_of_ble_eq_true rfl) d_UB_feed_16 d_UB_feed_19 d_UB_feed_20 d_UB_feed_23 (fun t x hPt hSt hW hX => ⟨⟨tx_O.t0 (by decide) hX, a_tape_items, hPt.sub (ws' := [(a, .inr (9, [.ref a_tape, .ref a_names, .ref a_terms, .ref a_reader, .ref a_unifier, .ref a_printer, .ref a_registers, .ref a_marked, .int a_marks, .int a_place])), (a_tape, .inr (0, [.ref a_tape_items, .int a_tape_size])), (a_tape_items, .inl (cs 1, a_tape_items_n, .inl a_tape_items_f))]) [0, 2, 1] rfl, hD9⟩, hSt.F rfl⟩) hS.2.2

theorem d_UB_end_0 : decode b_UB_end 0 = .ok (.iload_n 1, 1) := by decide +kernel
theorem d_UB_end_1 : decode b_UB_end 1 = .ok (.ifCond .lt 14, 3) := by decide +kernel
theorem d_UB_end_4 : decode b_UB_end 4 = .ok (.iload_n 1, 1) := by decide +kernel
theorem d_UB_end_5 : decode b_UB_end 5 = .ok (.aload_n 0, 1) := by decide +kernel
theorem d_UB_end_6 : decode b_UB_end 6 = .ok (.getfield 10, 3) := by decide +kernel
theorem d_UB_end_9 : decode b_UB_end 9 = .ok (.invokevirtual 86, 3) := by decide +kernel
theorem d_UB_end_12 : decode b_UB_end 12 = .ok (.if_icmp .le 11, 3) := by decide +kernel
theorem d_UB_end_15 : decode b_UB_end 15 = .ok (.new 97, 3) := by decide +kernel
theorem d_UB_end_18 : decode b_UB_end 18 = .ok (.dup, 1) := by decide +kernel
theorem d_UB_end_19 : decode b_UB_end 19 = .ok (.invokespecial 99, 3) := by decide +kernel
theorem d_UB_end_22 : decode b_UB_end 22 = .ok (.athrow, 1) := by decide +kernel
theorem d_UB_end_23 : decode b_UB_end 23 = .ok (.aload_n 0, 1) := by decide +kernel
theorem d_UB_end_24 : decode b_UB_end 24 = .ok (.getfield 10, 3) := by decide +kernel
theorem d_UB_end_27 : decode b_UB_end 27 = .ok (.iload_n 1, 1) := by decide +kernel
theorem d_UB_end_28 : decode b_UB_end 28 = .ok (.invokevirtual 100, 3) := by decide +kernel
theorem d_UB_end_31 : decode b_UB_end 31 = .ok (.iload_n 1, 1) := by decide +kernel
theorem d_UB_end_32 : decode b_UB_end 32 = .ok (.ireturn, 1) := by decide +kernel
def p_UB_end (nn : Int32) (a_marks : Int32) (a_place : Int32) (a_tape_size : Int32) : Option ((Nat × Int32 × Int32) × Nat × Nat) := if nn < 0 then (al 1 6 (some ((1, (0 : Int32), a_tape_size), 0, 0))) else ((p_Bytes_size a_tape_size).bind (fun r4 => if nn ≤ r4 then ((p_Bytes_cut nn a_tape_size).bind (fun a_size_6 => some ((0, nn, a_size_6), 0, 0))) else (al 1 6 (some ((1, (0 : Int32), a_tape_size), 0, 0)))))
set_option maxHeartbeats 4000000 in
set_option maxRecDepth 100000 in
theorem c_UB_end (l : Launch) (g : va_G) (cs : Nat → ClassId) (ka : Nat → Nat) (hfl : l.flags = pinnedFlags ++ [noTraceFlag]) (a_names : Nat) (a_terms : Nat) (a_reader : Nat) (a_unifier : Nat) (a_printer : Nat) (a_registers : Nat) (a_marked : Nat) (a_tape_items : Nat) (a a_tape : Nat) (sz : Nat) (nn : Int32) (a_marks : Int32) (a_place : Int32) (a_tape_size : Int32) (xc : Nat) (r : Int32) (o_a_tape_size : Int32) (mc ms : Nat) (hok : p_UB_end nn a_marks a_place a_tape_size = some ((xc, r, o_a_tape_size), mc, ms)) : tx_Met l y_UB_end (.code y_UB_end b_UB_end 2 (some .int) :: GW) { frames := 6, cells := mc, slots := ms, locals := 90 } (va_Pc [.ref a, .int nn] (gP g cs ka [(a, .inr (9, [.ref a_tape, .ref a_names, .ref a_terms, .ref a_reader, .ref a_unifier, .ref a_printer, .ref a_registers, .ref a_marked, .int a_marks, .int a_place])), (a_tape, .inr (0, [.ref a_tape_items, .int a_tape_size]))] sz)) (fun _ st oc t => (tx_O xc (some (.int r)) oc t ∧ va_P g classes [(a, .inr (9, [.ref a_tape, .ref a_names, .ref a_terms, .ref a_reader, .ref a_unifier, .ref a_printer, .ref a_registers, .ref a_marked, .int a_marks, .int a_place])), (a_tape, .inr (0, [.ref a_tape_items, .int o_a_tape_size]))] t.heap ∧ va_D (va_A [(a, .inr (9, [.ref a_tape, .ref a_names, .ref a_terms, .ref a_reader, .ref a_unifier, .ref a_printer, .ref a_registers, .ref a_marked, .int a_marks, .int a_place])), (a_tape, .inr (0, [.ref a_tape_items, .int a_tape_size]))] sz) [(a, .inr (9, [.ref a_tape, .ref a_names, .ref a_terms, .ref a_reader, .ref a_unifier, .ref a_printer, .ref a_registers, .ref a_marked, .int a_marks, .int a_place])), (a_tape, .inr (0, [.ref a_tape_items, .int o_a_tape_size]))]) ∧ va_F (va_A [(a, .inr (9, [.ref a_tape, .ref a_names, .ref a_terms, .ref a_reader, .ref a_unifier, .ref a_printer, .ref a_registers, .ref a_marked, .int a_marks, .int a_place])), (a_tape, .inr (0, [.ref a_tape_items, .int a_tape_size]))] sz) st t) mc ms (va_A [(a, .inr (9, [.ref a_tape, .ref a_names, .ref a_terms, .ref a_reader, .ref a_unifier, .ref a_printer, .ref a_registers, .ref a_marked, .int a_marks, .int a_place])), (a_tape, .inr (0, [.ref a_tape_items, .int a_tape_size]))] sz) := by
  refine tx_ofW (cc := b_UB_end) (maxL := 2) (ret := (some .int)) (by decide) rfl ?_
  intro p e s m args below meth c s₁ B hml hv
  obtain ⟨rfl, hsz, hP, hK, hD0, hgl, hkn, hkr⟩ := hv
  have hx := B.exec
  have hb := B.bytes
  have hr := B.returns
  have hg : ∀ w ∈ GW, w.before ([.ref a, .int nn] : List Value).toArray s = true := fun w hw => atoms_spec (ws := .code y_UB_end b_UB_end 2 (some .int) :: GW) B.pre w (List.mem_cons_of_mem _ hw)
  have hown : s.vm.findClass R_UB = some m.cls := findClass_of_methodNamed B.named
  have hlocks := B.notSynchronized
  have hcd : (Cond.code y_UB_end b_UB_end 2 (some .int)).before ([.ref a, .int nn] : List Value).toArray s = true := atoms_spec (ws := .code y_UB_end b_UB_end 2 (some .int) :: GW) B.pre _ List.mem_cons_self
  subst hsz
  have hD := hD0.self (sz := s.heap.size)
  generalize hAe : va_A [(a, .inr (9, [.ref a_tape, .ref a_names, .ref a_terms, .ref a_reader, .ref a_unifier, .ref a_printer, .ref a_registers, .ref a_marked, .int a_marks, .int a_place])), (a_tape, .inr (0, [.ref a_tape_items, .int a_tape_size]))] s.heap.size = A at hD hkn ⊢
  have hA : ∀ q : Nat, s.heap.size ≤ q → A q := fun q h => by rw [← hAe]; exact Or.inr h
  have hS : va_S A s.heap s.heap [] := va_S.rf
  have hP : va_P g classes [(a, .inr (9, [.ref a_tape, .ref a_names, .ref a_terms, .ref a_reader, .ref a_unifier, .ref a_printer, .ref a_registers, .ref a_marked, .int a_marks, .int a_place])), (a_tape, .inr (0, [.ref a_tape_items, .int a_tape_size]))] s.heap := hP
  have hl := lv_entry ([.ref a, .int nn]) (n := 2) (Nat.le_of_ble_eq_true rfl)
  rw [lg_entry_eq]
  generalize (lg_sl ([.ref a, .int nn]) ++ List.replicate (2 - (lg_sl ([.ref a, .int nn])).length) Slot.unset).toArray = ls at hl ⊢
  have hl : lv_has ls 2 [(0, .ref a), (1, .int nn)] := hl
  refine gq (fun Q hQ => ?_)
  obtain ⟨H, hH⟩ : ∃ H : Heap, H = s.heap := ⟨_, rfl⟩
  rw [← hH] at hP
  have hS : va_S A s.heap H [] := by rw [hH]; exact hS
  refine W.eqH hH ?_
  obtain ⟨locs, hlc⟩ : ∃ L : List Loc, L = [] := ⟨_, rfl⟩
  rw [← hlc] at hS ⊢
  unfold p_UB_end at hok
  refine lv_iload_n hx hb d_UB_end_0 rfl (lv_at hl 1 rfl) ?_
  refine lv_if_lt hx hb d_UB_end_1 rfl (fun h1 => ?_) (fun h1 => ?_)
  · rw [if_pos h1] at hok
    obtain ⟨m3, s3, hok, hmc3, hms3⟩ := al_some hok
    obtain ⟨hq, hw⟩ := Prod.mk.inj (Option.some.inj hok)
    obtain ⟨hmc0, hms0⟩ := Prod.mk.inj hw
    obtain ⟨hq0, hq⟩ := Prod.mk.inj hq
    obtain ⟨hq1, hq⟩ := Prod.mk.inj hq
    have hq2 := hq
    subst hq0
    subst hq1
    subst hq2
    have hD9 := hD.sub (ws' := [(a, .inr (9, [.ref a_tape, .ref a_names, .ref a_terms, .ref a_reader, .ref a_unifier, .ref a_printer, .ref a_registers, .ref a_marked, .int a_marks, .int a_place])), (a_tape, .inr (0, [.ref a_tape_items, .int a_tape_size]))]) [0, 1] (by decide) rfl
    rw [hQ]
    refine tx_wid (k := 0 + 1) (n := 0 + 6) (by omega) (by omega) ?_
    exact tx_throw (X := "java/lang/IllegalArgumentException") hx hb (hml.trans hl.1.symm) hfl hlocks hown (by decide) (hg _ wd_626) (hg _ wd_627) (tx_before tx_at_UB_99 hg hgl hkn) hkn hP hS hA (tx_noH B hcd 22) (show 0 + 1 ≤ mc from by omega) (show 0 + 6 ≤ ms from by omega) (Nat.le_of_ble_eq_true rfl) (Nat.le_of_ble_eq_true rfl) d_UB_end_15 d_UB_end_18 d_UB_end_19 d_UB_end_22 (fun t x hPt hSt hW hX => ⟨⟨tx_O.t0 (by decide) hX, hPt.sub (ws' := [(a, .inr (9, [.ref a_tape, .ref a_names, .ref a_terms, .ref a_reader, .ref a_unifier, .ref a_printer, .ref a_registers, .ref a_marked, .int a_marks, .int a_place])), (a_tape, .inr (0, [.ref a_tape_items, .int a_tape_size]))]) [0, 1] rfl, hD9⟩, hSt.F rfl⟩) hS.2.2
  · rw [if_neg h1] at hok
    refine lv_iload_n hx hb d_UB_end_4 rfl (lv_at hl 1 rfl) ?_
    refine lv_aload_n hx hb d_UB_end_5 rfl (lv_at hl 0 rfl) ?_
    refine va_get (D := g) (ci := 9) (v := .ref a_tape) (C := R_UB) (T := F_UB) (N := 10) hx hb hg ul_UB hown hK hP 0 rfl rfl 0 (by decide) (hg _ wd_628) (fun _ h9 => h9) rfl d_UB_end_6 ?_
    obtain ⟨r4, hc4, hok⟩ := bd_some hok
    obtain ⟨hPc, hDc, hFc⟩ := cut0 (wc := [(a_tape, .inr (0, [.ref a_tape_items, .int a_tape_size]))]) hP hD hS hA [1] (by decide) rfl
    refine va_calli (va_runV (As := []) (rest := [.int nn]) ⟨hx, hb, hml, hown, hg⟩ (c_Bytes_size l g cs ka a_tape_items a_tape H.size a_tape_size r4 hc4) (cwV (C := R_Bytes) 0 hg (gw_V wd_630 wd_452 wd_453 wd_450 wd_449) rfl rfl rfl (by decide +kernel) ⟨Nat.le_of_ble_eq_true rfl, Nat.le_of_ble_eq_true rfl⟩) ⟨gP_blind, va_recv (q0 := 1) (ci := 0) (q := (R_Bytes, F_Bytes, 2)) hK hP rfl rfl, gP_pre hPc hDc hK hgl hkn hkr hS hFc⟩ rfl rfl hl.1 rfl (lv_room (Nat.le_of_ble_eq_true rfl)) d_UB_end_9 ⟨show 0 + 0 ≤ mc from by omega, show 0 + 0 ≤ ms from by omega⟩) hS (fun q _ h => hFc q h) hFc (fun r4' u t H locs ht hvm hr4 hB hz1 hk1 hS => ?_)
    subst hr4
    rw [ht] at hB
    obtain ⟨hP1, hD1⟩ := hB
    obtain ⟨hP, hD⟩ := jn_A hP hD [1] [0] rfl rfl (by decide) (by decide) hk1 hFc hP1 hD1
    obtain ⟨hP, hD⟩ : PD g A H [(a, .inr (9, [.ref a_tape, .ref a_names, .ref a_terms, .ref a_reader, .ref a_unifier, .ref a_printer, .ref a_registers, .ref a_marked, .int a_marks, .int a_place])), (a_tape, .inr (0, [.ref a_tape_items, .int a_tape_size]))] := ⟨hP, hD⟩
    refine lv_icmp_le hx hb d_UB_end_12 rfl (fun h5 => ?_) (fun h5 => ?_)
    · rw [if_pos h5] at hok
      refine lv_aload_n hx hb d_UB_end_23 rfl (lv_at hl 0 rfl) ?_
      refine va_get (D := g) (ci := 9) (v := .ref a_tape) (C := R_UB) (T := F_UB) (N := 10) hx hb hg ul_UB hown hK hP 0 rfl rfl 0 (by decide) (hg _ wd_628) (fun _ h9 => h9) rfl d_UB_end_24 ?_
      refine lv_iload_n hx hb d_UB_end_27 rfl (lv_at hl 1 rfl) ?_
      obtain ⟨a_size_6, hc6, hok⟩ := bd_some hok
      obtain ⟨hPc, hDc, hFc⟩ := cut0 (wc := [(a_tape, .inr (0, [.ref a_tape_items, .int a_tape_size]))]) hP hD hS hA [1] (by decide) rfl
      refine va_callv (va_runV (As := [.int nn]) (rest := []) ⟨hx, hb, hml, hown, hg⟩ (c_Bytes_cut l g cs ka a_tape_items a_tape H.size nn a_tape_size a_size_6 hc6) (cwV (C := R_Bytes) 1 hg (gw_V wd_638 wd_611 wd_612 wd_450 wd_609) rfl rfl rfl (by decide +kernel) ⟨Nat.le_of_ble_eq_true rfl, Nat.le_of_ble_eq_true rfl⟩) ⟨gP_blind, va_recv (q0 := 1) (ci := 0) (q := (R_Bytes, F_Bytes, 2)) hK hP rfl rfl, gP_pre hPc hDc hK hgl hkn hkr hS hFc⟩ rfl rfl hl.1 rfl (lv_room (Nat.le_of_ble_eq_true rfl)) d_UB_end_28 ⟨show 0 + 0 + 0 ≤ mc from by omega, show 0 + 0 + 0 ≤ ms from by omega⟩) hS (fun q _ h => hFc q h) hFc (fun u t H locs ht hvm hr6 hB hz1 hk1 hS => ?_)
      rw [ht] at hB
      obtain ⟨hP1, hD1⟩ := hB
      obtain ⟨hP, hD⟩ := jn_A hP hD [1] [0] rfl rfl (by decide) (by decide) hk1 hFc hP1 hD1
      obtain ⟨hP, hD⟩ : PD g A H [(a, .inr (9, [.ref a_tape, .ref a_names, .ref a_terms, .ref a_reader, .ref a_unifier, .ref a_printer, .ref a_registers, .ref a_marked, .int a_marks, .int a_place])), (a_tape, .inr (0, [.ref a_tape_items, .int a_size_6]))] := ⟨hP, hD⟩
      refine lv_iload_n hx hb d_UB_end_31 rfl (lv_at hl 1 rfl) ?_
      obtain ⟨hq, hw⟩ := Prod.mk.inj (Option.some.inj hok)
      obtain ⟨hmc0, hms0⟩ := Prod.mk.inj hw
      obtain ⟨hq0, hq⟩ := Prod.mk.inj hq
      obtain ⟨hq1, hq⟩ := Prod.mk.inj hq
      have hq2 := hq
      subst hq0
      subst hq1
      subst hq2
      obtain ⟨hP9, hD9⟩ := sub2 (ws' := [(a, .inr (9, [.ref a_tape, .ref a_names, .ref a_terms, .ref a_reader, .ref a_unifier, .ref a_printer, .ref a_registers, .ref a_marked, .int a_marks, .int a_place])), (a_tape, .inr (0, [.ref a_tape_items, .int a_size_6]))]) hP hD [0, 1] rfl (by decide) rfl
      refine W.widen (k := mc) (n := ms) (by omega) (by omega) ?_
      rw [hQ]
      exact tx_ret (W.iret (v := nn) hx hb hr (fun t ht hW => ⟨⟨tx_O.r0, by rw [ht]; exact hP9, hD9⟩, hS.F ht⟩) hS.2.2 d_UB_end_32)
    · rw [if_neg h5] at hok
      obtain ⟨m8, s8, hok, hmc8, hms8⟩ := al_some hok
      obtain ⟨hq, hw⟩ := Prod.mk.inj (Option.some.inj hok)
      obtain ⟨hmc0, hms0⟩ := Prod.mk.inj hw
      obtain ⟨hq0, hq⟩ := Prod.mk.inj hq
      obtain ⟨hq1, hq⟩ := Prod.mk.inj hq
      have hq2 := hq
      subst hq0
      subst hq1
      subst hq2
      have hD9 := hD.sub (ws' := [(a, .inr (9, [.ref a_tape, .ref a_names, .ref a_terms, .ref a_reader, .ref a_unifier, .ref a_printer, .ref a_registers, .ref a_marked, .int a_marks, .int a_place])), (a_tape, .inr (0, [.ref a_tape_items, .int a_tape_size]))]) [0, 1] (by decide) rfl
      rw [hQ]
      refine tx_wid (k := 0 + 0 + 1) (n := 0 + 0 + 6) (by omega) (by omega) ?_
      exact tx_throw (X := "java/lang/IllegalArgumentException") hx hb (hml.trans hl.1.symm) hfl hlocks hown (by decide) (hg _ wd_626) (hg _ wd_627) (tx_before tx_at_UB_99 hg hgl hkn) hkn hP hS hA (tx_noH B hcd 22) (show 0 + 0 + 1 ≤ mc from by omega) (show 0 + 0 + 6 ≤ ms from by omega) (Nat.le_of_ble_eq_true rfl) (Nat.le_of_ble_eq_true rfl) d_UB_end_15 d_UB_end_18 d_UB_end_19 d_UB_end_22 (fun t x hPt hSt hW hX => ⟨⟨tx_O.t0 (by decide) hX, hPt.sub (ws' := [(a, .inr (9, [.ref a_tape, .ref a_names, .ref a_terms, .ref a_reader, .ref a_unifier, .ref a_printer, .ref a_registers, .ref a_marked, .int a_marks, .int a_place])), (a_tape, .inr (0, [.ref a_tape_items, .int a_tape_size]))]) [0, 1] rfl, hD9⟩, hSt.F rfl⟩) hS.2.2

theorem d_UB_mark_0 : decode b_UB_mark 0 = .ok (.aload_n 0, 1) := by decide +kernel
theorem d_UB_mark_1 : decode b_UB_mark 1 = .ok (.getfield 73, 3) := by decide +kernel
theorem d_UB_mark_4 : decode b_UB_mark 4 = .ok (.bipush 30, 2) := by decide +kernel
theorem d_UB_mark_6 : decode b_UB_mark 6 = .ok (.if_icmp .lt 11, 3) := by decide +kernel
theorem d_UB_mark_9 : decode b_UB_mark 9 = .ok (.new 90, 3) := by decide +kernel
theorem d_UB_mark_12 : decode b_UB_mark 12 = .ok (.dup, 1) := by decide +kernel
theorem d_UB_mark_13 : decode b_UB_mark 13 = .ok (.invokespecial 92, 3) := by decide +kernel
theorem d_UB_mark_16 : decode b_UB_mark 16 = .ok (.athrow, 1) := by decide +kernel
theorem d_UB_mark_17 : decode b_UB_mark 17 = .ok (.iconst 0, 1) := by decide +kernel
theorem d_UB_mark_18 : decode b_UB_mark 18 = .ok (.istore_n 1, 1) := by decide +kernel
theorem d_UB_mark_19 : decode b_UB_mark 19 = .ok (.iload_n 1, 1) := by decide +kernel
theorem d_UB_mark_20 : decode b_UB_mark 20 = .ok (.bipush 8, 2) := by decide +kernel
theorem d_UB_mark_22 : decode b_UB_mark 22 = .ok (.if_icmp .ge 22, 3) := by decide +kernel
theorem d_UB_mark_25 : decode b_UB_mark 25 = .ok (.aload_n 0, 1) := by decide +kernel
theorem d_UB_mark_26 : decode b_UB_mark 26 = .ok (.getfield 69, 3) := by decide +kernel
theorem d_UB_mark_29 : decode b_UB_mark 29 = .ok (.aload_n 0, 1) := by decide +kernel
theorem d_UB_mark_30 : decode b_UB_mark 30 = .ok (.getfield 62, 3) := by decide +kernel
theorem d_UB_mark_33 : decode b_UB_mark 33 = .ok (.iload_n 1, 1) := by decide +kernel
theorem d_UB_mark_34 : decode b_UB_mark 34 = .ok (.iaload, 1) := by decide +kernel
theorem d_UB_mark_35 : decode b_UB_mark 35 = .ok (.invokevirtual 149, 3) := by decide +kernel
theorem d_UB_mark_38 : decode b_UB_mark 38 = .ok (.iinc 1 1, 3) := by decide +kernel
theorem d_UB_mark_41 : decode b_UB_mark 41 = .ok (.goto (-22), 3) := by decide +kernel
theorem d_UB_mark_44 : decode b_UB_mark 44 = .ok (.aload_n 0, 1) := by decide +kernel
theorem d_UB_mark_45 : decode b_UB_mark 45 = .ok (.getfield 26, 3) := by decide +kernel
theorem d_UB_mark_48 : decode b_UB_mark 48 = .ok (.aload_n 0, 1) := by decide +kernel
theorem d_UB_mark_49 : decode b_UB_mark 49 = .ok (.getfield 69, 3) := by decide +kernel
theorem d_UB_mark_52 : decode b_UB_mark 52 = .ok (.invokevirtual 152, 3) := by decide +kernel
theorem d_UB_mark_55 : decode b_UB_mark 55 = .ok (.aload_n 0, 1) := by decide +kernel
theorem d_UB_mark_56 : decode b_UB_mark 56 = .ok (.dup, 1) := by decide +kernel
theorem d_UB_mark_57 : decode b_UB_mark 57 = .ok (.getfield 73, 3) := by decide +kernel
theorem d_UB_mark_60 : decode b_UB_mark 60 = .ok (.iconst 1, 1) := by decide +kernel
theorem d_UB_mark_61 : decode b_UB_mark 61 = .ok (.iadd, 1) := by decide +kernel
theorem d_UB_mark_62 : decode b_UB_mark 62 = .ok (.putfield 73, 3) := by decide +kernel
theorem d_UB_mark_65 : decode b_UB_mark 65 = .ok (.aload_n 0, 1) := by decide +kernel
theorem d_UB_mark_66 : decode b_UB_mark 66 = .ok (.getfield 73, 3) := by decide +kernel
theorem d_UB_mark_69 : decode b_UB_mark 69 = .ok (.ireturn, 1) := by decide +kernel
def p_UB_mark_19 (n : Nat) (a_marks : Int32) (a_terms_nodes : Int32) (a_terms_variables : Int32) (a_terms_variablesLack : Int32) (a_terms_symbols : Int32) (a_terms_nodesBefore : Int32) (a_terms_partsBefore : Int32) (a_terms_variablesBefore : Int32) (a_terms_became_n : Nat) (a_terms_became_f : Nat → Int32) (a_registers_n : Nat) (a_registers_f : Nat → Int32) (kf2 : Nat) (x1_2 : Int32) (a_marked_size_2 : Int32) (a_marked_items_2n : Nat) (a_marked_items_2f : Nat → Int32) : Option ((Nat × Int32 × Int32 × Int32 × Nat × (Nat → Int32)) × Nat × Nat) := match kf2 with
  | 0 => none
  | kf2 + 1 => if 8 ≤ x1_2 then ((p_Terms_pushBindings n a_terms_nodes a_terms_variables a_terms_variablesLack a_terms_symbols a_terms_nodesBefore a_terms_partsBefore a_terms_variablesBefore a_terms_became_n a_terms_became_f a_marked_size_2 a_marked_items_2n a_marked_items_2f).bind (fun ((stack_size_4, stack_items_n_4, stack_items_f_4), mk4, sk4) => al mk4 sk4 (some ((0, a_marks + 1, a_marks + 1, stack_size_4, stack_items_n_4, stack_items_f_4), 0, 0)))) else (ck (ixb x1_2 a_registers_n) ((p_Ints_push (a_registers_f x1_2.toNatClampNeg) a_marked_size_2 a_marked_items_2n a_marked_items_2f).bind (fun ((a_size_6, a_items_n_6, a_items_f_6), mk6, sk6) => al mk6 sk6 (p_UB_mark_19 n a_marks a_terms_nodes a_terms_variables a_terms_variablesLack a_terms_symbols a_terms_nodesBefore a_terms_partsBefore a_terms_variablesBefore a_terms_became_n a_terms_became_f a_registers_n a_registers_f kf2 (x1_2 + 1) a_size_6 a_items_n_6 a_items_f_6))))
def p_UB_mark (n : Nat) (a_marks : Int32) (a_place : Int32) (a_terms_nodes : Int32) (a_terms_variables : Int32) (a_terms_variablesLack : Int32) (a_terms_symbols : Int32) (a_terms_nodesBefore : Int32) (a_terms_partsBefore : Int32) (a_terms_variablesBefore : Int32) (a_terms_became_n : Nat) (a_terms_became_f : Nat → Int32) (a_registers_n : Nat) (a_registers_f : Nat → Int32) (a_marked_size : Int32) (a_marked_items_n : Nat) (a_marked_items_f : Nat → Int32) : Option ((Nat × Int32 × Int32 × Int32 × Nat × (Nat → Int32)) × Nat × Nat) := if a_marks < 30 then (p_UB_mark_19 n a_marks a_terms_nodes a_terms_variables a_terms_variablesLack a_terms_symbols a_terms_nodesBefore a_terms_partsBefore a_terms_variablesBefore a_terms_became_n a_terms_became_f a_registers_n a_registers_f n (0 : Int32) a_marked_size a_marked_items_n a_marked_items_f) else (al 1 6 (some ((3, (0 : Int32), a_marks, a_marked_size, a_marked_items_n, a_marked_items_f), 0, 0)))
set_option maxHeartbeats 4000000 in
set_option maxRecDepth 100000 in
theorem c_UB_mark (l : Launch) (g : va_G) (cs : Nat → ClassId) (ka : Nat → Nat) (hfl : l.flags = pinnedFlags ++ [noTraceFlag]) (a_tape : Nat) (a_names : Nat) (a_reader : Nat) (a_unifier : Nat) (a_printer : Nat) (a_terms_shapes : Nat) (a_terms_values : Nat) (a_terms_firstParts : Nat) (a_terms_parts : Nat) (a_terms_variableNames : Nat) (a a_terms a_terms_became a_registers a_marked a_marked_items : Nat) (sz : Nat) (n : Nat) (a_marks : Int32) (a_place : Int32) (a_terms_nodes : Int32) (a_terms_variables : Int32) (a_terms_variablesLack : Int32) (a_terms_symbols : Int32) (a_terms_nodesBefore : Int32) (a_terms_partsBefore : Int32) (a_terms_variablesBefore : Int32) (a_terms_became_n : Nat) (a_terms_became_f : Nat → Int32) (a_registers_n : Nat) (a_registers_f : Nat → Int32) (a_marked_size : Int32) (a_marked_items_n : Nat) (a_marked_items_f : Nat → Int32) (xc : Nat) (r : Int32) (o_a_marks : Int32) (o_a_marked_size : Int32) (o_a_marked_items_n : Nat) (o_a_marked_items_f : Nat → Int32) (mc ms : Nat) (hok : p_UB_mark n a_marks a_place a_terms_nodes a_terms_variables a_terms_variablesLack a_terms_symbols a_terms_nodesBefore a_terms_partsBefore a_terms_variablesBefore a_terms_became_n a_terms_became_f a_registers_n a_registers_f a_marked_size a_marked_items_n a_marked_items_f = some ((xc, r, o_a_marks, o_a_marked_size, o_a_marked_items_n, o_a_marked_items_f), mc, ms)) : tx_Met l y_UB_mark (.code y_UB_mark b_UB_mark 2 (some .int) :: GW) { frames := 6, cells := mc, slots := ms, locals := 165 } (va_Pc [.ref a] (gP g cs ka [(a, .inr (9, [.ref a_tape, .ref a_names, .ref a_terms, .ref a_reader, .ref a_unifier, .ref a_printer, .ref a_registers, .ref a_marked, .int a_marks, .int a_place])), (a_terms, .inr (7, [.ref a_terms_shapes, .ref a_terms_values, .ref a_terms_firstParts, .int a_terms_nodes, .ref a_terms_parts, .ref a_terms_variableNames, .ref a_terms_became, .int a_terms_variables, .int a_terms_variablesLack, .int a_terms_symbols, .int a_terms_nodesBefore, .int a_terms_partsBefore, .int a_terms_variablesBefore])), (a_terms_became, .inl (cs 0, a_terms_became_n, .inl a_terms_became_f)), (a_registers, .inl (cs 0, a_registers_n, .inl a_registers_f)), (a_marked, .inr (1, [.ref a_marked_items, .int a_marked_size])), (a_marked_items, .inl (cs 0, a_marked_items_n, .inl a_marked_items_f))] sz)) (fun _ st oc t => (tx_O xc (some (.int r)) oc t ∧ ∃ b_a_marked_items : Nat, va_P g classes [(a, .inr (9, [.ref a_tape, .ref a_names, .ref a_terms, .ref a_reader, .ref a_unifier, .ref a_printer, .ref a_registers, .ref a_marked, .int o_a_marks, .int a_place])), (a_terms, .inr (7, [.ref a_terms_shapes, .ref a_terms_values, .ref a_terms_firstParts, .int a_terms_nodes, .ref a_terms_parts, .ref a_terms_variableNames, .ref a_terms_became, .int a_terms_variables, .int a_terms_variablesLack, .int a_terms_symbols, .int a_terms_nodesBefore, .int a_terms_partsBefore, .int a_terms_variablesBefore])), (a_terms_became, .inl (cs 0, a_terms_became_n, .inl a_terms_became_f)), (a_registers, .inl (cs 0, a_registers_n, .inl a_registers_f)), (a_marked, .inr (1, [.ref b_a_marked_items, .int o_a_marked_size])), (b_a_marked_items, .inl (cs 0, o_a_marked_items_n, .inl o_a_marked_items_f))] t.heap ∧ va_D (va_A [(a, .inr (9, [.ref a_tape, .ref a_names, .ref a_terms, .ref a_reader, .ref a_unifier, .ref a_printer, .ref a_registers, .ref a_marked, .int a_marks, .int a_place])), (a_terms, .inr (7, [.ref a_terms_shapes, .ref a_terms_values, .ref a_terms_firstParts, .int a_terms_nodes, .ref a_terms_parts, .ref a_terms_variableNames, .ref a_terms_became, .int a_terms_variables, .int a_terms_variablesLack, .int a_terms_symbols, .int a_terms_nodesBefore, .int a_terms_partsBefore, .int a_terms_variablesBefore])), (a_terms_became, .inl (cs 0, a_terms_became_n, .inl a_terms_became_f)), (a_registers, .inl (cs 0, a_registers_n, .inl a_registers_f)), (a_marked, .inr (1, [.ref a_marked_items, .int a_marked_size])), (a_marked_items, .inl (cs 0, a_marked_items_n, .inl a_marked_items_f))] sz) [(a, .inr (9, [.ref a_tape, .ref a_names, .ref a_terms, .ref a_reader, .ref a_unifier, .ref a_printer, .ref a_registers, .ref a_marked, .int o_a_marks, .int a_place])), (a_terms, .inr (7, [.ref a_terms_shapes, .ref a_terms_values, .ref a_terms_firstParts, .int a_terms_nodes, .ref a_terms_parts, .ref a_terms_variableNames, .ref a_terms_became, .int a_terms_variables, .int a_terms_variablesLack, .int a_terms_symbols, .int a_terms_nodesBefore, .int a_terms_partsBefore, .int a_terms_variablesBefore])), (a_terms_became, .inl (cs 0, a_terms_became_n, .inl a_terms_became_f)), (a_registers, .inl (cs 0, a_registers_n, .inl a_registers_f)), (a_marked, .inr (1, [.ref b_a_marked_items, .int o_a_marked_size])), (b_a_marked_items, .inl (cs 0, o_a_marked_items_n, .inl o_a_marked_items_f))]) ∧ va_F (va_A [(a, .inr (9, [.ref a_tape, .ref a_names, .ref a_terms, .ref a_reader, .ref a_unifier, .ref a_printer, .ref a_registers, .ref a_marked, .int a_marks, .int a_place])), (a_terms, .inr (7, [.ref a_terms_shapes, .ref a_terms_values, .ref a_terms_firstParts, .int a_terms_nodes, .ref a_terms_parts, .ref a_terms_variableNames, .ref a_terms_became, .int a_terms_variables, .int a_terms_variablesLack, .int a_terms_symbols, .int a_terms_nodesBefore, .int a_terms_partsBefore, .int a_terms_variablesBefore])), (a_terms_became, .inl (cs 0, a_terms_became_n, .inl a_terms_became_f)), (a_registers, .inl (cs 0, a_registers_n, .inl a_registers_f)), (a_marked, .inr (1, [.ref a_marked_items, .int a_marked_size])), (a_marked_items, .inl (cs 0, a_marked_items_n, .inl a_marked_items_f))] sz) st t) mc ms (va_A [(a, .inr (9, [.ref a_tape, .ref a_names, .ref a_terms, .ref a_reader, .ref a_unifier, .ref a_printer, .ref a_registers, .ref a_marked, .int a_marks, .int a_place])), (a_terms, .inr (7, [.ref a_terms_shapes, .ref a_terms_values, .ref a_terms_firstParts, .int a_terms_nodes, .ref a_terms_parts, .ref a_terms_variableNames, .ref a_terms_became, .int a_terms_variables, .int a_terms_variablesLack, .int a_terms_symbols, .int a_terms_nodesBefore, .int a_terms_partsBefore, .int a_terms_variablesBefore])), (a_terms_became, .inl (cs 0, a_terms_became_n, .inl a_terms_became_f)), (a_registers, .inl (cs 0, a_registers_n, .inl a_registers_f)), (a_marked, .inr (1, [.ref a_marked_items, .int a_marked_size])), (a_marked_items, .inl (cs 0, a_marked_items_n, .inl a_marked_items_f))] sz) := by
  refine tx_ofW (cc := b_UB_mark) (maxL := 2) (ret := (some .int)) (by decide) rfl ?_
  intro p e s m args below meth c s₁ B hml hv
  obtain ⟨rfl, hsz, hP, hK, hD0, hgl, hkn, hkr⟩ := hv
  have hx := B.exec
  have hb := B.bytes
  have hr := B.returns
  have hg : ∀ w ∈ GW, w.before ([.ref a] : List Value).toArray s = true := fun w hw => atoms_spec (ws := .code y_UB_mark b_UB_mark 2 (some .int) :: GW) B.pre w (List.mem_cons_of_mem _ hw)
  have hown : s.vm.findClass R_UB = some m.cls := findClass_of_methodNamed B.named
  have hlocks := B.notSynchronized
  have hcd : (Cond.code y_UB_mark b_UB_mark 2 (some .int)).before ([.ref a] : List Value).toArray s = true := atoms_spec (ws := .code y_UB_mark b_UB_mark 2 (some .int) :: GW) B.pre _ List.mem_cons_self
  subst hsz
  have hD := hD0.self (sz := s.heap.size)
  generalize hAe : va_A [(a, .inr (9, [.ref a_tape, .ref a_names, .ref a_terms, .ref a_reader, .ref a_unifier, .ref a_printer, .ref a_registers, .ref a_marked, .int a_marks, .int a_place])), (a_terms, .inr (7, [.ref a_terms_shapes, .ref a_terms_values, .ref a_terms_firstParts, .int a_terms_nodes, .ref a_terms_parts, .ref a_terms_variableNames, .ref a_terms_became, .int a_terms_variables, .int a_terms_variablesLack, .int a_terms_symbols, .int a_terms_nodesBefore, .int a_terms_partsBefore, .int a_terms_variablesBefore])), (a_terms_became, .inl (cs 0, a_terms_became_n, .inl a_terms_became_f)), (a_registers, .inl (cs 0, a_registers_n, .inl a_registers_f)), (a_marked, .inr (1, [.ref a_marked_items, .int a_marked_size])), (a_marked_items, .inl (cs 0, a_marked_items_n, .inl a_marked_items_f))] s.heap.size = A at hD hkn ⊢
  have hA : ∀ q : Nat, s.heap.size ≤ q → A q := fun q h => by rw [← hAe]; exact Or.inr h
  have hS : va_S A s.heap s.heap [] := va_S.rf
  have hP : va_P g classes [(a, .inr (9, [.ref a_tape, .ref a_names, .ref a_terms, .ref a_reader, .ref a_unifier, .ref a_printer, .ref a_registers, .ref a_marked, .int a_marks, .int a_place])), (a_terms, .inr (7, [.ref a_terms_shapes, .ref a_terms_values, .ref a_terms_firstParts, .int a_terms_nodes, .ref a_terms_parts, .ref a_terms_variableNames, .ref a_terms_became, .int a_terms_variables, .int a_terms_variablesLack, .int a_terms_symbols, .int a_terms_nodesBefore, .int a_terms_partsBefore, .int a_terms_variablesBefore])), (a_terms_became, .inl (cs 0, a_terms_became_n, .inl a_terms_became_f)), (a_registers, .inl (cs 0, a_registers_n, .inl a_registers_f)), (a_marked, .inr (1, [.ref a_marked_items, .int a_marked_size])), (a_marked_items, .inl (cs 0, a_marked_items_n, .inl a_marked_items_f))] s.heap := hP
  have hl := lv_entry ([.ref a]) (n := 2) (Nat.le_of_ble_eq_true rfl)
  rw [lg_entry_eq]
  generalize (lg_sl ([.ref a]) ++ List.replicate (2 - (lg_sl ([.ref a])).length) Slot.unset).toArray = ls at hl ⊢
  have hl : lv_has ls 2 [(0, .ref a)] := hl
  refine gq (fun Q hQ => ?_)
  obtain ⟨H, hH⟩ : ∃ H : Heap, H = s.heap := ⟨_, rfl⟩
  rw [← hH] at hP
  have hS : va_S A s.heap H [] := by rw [hH]; exact hS
  refine W.eqH hH ?_
  obtain ⟨locs, hlc⟩ : ∃ L : List Loc, L = [] := ⟨_, rfl⟩
  rw [← hlc] at hS ⊢
  unfold p_UB_mark at hok
  refine lv_aload_n hx hb d_UB_mark_0 rfl (lv_at hl 0 rfl) ?_
  refine va_get (D := g) (ci := 9) (v := .int a_marks) (C := R_UB) (T := F_UB) (N := 10) hx hb hg ul_UB hown hK hP 0 rfl rfl 8 (by decide) (hg _ wd_639) (fun _ h9 => h9) rfl d_UB_mark_1 ?_
  refine lv_bipush (v := 30) hx hb d_UB_mark_4 (by decide) ?_
  refine lv_icmp_lt hx hb d_UB_mark_6 rfl (fun h1 => ?_) (fun h1 => ?_)
  · rw [if_pos h1] at hok
    refine lv_iconst (v := 0) hx hb d_UB_mark_17 (by decide) ?_
    refine lv_istore_n hx hb d_UB_mark_18 rfl hl (by decide) rfl (fun ls hl => ?_)
    have hl : lv_has ls 2 [(1, .int 0), (0, .ref a)] := hl
    have J2 : ∀ (kf2 : Nat) (H : Heap) (locs : List Loc) (ls : Array Slot) (cells2 slots2 mr2 sr2 : Nat) (a_marked_items_2 : Nat) (x1_2 : Int32) (a_marked_size_2 : Int32) (a_marked_items_2n : Nat) (a_marked_items_2f : Nat → Int32), lv_has ls 2 [(1, .int x1_2), (0, .ref a)] → PD g A H [(a, .inr (9, [.ref a_tape, .ref a_names, .ref a_terms, .ref a_reader, .ref a_unifier, .ref a_printer, .ref a_registers, .ref a_marked, .int a_marks, .int a_place])), (a_terms, .inr (7, [.ref a_terms_shapes, .ref a_terms_values, .ref a_terms_firstParts, .int a_terms_nodes, .ref a_terms_parts, .ref a_terms_variableNames, .ref a_terms_became, .int a_terms_variables, .int a_terms_variablesLack, .int a_terms_symbols, .int a_terms_nodesBefore, .int a_terms_partsBefore, .int a_terms_variablesBefore])), (a_terms_became, .inl (cs 0, a_terms_became_n, .inl a_terms_became_f)), (a_registers, .inl (cs 0, a_registers_n, .inl a_registers_f)), (a_marked, .inr (1, [.ref a_marked_items_2, .int a_marked_size_2])), (a_marked_items_2, .inl (cs 0, a_marked_items_2n, .inl a_marked_items_2f))] → va_S A s.heap H locs → cells2 + mr2 = mc → slots2 + sr2 = ms → p_UB_mark_19 n a_marks a_terms_nodes a_terms_variables a_terms_variablesLack a_terms_symbols a_terms_nodesBefore a_terms_partsBefore a_terms_variablesBefore a_terms_became_n a_terms_became_f a_registers_n a_registers_f kf2 x1_2 a_marked_size_2 a_marked_items_2n a_marked_items_2f = some ((xc, r, o_a_marks, o_a_marked_size, o_a_marked_items_n, o_a_marked_items_f), mr2, sr2) → W p l e (headSpec (.code y_UB_mark b_UB_mark 2 (some .int) :: GW) { frames := 6, cells := mc, slots := ms, locals := 165 }).room s m ([.ref a] : List Value).toArray below meth c H locs cells2 slots2 Q (F0 m 19 ls []) := by
      intro kf2
      induction kf2 with
      | zero => intro H locs ls cells2 slots2 mr2 sr2 a_marked_items_2 x1_2 a_marked_size_2 a_marked_items_2n a_marked_items_2f hl ⟨hP, hD⟩ hS hmr2 hsr2 hok; rw [p_UB_mark_19] at hok; cases hok
      | succ kf2 ih2 =>
        intro H locs ls cells2 slots2 mr2 sr2 a_marked_items_2 x1_2 a_marked_size_2 a_marked_items_2n a_marked_items_2f hl ⟨hP, hD⟩ hS hmr2 hsr2 hok
        rw [p_UB_mark_19] at hok
        refine lv_iload_n hx hb d_UB_mark_19 rfl (lv_at hl 0 rfl) ?_
        refine lv_bipush (v := 8) hx hb d_UB_mark_20 (by decide) ?_
        refine lv_icmp_ge hx hb d_UB_mark_22 rfl (fun h3 => ?_) (fun h3 => ?_)
        · rw [if_pos h3] at hok
          refine lv_aload_n hx hb d_UB_mark_44 rfl (lv_at hl 1 rfl) ?_
          refine va_get (D := g) (ci := 9) (v := .ref a_terms) (C := R_UB) (T := F_UB) (N := 10) hx hb hg ul_UB hown hK hP 0 rfl rfl 2 (by decide) (hg _ wd_640) (fun _ h9 => h9) rfl d_UB_mark_45 ?_
          refine lv_aload_n hx hb d_UB_mark_48 rfl (lv_at hl 1 rfl) ?_
          refine va_get (D := g) (ci := 9) (v := .ref a_marked) (C := R_UB) (T := F_UB) (N := 10) hx hb hg ul_UB hown hK hP 0 rfl rfl 7 (by decide) (hg _ wd_641) (fun _ h9 => h9) rfl d_UB_mark_49 ?_
          obtain ⟨⟨⟨stack_size_4, stack_items_n_4, stack_items_f_4⟩, mk4, sk4⟩, hc4, hok⟩ := bd_some hok
          dsimp only at hok
          obtain ⟨m4, s4, hok, hmc4, hms4⟩ := al_some hok
          obtain ⟨hPc, hDc, hFc⟩ := cut0 (wc := [(a_terms, .inr (7, [.ref a_terms_shapes, .ref a_terms_values, .ref a_terms_firstParts, .int a_terms_nodes, .ref a_terms_parts, .ref a_terms_variableNames, .ref a_terms_became, .int a_terms_variables, .int a_terms_variablesLack, .int a_terms_symbols, .int a_terms_nodesBefore, .int a_terms_partsBefore, .int a_terms_variablesBefore])), (a_terms_became, .inl (cs 0, a_terms_became_n, .inl a_terms_became_f)), (a_marked, .inr (1, [.ref a_marked_items_2, .int a_marked_size_2])), (a_marked_items_2, .inl (cs 0, a_marked_items_2n, .inl a_marked_items_2f))]) hP hD hS hA [1, 2, 4, 5] (by decide) rfl
          refine va_callv (va_runV (As := [.ref a_marked]) (rest := []) ⟨hx, hb, hml, hown, hg⟩ (c_Terms_pushBindings l g cs ka a_terms_shapes a_terms_values a_terms_firstParts a_terms_parts a_terms_variableNames a_terms a_terms_became a_marked a_marked_items_2 H.size n a_terms_nodes a_terms_variables a_terms_variablesLack a_terms_symbols a_terms_nodesBefore a_terms_partsBefore a_terms_variablesBefore a_terms_became_n a_terms_became_f a_marked_size_2 a_marked_items_2n a_marked_items_2f stack_size_4 stack_items_n_4 stack_items_f_4 mk4 sk4 hc4) (cwV (C := R_Terms) 1 hg (gw_V wd_643 wd_644 wd_645 wd_264 wd_642) rfl rfl rfl (by decide +kernel) ⟨Nat.le_of_ble_eq_true rfl, Nat.le_of_ble_eq_true rfl⟩) ⟨gP_blind, va_recv (q0 := 1) (ci := 7) (q := (R_Terms, F_Terms, 13)) hK hP rfl rfl, gP_pre hPc hDc hK hgl hkn hkr hS hFc⟩ rfl rfl hl.1 rfl (lv_room (Nat.le_of_ble_eq_true rfl)) d_UB_mark_52 ⟨show cells2 + mk4 ≤ mc from by omega, show slots2 + sk4 ≤ ms from by omega⟩) hS (fun q _ h => hFc q h) hFc (fun u t H locs ht hvm hr4 hB hz1 hk1 hS => ?_)
          rw [ht] at hB
          obtain ⟨stack_items_4, hP1, hD1⟩ := hB
          obtain ⟨hP, hD⟩ := jn_A hP hD [1, 2, 4, 5] [0, 3] rfl rfl (by decide) (by decide) hk1 hFc hP1 hD1
          obtain ⟨hP, hD⟩ : PD g A H [(a, .inr (9, [.ref a_tape, .ref a_names, .ref a_terms, .ref a_reader, .ref a_unifier, .ref a_printer, .ref a_registers, .ref a_marked, .int a_marks, .int a_place])), (a_registers, .inl (cs 0, a_registers_n, .inl a_registers_f)), (a_terms, .inr (7, [.ref a_terms_shapes, .ref a_terms_values, .ref a_terms_firstParts, .int a_terms_nodes, .ref a_terms_parts, .ref a_terms_variableNames, .ref a_terms_became, .int a_terms_variables, .int a_terms_variablesLack, .int a_terms_symbols, .int a_terms_nodesBefore, .int a_terms_partsBefore, .int a_terms_variablesBefore])), (a_terms_became, .inl (cs 0, a_terms_became_n, .inl a_terms_became_f)), (a_marked, .inr (1, [.ref stack_items_4, .int stack_size_4])), (stack_items_4, .inl (cs 0, stack_items_n_4, .inl stack_items_f_4))] := ⟨hP, hD⟩
          refine lv_aload_n hx hb d_UB_mark_55 rfl (lv_at hl 1 rfl) ?_
          refine lv_dup hx hb d_UB_mark_56 rfl ?_
          refine va_get (D := g) (ci := 9) (v := .int a_marks) (C := R_UB) (T := F_UB) (N := 10) hx hb hg ul_UB hown hK hP 0 rfl rfl 8 (by decide) (hg _ wd_639) (fun _ h9 => h9) rfl d_UB_mark_57 ?_
          refine lv_iconst (v := 1) hx hb d_UB_mark_60 (by decide) ?_
          refine lv_iadd hx hb d_UB_mark_61 ?_
          refine va_put (D := g) (ci := 9) (v := .int (a_marks + 1)) (ty := .int) (C := R_UB) (T := F_UB) (N := 10) hx hb hg ul_UB t_UB tk_UB n_UB hown hK hP hD hS 0 rfl rfl 8 (by decide) (hg _ wd_639) (fun _ h9 => h9) rfl (by decide +kernel) rfl rfl (Nat.le_of_ble_eq_true rfl) d_UB_mark_62 (fun H locs hP hD hS => ?_)
          obtain ⟨hP, hD⟩ : PD g A H [(a, .inr (9, [.ref a_tape, .ref a_names, .ref a_terms, .ref a_reader, .ref a_unifier, .ref a_printer, .ref a_registers, .ref a_marked, .int (a_marks + 1), .int a_place])), (a_registers, .inl (cs 0, a_registers_n, .inl a_registers_f)), (a_terms, .inr (7, [.ref a_terms_shapes, .ref a_terms_values, .ref a_terms_firstParts, .int a_terms_nodes, .ref a_terms_parts, .ref a_terms_variableNames, .ref a_terms_became, .int a_terms_variables, .int a_terms_variablesLack, .int a_terms_symbols, .int a_terms_nodesBefore, .int a_terms_partsBefore, .int a_terms_variablesBefore])), (a_terms_became, .inl (cs 0, a_terms_became_n, .inl a_terms_became_f)), (a_marked, .inr (1, [.ref stack_items_4, .int stack_size_4])), (stack_items_4, .inl (cs 0, stack_items_n_4, .inl stack_items_f_4))] := ⟨hP, hD⟩
          refine lv_aload_n hx hb d_UB_mark_65 rfl (lv_at hl 1 rfl) ?_
          refine va_get (D := g) (ci := 9) (v := .int (a_marks + 1)) (C := R_UB) (T := F_UB) (N := 10) hx hb hg ul_UB hown hK hP 0 rfl rfl 8 (by decide) (hg _ wd_639) (fun _ h9 => h9) rfl d_UB_mark_66 ?_
          obtain ⟨hq, hw⟩ := Prod.mk.inj (Option.some.inj hok)
          obtain ⟨hmc0, hms0⟩ := Prod.mk.inj hw
          obtain ⟨hq0, hq⟩ := Prod.mk.inj hq
          obtain ⟨hq1, hq⟩ := Prod.mk.inj hq
          obtain ⟨hq2, hq⟩ := Prod.mk.inj hq
          obtain ⟨hq3, hq⟩ := Prod.mk.inj hq
          obtain ⟨hq4, hq⟩ := Prod.mk.inj hq
          have hq5 := hq
          subst hq0
          subst hq1
          subst hq2
          subst hq3
          subst hq4
          subst hq5
          obtain ⟨hP9, hD9⟩ := sub2 (ws' := [(a, .inr (9, [.ref a_tape, .ref a_names, .ref a_terms, .ref a_reader, .ref a_unifier, .ref a_printer, .ref a_registers, .ref a_marked, .int (a_marks + 1), .int a_place])), (a_terms, .inr (7, [.ref a_terms_shapes, .ref a_terms_values, .ref a_terms_firstParts, .int a_terms_nodes, .ref a_terms_parts, .ref a_terms_variableNames, .ref a_terms_became, .int a_terms_variables, .int a_terms_variablesLack, .int a_terms_symbols, .int a_terms_nodesBefore, .int a_terms_partsBefore, .int a_terms_variablesBefore])), (a_terms_became, .inl (cs 0, a_terms_became_n, .inl a_terms_became_f)), (a_registers, .inl (cs 0, a_registers_n, .inl a_registers_f)), (a_marked, .inr (1, [.ref stack_items_4, .int stack_size_4])), (stack_items_4, .inl (cs 0, stack_items_n_4, .inl stack_items_f_4))]) hP hD [0, 2, 3, 1, 4, 5] rfl (by decide) rfl
          refine W.widen (k := mc) (n := ms) (by omega) (by omega) ?_
          rw [hQ]
          exact tx_ret (W.iret (v := a_marks + 1) hx hb hr (fun t ht hW => ⟨⟨tx_O.r0, stack_items_4, by rw [ht]; exact hP9, hD9⟩, hS.F ht⟩) hS.2.2 d_UB_mark_69)
        · rw [if_neg h3] at hok
          refine lv_aload_n hx hb d_UB_mark_25 rfl (lv_at hl 1 rfl) ?_
          refine va_get (D := g) (ci := 9) (v := .ref a_marked) (C := R_UB) (T := F_UB) (N := 10) hx hb hg ul_UB hown hK hP 0 rfl rfl 7 (by decide) (hg _ wd_641) (fun _ h9 => h9) rfl d_UB_mark_26 ?_
          refine lv_aload_n hx hb d_UB_mark_29 rfl (lv_at hl 1 rfl) ?_
          refine va_get (D := g) (ci := 9) (v := .ref a_registers) (C := R_UB) (T := F_UB) (N := 10) hx hb hg ul_UB hown hK hP 0 rfl rfl 6 (by decide) (hg _ wd_646) (fun _ h9 => h9) rfl d_UB_mark_30 ?_
          refine lv_iload_n hx hb d_UB_mark_33 rfl (lv_at hl 0 rfl) ?_
          obtain ⟨hi5, hok⟩ := ck_some hok
          refine va_iald hx hb hK hP 3 0 rfl rfl (ixb_in hi5) d_UB_mark_34 ?_
          obtain ⟨⟨⟨a_size_6, a_items_n_6, a_items_f_6⟩, mk6, sk6⟩, hc6, hok⟩ := bd_some hok
          dsimp only at hok
          obtain ⟨m6, s6, hok, hmc6, hms6⟩ := al_some hok
          obtain ⟨hPc, hDc, hFc⟩ := cut0 (wc := [(a_marked, .inr (1, [.ref a_marked_items_2, .int a_marked_size_2])), (a_marked_items_2, .inl (cs 0, a_marked_items_2n, .inl a_marked_items_2f))]) hP hD hS hA [4, 5] (by decide) rfl
          refine va_callv (va_runV (As := [.int (a_registers_f x1_2.toNatClampNeg)]) (rest := []) ⟨hx, hb, hml, hown, hg⟩ (c_Ints_push l g cs ka a_marked a_marked_items_2 H.size (a_registers_f x1_2.toNatClampNeg) a_marked_size_2 a_marked_items_2n a_marked_items_2f a_size_6 a_items_n_6 a_items_f_6 mk6 sk6 hc6) (cwV (C := R_Ints) 1 hg (gw_V wd_647 wd_274 wd_275 wd_234 wd_272) rfl rfl rfl (by decide +kernel) ⟨Nat.le_of_ble_eq_true rfl, Nat.le_of_ble_eq_true rfl⟩) ⟨gP_blind, va_recv (q0 := 4) (ci := 1) (q := (R_Ints, F_Ints, 2)) hK hP rfl rfl, gP_pre hPc hDc hK hgl hkn hkr hS hFc⟩ rfl rfl hl.1 rfl (lv_room (Nat.le_of_ble_eq_true rfl)) d_UB_mark_35 ⟨show cells2 + mk6 ≤ mc from by omega, show slots2 + sk6 ≤ ms from by omega⟩) hS (fun q _ h => hFc q h) hFc (fun u t H locs ht hvm hr6 hB hz1 hk1 hS => ?_)
          rw [ht] at hB
          obtain ⟨a_items_6, hP1, hD1⟩ := hB
          obtain ⟨hP, hD⟩ := jn_A hP hD [4, 5] [0, 1, 2, 3] rfl rfl (by decide) (by decide) hk1 hFc hP1 hD1
          obtain ⟨hP, hD⟩ : PD g A H [(a, .inr (9, [.ref a_tape, .ref a_names, .ref a_terms, .ref a_reader, .ref a_unifier, .ref a_printer, .ref a_registers, .ref a_marked, .int a_marks, .int a_place])), (a_terms, .inr (7, [.ref a_terms_shapes, .ref a_terms_values, .ref a_terms_firstParts, .int a_terms_nodes, .ref a_terms_parts, .ref a_terms_variableNames, .ref a_terms_became, .int a_terms_variables, .int a_terms_variablesLack, .int a_terms_symbols, .int a_terms_nodesBefore, .int a_terms_partsBefore, .int a_terms_variablesBefore])), (a_terms_became, .inl (cs 0, a_terms_became_n, .inl a_terms_became_f)), (a_registers, .inl (cs 0, a_registers_n, .inl a_registers_f)), (a_marked, .inr (1, [.ref a_items_6, .int a_size_6])), (a_items_6, .inl (cs 0, a_items_n_6, .inl a_items_f_6))] := ⟨hP, hD⟩
          refine lv_iinc (k := 0) (v := x1_2 + 1) hx hb d_UB_mark_38 hl rfl rfl (by decide) rfl (fun ls hl => ?_)
          have hl : lv_has ls 2 [(1, .int (x1_2 + 1)), (0, .ref a)] := hl
          refine lv_goto hx hb d_UB_mark_41 rfl ?_
          exact ih2 _ _ _ _ _ _ _ a_items_6 (x1_2 + 1) a_size_6 a_items_n_6 a_items_f_6 (lv_sub hl [0, 1] rfl) (sub3 hP hD [0, 1, 2, 3, 4, 5] (by decide)) hS (by omega) (by omega) hok
    exact J2 n H locs ls _ _ _ _ a_marked_items (0 : Int32) a_marked_size a_marked_items_n a_marked_items_f hl ⟨hP, hD⟩ hS (by omega) (by omega) hok
  · rw [if_neg h1] at hok
    obtain ⟨m8, s8, hok, hmc8, hms8⟩ := al_some hok
    obtain ⟨hq, hw⟩ := Prod.mk.inj (Option.some.inj hok)
    obtain ⟨hmc0, hms0⟩ := Prod.mk.inj hw
    obtain ⟨hq0, hq⟩ := Prod.mk.inj hq
    obtain ⟨hq1, hq⟩ := Prod.mk.inj hq
    obtain ⟨hq2, hq⟩ := Prod.mk.inj hq
    obtain ⟨hq3, hq⟩ := Prod.mk.inj hq
    obtain ⟨hq4, hq⟩ := Prod.mk.inj hq
    have hq5 := hq
    subst hq0
    subst hq1
    subst hq2
    subst hq3
    subst hq4
    subst hq5
    have hD9 := hD.sub (ws' := [(a, .inr (9, [.ref a_tape, .ref a_names, .ref a_terms, .ref a_reader, .ref a_unifier, .ref a_printer, .ref a_registers, .ref a_marked, .int a_marks, .int a_place])), (a_terms, .inr (7, [.ref a_terms_shapes, .ref a_terms_values, .ref a_terms_firstParts, .int a_terms_nodes, .ref a_terms_parts, .ref a_terms_variableNames, .ref a_terms_became, .int a_terms_variables, .int a_terms_variablesLack, .int a_terms_symbols, .int a_terms_nodesBefore, .int a_terms_partsBefore, .int a_terms_variablesBefore])), (a_terms_became, .inl (cs 0, a_terms_became_n, .inl a_terms_became_f)), (a_registers, .inl (cs 0, a_registers_n, .inl a_registers_f)), (a_marked, .inr (1, [.ref a_marked_items, .int a_marked_size])), (a_marked_items, .inl (cs 0, a_marked_items_n, .inl a_marked_items_f))]) [0, 1, 2, 3, 4, 5] (by decide) rfl
    rw [hQ]
    refine tx_wid (k := 0 + 1) (n := 0 + 6) (by omega) (by omega) ?_
    exact tx_throw (X := "java/lang/IndexOutOfBoundsException") hx hb (hml.trans hl.1.symm) hfl hlocks hown (by decide) (hg _ wd_636) (hg _ wd_637) (tx_before tx_at_UB_92 hg hgl hkn) hkn hP hS hA (tx_noH B hcd 16) (show 0 + 1 ≤ mc from by omega) (show 0 + 6 ≤ ms from by omega) (Nat.le_of_ble_eq_true rfl) (Nat.le_of_ble_eq_true rfl) d_UB_mark_9 d_UB_mark_12 d_UB_mark_13 d_UB_mark_16 (fun t x hPt hSt hW hX => ⟨⟨tx_O.t0 (by decide) hX, a_marked_items, hPt.sub (ws' := [(a, .inr (9, [.ref a_tape, .ref a_names, .ref a_terms, .ref a_reader, .ref a_unifier, .ref a_printer, .ref a_registers, .ref a_marked, .int a_marks, .int a_place])), (a_terms, .inr (7, [.ref a_terms_shapes, .ref a_terms_values, .ref a_terms_firstParts, .int a_terms_nodes, .ref a_terms_parts, .ref a_terms_variableNames, .ref a_terms_became, .int a_terms_variables, .int a_terms_variablesLack, .int a_terms_symbols, .int a_terms_nodesBefore, .int a_terms_partsBefore, .int a_terms_variablesBefore])), (a_terms_became, .inl (cs 0, a_terms_became_n, .inl a_terms_became_f)), (a_registers, .inl (cs 0, a_registers_n, .inl a_registers_f)), (a_marked, .inr (1, [.ref a_marked_items, .int a_marked_size])), (a_marked_items, .inl (cs 0, a_marked_items_n, .inl a_marked_items_f))]) [0, 1, 2, 3, 4, 5] rfl, hD9⟩, hSt.F rfl⟩) hS.2.2

theorem d_UB_undo_0 : decode b_UB_undo 0 = .ok (.aload_n 0, 1) := by decide +kernel
theorem d_UB_undo_1 : decode b_UB_undo 1 = .ok (.getfield 73, 3) := by decide +kernel
theorem d_UB_undo_4 : decode b_UB_undo 4 = .ok (.ifCond .ne 11, 3) := by decide +kernel
theorem d_UB_undo_7 : decode b_UB_undo 7 = .ok (.new 142, 3) := by decide +kernel
theorem d_UB_undo_10 : decode b_UB_undo 10 = .ok (.dup, 1) := by decide +kernel
theorem d_UB_undo_11 : decode b_UB_undo 11 = .ok (.invokespecial 144, 3) := by decide +kernel
theorem d_UB_undo_14 : decode b_UB_undo 14 = .ok (.athrow, 1) := by decide +kernel
theorem d_UB_undo_15 : decode b_UB_undo 15 = .ok (.aload_n 0, 1) := by decide +kernel
theorem d_UB_undo_16 : decode b_UB_undo 16 = .ok (.getfield 26, 3) := by decide +kernel
theorem d_UB_undo_19 : decode b_UB_undo 19 = .ok (.aload_n 0, 1) := by decide +kernel
theorem d_UB_undo_20 : decode b_UB_undo 20 = .ok (.getfield 69, 3) := by decide +kernel
theorem d_UB_undo_23 : decode b_UB_undo 23 = .ok (.invokevirtual 156, 3) := by decide +kernel
theorem d_UB_undo_26 : decode b_UB_undo 26 = .ok (.bipush 7, 2) := by decide +kernel
theorem d_UB_undo_28 : decode b_UB_undo 28 = .ok (.istore_n 1, 1) := by decide +kernel
theorem d_UB_undo_29 : decode b_UB_undo 29 = .ok (.iload_n 1, 1) := by decide +kernel
theorem d_UB_undo_30 : decode b_UB_undo 30 = .ok (.ifCond .lt 22, 3) := by decide +kernel
theorem d_UB_undo_33 : decode b_UB_undo 33 = .ok (.aload_n 0, 1) := by decide +kernel
theorem d_UB_undo_34 : decode b_UB_undo 34 = .ok (.getfield 62, 3) := by decide +kernel
theorem d_UB_undo_37 : decode b_UB_undo 37 = .ok (.iload_n 1, 1) := by decide +kernel
theorem d_UB_undo_38 : decode b_UB_undo 38 = .ok (.aload_n 0, 1) := by decide +kernel
theorem d_UB_undo_39 : decode b_UB_undo 39 = .ok (.getfield 69, 3) := by decide +kernel
theorem d_UB_undo_42 : decode b_UB_undo 42 = .ok (.invokevirtual 159, 3) := by decide +kernel
theorem d_UB_undo_45 : decode b_UB_undo 45 = .ok (.iastore, 1) := by decide +kernel
theorem d_UB_undo_46 : decode b_UB_undo 46 = .ok (.iinc 1 (-1), 3) := by decide +kernel
theorem d_UB_undo_49 : decode b_UB_undo 49 = .ok (.goto (-20), 3) := by decide +kernel
theorem d_UB_undo_52 : decode b_UB_undo 52 = .ok (.aload_n 0, 1) := by decide +kernel
theorem d_UB_undo_53 : decode b_UB_undo 53 = .ok (.dup, 1) := by decide +kernel
theorem d_UB_undo_54 : decode b_UB_undo 54 = .ok (.getfield 73, 3) := by decide +kernel
theorem d_UB_undo_57 : decode b_UB_undo 57 = .ok (.iconst 1, 1) := by decide +kernel
theorem d_UB_undo_58 : decode b_UB_undo 58 = .ok (.isub, 1) := by decide +kernel
theorem d_UB_undo_59 : decode b_UB_undo 59 = .ok (.putfield 73, 3) := by decide +kernel
theorem d_UB_undo_62 : decode b_UB_undo 62 = .ok (.aload_n 0, 1) := by decide +kernel
theorem d_UB_undo_63 : decode b_UB_undo 63 = .ok (.getfield 73, 3) := by decide +kernel
theorem d_UB_undo_66 : decode b_UB_undo 66 = .ok (.ireturn, 1) := by decide +kernel
def p_UB_undo_29 (n : Nat) (a_marks : Int32) (a_registers_n : Nat) (a_marked_items_n : Nat) (a_marked_items_f : Nat → Int32) (a_became_f_2 : Nat → Int32) (kf3 : Nat) (x1_3 : Int32) (a_marked_size_3 : Int32) (a_registers_3f : Nat → Int32) : Option ((Nat × Int32 × Int32 × (Nat → Int32) × (Nat → Int32) × Int32) × Nat × Nat) := match kf3 with
  | 0 => none
  | kf3 + 1 => if x1_3 < 0 then (some ((0, a_marks - 1, a_marks - 1, a_became_f_2, a_registers_3f, a_marked_size_3), 0, 0)) else ((p_Ints_pop a_marked_size_3 a_marked_items_n a_marked_items_f).bind (fun (r5, a_size_5) => ck (ixb x1_3 a_registers_n) (p_UB_undo_29 n a_marks a_registers_n a_marked_items_n a_marked_items_f a_became_f_2 kf3 (x1_3 + (-1)) a_size_5 (upd a_registers_3f x1_3.toNatClampNeg r5))))
def p_UB_undo (n : Nat) (a_marks : Int32) (a_place : Int32) (a_terms_nodes : Int32) (a_terms_variables : Int32) (a_terms_variablesLack : Int32) (a_terms_symbols : Int32) (a_terms_nodesBefore : Int32) (a_terms_partsBefore : Int32) (a_terms_variablesBefore : Int32) (a_terms_became_n : Nat) (a_terms_became_f : Nat → Int32) (a_registers_n : Nat) (a_registers_f : Nat → Int32) (a_marked_size : Int32) (a_marked_items_n : Nat) (a_marked_items_f : Nat → Int32) : Option ((Nat × Int32 × Int32 × (Nat → Int32) × (Nat → Int32) × Int32) × Nat × Nat) := if a_marks = 0 then (al 1 6 (some ((4, (0 : Int32), a_marks, a_terms_became_f, a_registers_f, a_marked_size), 0, 0))) else ((p_Terms_popBindings n a_terms_nodes a_terms_variables a_terms_variablesLack a_terms_symbols a_terms_nodesBefore a_terms_partsBefore a_terms_variablesBefore a_terms_became_n a_terms_became_f a_marked_size a_marked_items_n a_marked_items_f).bind (fun (a_became_f_2, stack_size_2) => p_UB_undo_29 n a_marks a_registers_n a_marked_items_n a_marked_items_f a_became_f_2 n (7 : Int32) stack_size_2 a_registers_f))
set_option maxHeartbeats 4000000 in
set_option maxRecDepth 100000 in
theorem c_UB_undo (l : Launch) (g : va_G) (cs : Nat → ClassId) (ka : Nat → Nat) (hfl : l.flags = pinnedFlags ++ [noTraceFlag]) (a_tape : Nat) (a_names : Nat) (a_reader : Nat) (a_unifier : Nat) (a_printer : Nat) (a_terms_shapes : Nat) (a_terms_values : Nat) (a_terms_firstParts : Nat) (a_terms_parts : Nat) (a_terms_variableNames : Nat) (a a_terms a_terms_became a_registers a_marked a_marked_items : Nat) (sz : Nat) (n : Nat) (a_marks : Int32) (a_place : Int32) (a_terms_nodes : Int32) (a_terms_variables : Int32) (a_terms_variablesLack : Int32) (a_terms_symbols : Int32) (a_terms_nodesBefore : Int32) (a_terms_partsBefore : Int32) (a_terms_variablesBefore : Int32) (a_terms_became_n : Nat) (a_terms_became_f : Nat → Int32) (a_registers_n : Nat) (a_registers_f : Nat → Int32) (a_marked_size : Int32) (a_marked_items_n : Nat) (a_marked_items_f : Nat → Int32) (xc : Nat) (r : Int32) (o_a_marks : Int32) (o_a_terms_became_f : Nat → Int32) (o_a_registers_f : Nat → Int32) (o_a_marked_size : Int32) (mc ms : Nat) (hok : p_UB_undo n a_marks a_place a_terms_nodes a_terms_variables a_terms_variablesLack a_terms_symbols a_terms_nodesBefore a_terms_partsBefore a_terms_variablesBefore a_terms_became_n a_terms_became_f a_registers_n a_registers_f a_marked_size a_marked_items_n a_marked_items_f = some ((xc, r, o_a_marks, o_a_terms_became_f, o_a_registers_f, o_a_marked_size), mc, ms)) : tx_Met l y_UB_undo (.code y_UB_undo b_UB_undo 2 (some .int) :: GW) { frames := 6, cells := mc, slots := ms, locals := 90 } (va_Pc [.ref a] (gP g cs ka [(a, .inr (9, [.ref a_tape, .ref a_names, .ref a_terms, .ref a_reader, .ref a_unifier, .ref a_printer, .ref a_registers, .ref a_marked, .int a_marks, .int a_place])), (a_terms, .inr (7, [.ref a_terms_shapes, .ref a_terms_values, .ref a_terms_firstParts, .int a_terms_nodes, .ref a_terms_parts, .ref a_terms_variableNames, .ref a_terms_became, .int a_terms_variables, .int a_terms_variablesLack, .int a_terms_symbols, .int a_terms_nodesBefore, .int a_terms_partsBefore, .int a_terms_variablesBefore])), (a_terms_became, .inl (cs 0, a_terms_became_n, .inl a_terms_became_f)), (a_registers, .inl (cs 0, a_registers_n, .inl a_registers_f)), (a_marked, .inr (1, [.ref a_marked_items, .int a_marked_size])), (a_marked_items, .inl (cs 0, a_marked_items_n, .inl a_marked_items_f))] sz)) (fun _ st oc t => (tx_O xc (some (.int r)) oc t ∧ va_P g classes [(a, .inr (9, [.ref a_tape, .ref a_names, .ref a_terms, .ref a_reader, .ref a_unifier, .ref a_printer, .ref a_registers, .ref a_marked, .int o_a_marks, .int a_place])), (a_terms, .inr (7, [.ref a_terms_shapes, .ref a_terms_values, .ref a_terms_firstParts, .int a_terms_nodes, .ref a_terms_parts, .ref a_terms_variableNames, .ref a_terms_became, .int a_terms_variables, .int a_terms_variablesLack, .int a_terms_symbols, .int a_terms_nodesBefore, .int a_terms_partsBefore, .int a_terms_variablesBefore])), (a_terms_became, .inl (cs 0, a_terms_became_n, .inl o_a_terms_became_f)), (a_registers, .inl (cs 0, a_registers_n, .inl o_a_registers_f)), (a_marked, .inr (1, [.ref a_marked_items, .int o_a_marked_size])), (a_marked_items, .inl (cs 0, a_marked_items_n, .inl a_marked_items_f))] t.heap ∧ va_D (va_A [(a, .inr (9, [.ref a_tape, .ref a_names, .ref a_terms, .ref a_reader, .ref a_unifier, .ref a_printer, .ref a_registers, .ref a_marked, .int a_marks, .int a_place])), (a_terms, .inr (7, [.ref a_terms_shapes, .ref a_terms_values, .ref a_terms_firstParts, .int a_terms_nodes, .ref a_terms_parts, .ref a_terms_variableNames, .ref a_terms_became, .int a_terms_variables, .int a_terms_variablesLack, .int a_terms_symbols, .int a_terms_nodesBefore, .int a_terms_partsBefore, .int a_terms_variablesBefore])), (a_terms_became, .inl (cs 0, a_terms_became_n, .inl a_terms_became_f)), (a_registers, .inl (cs 0, a_registers_n, .inl a_registers_f)), (a_marked, .inr (1, [.ref a_marked_items, .int a_marked_size])), (a_marked_items, .inl (cs 0, a_marked_items_n, .inl a_marked_items_f))] sz) [(a, .inr (9, [.ref a_tape, .ref a_names, .ref a_terms, .ref a_reader, .ref a_unifier, .ref a_printer, .ref a_registers, .ref a_marked, .int o_a_marks, .int a_place])), (a_terms, .inr (7, [.ref a_terms_shapes, .ref a_terms_values, .ref a_terms_firstParts, .int a_terms_nodes, .ref a_terms_parts, .ref a_terms_variableNames, .ref a_terms_became, .int a_terms_variables, .int a_terms_variablesLack, .int a_terms_symbols, .int a_terms_nodesBefore, .int a_terms_partsBefore, .int a_terms_variablesBefore])), (a_terms_became, .inl (cs 0, a_terms_became_n, .inl o_a_terms_became_f)), (a_registers, .inl (cs 0, a_registers_n, .inl o_a_registers_f)), (a_marked, .inr (1, [.ref a_marked_items, .int o_a_marked_size])), (a_marked_items, .inl (cs 0, a_marked_items_n, .inl a_marked_items_f))]) ∧ va_F (va_A [(a, .inr (9, [.ref a_tape, .ref a_names, .ref a_terms, .ref a_reader, .ref a_unifier, .ref a_printer, .ref a_registers, .ref a_marked, .int a_marks, .int a_place])), (a_terms, .inr (7, [.ref a_terms_shapes, .ref a_terms_values, .ref a_terms_firstParts, .int a_terms_nodes, .ref a_terms_parts, .ref a_terms_variableNames, .ref a_terms_became, .int a_terms_variables, .int a_terms_variablesLack, .int a_terms_symbols, .int a_terms_nodesBefore, .int a_terms_partsBefore, .int a_terms_variablesBefore])), (a_terms_became, .inl (cs 0, a_terms_became_n, .inl a_terms_became_f)), (a_registers, .inl (cs 0, a_registers_n, .inl a_registers_f)), (a_marked, .inr (1, [.ref a_marked_items, .int a_marked_size])), (a_marked_items, .inl (cs 0, a_marked_items_n, .inl a_marked_items_f))] sz) st t) mc ms (va_A [(a, .inr (9, [.ref a_tape, .ref a_names, .ref a_terms, .ref a_reader, .ref a_unifier, .ref a_printer, .ref a_registers, .ref a_marked, .int a_marks, .int a_place])), (a_terms, .inr (7, [.ref a_terms_shapes, .ref a_terms_values, .ref a_terms_firstParts, .int a_terms_nodes, .ref a_terms_parts, .ref a_terms_variableNames, .ref a_terms_became, .int a_terms_variables, .int a_terms_variablesLack, .int a_terms_symbols, .int a_terms_nodesBefore, .int a_terms_partsBefore, .int a_terms_variablesBefore])), (a_terms_became, .inl (cs 0, a_terms_became_n, .inl a_terms_became_f)), (a_registers, .inl (cs 0, a_registers_n, .inl a_registers_f)), (a_marked, .inr (1, [.ref a_marked_items, .int a_marked_size])), (a_marked_items, .inl (cs 0, a_marked_items_n, .inl a_marked_items_f))] sz) := by
  refine tx_ofW (cc := b_UB_undo) (maxL := 2) (ret := (some .int)) (by decide) rfl ?_
  intro p e s m args below meth c s₁ B hml hv
  obtain ⟨rfl, hsz, hP, hK, hD0, hgl, hkn, hkr⟩ := hv
  have hx := B.exec
  have hb := B.bytes
  have hr := B.returns
  have hg : ∀ w ∈ GW, w.before ([.ref a] : List Value).toArray s = true := fun w hw => atoms_spec (ws := .code y_UB_undo b_UB_undo 2 (some .int) :: GW) B.pre w (List.mem_cons_of_mem _ hw)
  have hown : s.vm.findClass R_UB = some m.cls := findClass_of_methodNamed B.named
  have hlocks := B.notSynchronized
  have hcd : (Cond.code y_UB_undo b_UB_undo 2 (some .int)).before ([.ref a] : List Value).toArray s = true := atoms_spec (ws := .code y_UB_undo b_UB_undo 2 (some .int) :: GW) B.pre _ List.mem_cons_self
  subst hsz
  have hD := hD0.self (sz := s.heap.size)
  generalize hAe : va_A [(a, .inr (9, [.ref a_tape, .ref a_names, .ref a_terms, .ref a_reader, .ref a_unifier, .ref a_printer, .ref a_registers, .ref a_marked, .int a_marks, .int a_place])), (a_terms, .inr (7, [.ref a_terms_shapes, .ref a_terms_values, .ref a_terms_firstParts, .int a_terms_nodes, .ref a_terms_parts, .ref a_terms_variableNames, .ref a_terms_became, .int a_terms_variables, .int a_terms_variablesLack, .int a_terms_symbols, .int a_terms_nodesBefore, .int a_terms_partsBefore, .int a_terms_variablesBefore])), (a_terms_became, .inl (cs 0, a_terms_became_n, .inl a_terms_became_f)), (a_registers, .inl (cs 0, a_registers_n, .inl a_registers_f)), (a_marked, .inr (1, [.ref a_marked_items, .int a_marked_size])), (a_marked_items, .inl (cs 0, a_marked_items_n, .inl a_marked_items_f))] s.heap.size = A at hD hkn ⊢
  have hA : ∀ q : Nat, s.heap.size ≤ q → A q := fun q h => by rw [← hAe]; exact Or.inr h
  have hS : va_S A s.heap s.heap [] := va_S.rf
  have hP : va_P g classes [(a, .inr (9, [.ref a_tape, .ref a_names, .ref a_terms, .ref a_reader, .ref a_unifier, .ref a_printer, .ref a_registers, .ref a_marked, .int a_marks, .int a_place])), (a_terms, .inr (7, [.ref a_terms_shapes, .ref a_terms_values, .ref a_terms_firstParts, .int a_terms_nodes, .ref a_terms_parts, .ref a_terms_variableNames, .ref a_terms_became, .int a_terms_variables, .int a_terms_variablesLack, .int a_terms_symbols, .int a_terms_nodesBefore, .int a_terms_partsBefore, .int a_terms_variablesBefore])), (a_terms_became, .inl (cs 0, a_terms_became_n, .inl a_terms_became_f)), (a_registers, .inl (cs 0, a_registers_n, .inl a_registers_f)), (a_marked, .inr (1, [.ref a_marked_items, .int a_marked_size])), (a_marked_items, .inl (cs 0, a_marked_items_n, .inl a_marked_items_f))] s.heap := hP
  have hl := lv_entry ([.ref a]) (n := 2) (Nat.le_of_ble_eq_true rfl)
  rw [lg_entry_eq]
  generalize (lg_sl ([.ref a]) ++ List.replicate (2 - (lg_sl ([.ref a])).length) Slot.unset).toArray = ls at hl ⊢
  have hl : lv_has ls 2 [(0, .ref a)] := hl
  refine gq (fun Q hQ => ?_)
  obtain ⟨H, hH⟩ : ∃ H : Heap, H = s.heap := ⟨_, rfl⟩
  rw [← hH] at hP
  have hS : va_S A s.heap H [] := by rw [hH]; exact hS
  refine W.eqH hH ?_
  obtain ⟨locs, hlc⟩ : ∃ L : List Loc, L = [] := ⟨_, rfl⟩
  rw [← hlc] at hS ⊢
  unfold p_UB_undo at hok
  refine lv_aload_n hx hb d_UB_undo_0 rfl (lv_at hl 0 rfl) ?_
  refine va_get (D := g) (ci := 9) (v := .int a_marks) (C := R_UB) (T := F_UB) (N := 10) hx hb hg ul_UB hown hK hP 0 rfl rfl 8 (by decide) (hg _ wd_639) (fun _ h9 => h9) rfl d_UB_undo_1 ?_
  refine lv_if_ne hx hb d_UB_undo_4 rfl (fun h1 => ?_) (fun h1 => ?_)
  · rw [if_neg h1] at hok
    refine lv_aload_n hx hb d_UB_undo_15 rfl (lv_at hl 0 rfl) ?_
    refine va_get (D := g) (ci := 9) (v := .ref a_terms) (C := R_UB) (T := F_UB) (N := 10) hx hb hg ul_UB hown hK hP 0 rfl rfl 2 (by decide) (hg _ wd_640) (fun _ h9 => h9) rfl d_UB_undo_16 ?_
    refine lv_aload_n hx hb d_UB_undo_19 rfl (lv_at hl 0 rfl) ?_
    refine va_get (D := g) (ci := 9) (v := .ref a_marked) (C := R_UB) (T := F_UB) (N := 10) hx hb hg ul_UB hown hK hP 0 rfl rfl 7 (by decide) (hg _ wd_641) (fun _ h9 => h9) rfl d_UB_undo_20 ?_
    obtain ⟨⟨a_became_f_2, stack_size_2⟩, hc2, hok⟩ := bd_some hok
    dsimp only at hok
    obtain ⟨hPc, hDc, hFc⟩ := cut0 (wc := [(a_terms, .inr (7, [.ref a_terms_shapes, .ref a_terms_values, .ref a_terms_firstParts, .int a_terms_nodes, .ref a_terms_parts, .ref a_terms_variableNames, .ref a_terms_became, .int a_terms_variables, .int a_terms_variablesLack, .int a_terms_symbols, .int a_terms_nodesBefore, .int a_terms_partsBefore, .int a_terms_variablesBefore])), (a_terms_became, .inl (cs 0, a_terms_became_n, .inl a_terms_became_f)), (a_marked, .inr (1, [.ref a_marked_items, .int a_marked_size])), (a_marked_items, .inl (cs 0, a_marked_items_n, .inl a_marked_items_f))]) hP hD hS hA [1, 2, 4, 5] (by decide) rfl
    refine va_callv (va_runV (As := [.ref a_marked]) (rest := []) ⟨hx, hb, hml, hown, hg⟩ (c_Terms_popBindings l g cs ka a_terms_shapes a_terms_values a_terms_firstParts a_terms_parts a_terms_variableNames a_terms a_terms_became a_marked a_marked_items H.size n a_terms_nodes a_terms_variables a_terms_variablesLack a_terms_symbols a_terms_nodesBefore a_terms_partsBefore a_terms_variablesBefore a_terms_became_n a_terms_became_f a_marked_size a_marked_items_n a_marked_items_f a_became_f_2 stack_size_2 hc2) (cwV (C := R_Terms) 1 hg (gw_V wd_649 wd_650 wd_651 wd_264 wd_648) rfl rfl rfl (by decide +kernel) ⟨Nat.le_of_ble_eq_true rfl, Nat.le_of_ble_eq_true rfl⟩) ⟨gP_blind, va_recv (q0 := 1) (ci := 7) (q := (R_Terms, F_Terms, 13)) hK hP rfl rfl, gP_pre hPc hDc hK hgl hkn hkr hS hFc⟩ rfl rfl hl.1 rfl (lv_room (Nat.le_of_ble_eq_true rfl)) d_UB_undo_23 ⟨show 0 + 0 ≤ mc from by omega, show 0 + 0 ≤ ms from by omega⟩) hS (fun q _ h => hFc q h) hFc (fun u t H locs ht hvm hr2 hB hz1 hk1 hS => ?_)
    rw [ht] at hB
    obtain ⟨hP1, hD1⟩ := hB
    obtain ⟨hP, hD⟩ := jn_A hP hD [1, 2, 4, 5] [0, 3] rfl rfl (by decide) (by decide) hk1 hFc hP1 hD1
    obtain ⟨hP, hD⟩ : PD g A H [(a, .inr (9, [.ref a_tape, .ref a_names, .ref a_terms, .ref a_reader, .ref a_unifier, .ref a_printer, .ref a_registers, .ref a_marked, .int a_marks, .int a_place])), (a_registers, .inl (cs 0, a_registers_n, .inl a_registers_f)), (a_terms, .inr (7, [.ref a_terms_shapes, .ref a_terms_values, .ref a_terms_firstParts, .int a_terms_nodes, .ref a_terms_parts, .ref a_terms_variableNames, .ref a_terms_became, .int a_terms_variables, .int a_terms_variablesLack, .int a_terms_symbols, .int a_terms_nodesBefore, .int a_terms_partsBefore, .int a_terms_variablesBefore])), (a_terms_became, .inl (cs 0, a_terms_became_n, .inl a_became_f_2)), (a_marked, .inr (1, [.ref a_marked_items, .int stack_size_2])), (a_marked_items, .inl (cs 0, a_marked_items_n, .inl a_marked_items_f))] := ⟨hP, hD⟩
    refine lv_bipush (v := 7) hx hb d_UB_undo_26 (by decide) ?_
    refine lv_istore_n hx hb d_UB_undo_28 rfl hl (by decide) rfl (fun ls hl => ?_)
    have hl : lv_has ls 2 [(1, .int 7), (0, .ref a)] := hl
    have J3 : ∀ (kf3 : Nat) (H : Heap) (locs : List Loc) (ls : Array Slot) (cells3 slots3 mr3 sr3 : Nat) (x1_3 : Int32) (a_marked_size_3 : Int32) (a_registers_3f : Nat → Int32), lv_has ls 2 [(1, .int x1_3), (0, .ref a)] → PD g A H [(a, .inr (9, [.ref a_tape, .ref a_names, .ref a_terms, .ref a_reader, .ref a_unifier, .ref a_printer, .ref a_registers, .ref a_marked, .int a_marks, .int a_place])), (a_registers, .inl (cs 0, a_registers_n, .inl a_registers_3f)), (a_terms, .inr (7, [.ref a_terms_shapes, .ref a_terms_values, .ref a_terms_firstParts, .int a_terms_nodes, .ref a_terms_parts, .ref a_terms_variableNames, .ref a_terms_became, .int a_terms_variables, .int a_terms_variablesLack, .int a_terms_symbols, .int a_terms_nodesBefore, .int a_terms_partsBefore, .int a_terms_variablesBefore])), (a_terms_became, .inl (cs 0, a_terms_became_n, .inl a_became_f_2)), (a_marked, .inr (1, [.ref a_marked_items, .int a_marked_size_3])), (a_marked_items, .inl (cs 0, a_marked_items_n, .inl a_marked_items_f))] → va_S A s.heap H locs → cells3 + mr3 = mc → slots3 + sr3 = ms → p_UB_undo_29 n a_marks a_registers_n a_marked_items_n a_marked_items_f a_became_f_2 kf3 x1_3 a_marked_size_3 a_registers_3f = some ((xc, r, o_a_marks, o_a_terms_became_f, o_a_registers_f, o_a_marked_size), mr3, sr3) → W p l e (headSpec (.code y_UB_undo b_UB_undo 2 (some .int) :: GW) { frames := 6, cells := mc, slots := ms, locals := 90 }).room s m ([.ref a] : List Value).toArray below meth c H locs cells3 slots3 Q (F0 m 29 ls []) := by
      intro kf3
      induction kf3 with
      | zero => intro H locs ls cells3 slots3 mr3 sr3 x1_3 a_marked_size_3 a_registers_3f hl ⟨hP, hD⟩ hS hmr3 hsr3 hok; rw [p_UB_undo_29] at hok; cases hok
      | succ kf3 ih3 =>
        intro H locs ls cells3 slots3 mr3 sr3 x1_3 a_marked_size_3 a_registers_3f hl ⟨hP, hD⟩ hS hmr3 hsr3 hok
        rw [p_UB_undo_29] at hok
        refine lv_iload_n hx hb d_UB_undo_29 rfl (lv_at hl 0 rfl) ?_
        refine lv_if_lt hx hb d_UB_undo_30 rfl (fun h4 => ?_) (fun h4 => ?_)
        · rw [if_pos h4] at hok
          refine lv_aload_n hx hb d_UB_undo_52 rfl (lv_at hl 1 rfl) ?_
          refine lv_dup hx hb d_UB_undo_53 rfl ?_
          refine va_get (D := g) (ci := 9) (v := .int a_marks) (C := R_UB) (T := F_UB) (N := 10) hx hb hg ul_UB hown hK hP 0 rfl rfl 8 (by decide) (hg _ wd_639) (fun _ h9 => h9) rfl d_UB_undo_54 ?_
          refine lv_iconst (v := 1) hx hb d_UB_undo_57 (by decide) ?_
          refine lv_isub hx hb d_UB_undo_58 ?_
          refine va_put (D := g) (ci := 9) (v := .int (a_marks - 1)) (ty := .int) (C := R_UB) (T := F_UB) (N := 10) hx hb hg ul_UB t_UB tk_UB n_UB hown hK hP hD hS 0 rfl rfl 8 (by decide) (hg _ wd_639) (fun _ h9 => h9) rfl (by decide +kernel) rfl rfl (Nat.le_of_ble_eq_true rfl) d_UB_undo_59 (fun H locs hP hD hS => ?_)
          obtain ⟨hP, hD⟩ : PD g A H [(a, .inr (9, [.ref a_tape, .ref a_names, .ref a_terms, .ref a_reader, .ref a_unifier, .ref a_printer, .ref a_registers, .ref a_marked, .int (a_marks - 1), .int a_place])), (a_registers, .inl (cs 0, a_registers_n, .inl a_registers_3f)), (a_terms, .inr (7, [.ref a_terms_shapes, .ref a_terms_values, .ref a_terms_firstParts, .int a_terms_nodes, .ref a_terms_parts, .ref a_terms_variableNames, .ref a_terms_became, .int a_terms_variables, .int a_terms_variablesLack, .int a_terms_symbols, .int a_terms_nodesBefore, .int a_terms_partsBefore, .int a_terms_variablesBefore])), (a_terms_became, .inl (cs 0, a_terms_became_n, .inl a_became_f_2)), (a_marked, .inr (1, [.ref a_marked_items, .int a_marked_size_3])), (a_marked_items, .inl (cs 0, a_marked_items_n, .inl a_marked_items_f))] := ⟨hP, hD⟩
          refine lv_aload_n hx hb d_UB_undo_62 rfl (lv_at hl 1 rfl) ?_
          refine va_get (D := g) (ci := 9) (v := .int (a_marks - 1)) (C := R_UB) (T := F_UB) (N := 10) hx hb hg ul_UB hown hK hP 0 rfl rfl 8 (by decide) (hg _ wd_639) (fun _ h9 => h9) rfl d_UB_undo_63 ?_
          obtain ⟨hq, hw⟩ := Prod.mk.inj (Option.some.inj hok)
          obtain ⟨hmc0, hms0⟩ := Prod.mk.inj hw
          obtain ⟨hq0, hq⟩ := Prod.mk.inj hq
          obtain ⟨hq1, hq⟩ := Prod.mk.inj hq
          obtain ⟨hq2, hq⟩ := Prod.mk.inj hq
          obtain ⟨hq3, hq⟩ := Prod.mk.inj hq
          obtain ⟨hq4, hq⟩ := Prod.mk.inj hq
          have hq5 := hq
          subst hq0
          subst hq1
          subst hq2
          subst hq3
          subst hq4
          subst hq5
          obtain ⟨hP9, hD9⟩ := sub2 (ws' := [(a, .inr (9, [.ref a_tape, .ref a_names, .ref a_terms, .ref a_reader, .ref a_unifier, .ref a_printer, .ref a_registers, .ref a_marked, .int (a_marks - 1), .int a_place])), (a_terms, .inr (7, [.ref a_terms_shapes, .ref a_terms_values, .ref a_terms_firstParts, .int a_terms_nodes, .ref a_terms_parts, .ref a_terms_variableNames, .ref a_terms_became, .int a_terms_variables, .int a_terms_variablesLack, .int a_terms_symbols, .int a_terms_nodesBefore, .int a_terms_partsBefore, .int a_terms_variablesBefore])), (a_terms_became, .inl (cs 0, a_terms_became_n, .inl a_became_f_2)), (a_registers, .inl (cs 0, a_registers_n, .inl a_registers_3f)), (a_marked, .inr (1, [.ref a_marked_items, .int a_marked_size_3])), (a_marked_items, .inl (cs 0, a_marked_items_n, .inl a_marked_items_f))]) hP hD [0, 2, 3, 1, 4, 5] rfl (by decide) rfl
          refine W.widen (k := mc) (n := ms) (by omega) (by omega) ?_
          rw [hQ]
          exact tx_ret (W.iret (v := a_marks - 1) hx hb hr (fun t ht hW => ⟨⟨tx_O.r0, by rw [ht]; exact hP9, hD9⟩, hS.F ht⟩) hS.2.2 d_UB_undo_66)
        · rw [if_neg h4] at hok
          refine lv_aload_n hx hb d_UB_undo_33 rfl (lv_at hl 1 rfl) ?_
          refine va_get (D := g) (ci := 9) (v := .ref a_registers) (C := R_UB) (T := F_UB) (N := 10) hx hb hg ul_UB hown hK hP 0 rfl rfl 6 (by decide) (hg _ wd_646) (fun _ h9 => h9) rfl d_UB_undo_34 ?_
          refine lv_iload_n hx hb d_UB_undo_37 rfl (lv_at hl 0 rfl) ?_
          refine lv_aload_n hx hb d_UB_undo_38 rfl (lv_at hl 1 rfl) ?_
          refine va_get (D := g) (ci := 9) (v := .ref a_marked) (C := R_UB) (T := F_UB) (N := 10) hx hb hg ul_UB hown hK hP 0 rfl rfl 7 (by decide) (hg _ wd_641) (fun _ h9 => h9) rfl d_UB_undo_39 ?_
          obtain ⟨⟨r5, a_size_5⟩, hc5, hok⟩ := bd_some hok
          dsimp only at hok
          obtain ⟨hPc, hDc, hFc⟩ := cut0 (wc := [(a_marked, .inr (1, [.ref a_marked_items, .int a_marked_size_3])), (a_marked_items, .inl (cs 0, a_marked_items_n, .inl a_marked_items_f))]) hP hD hS hA [4, 5] (by decide) rfl
          refine va_calli (va_runV (As := []) (rest := [.int x1_3, .ref a_registers]) ⟨hx, hb, hml, hown, hg⟩ (c_Ints_pop l g cs ka a_marked a_marked_items H.size a_marked_size_3 a_marked_items_n a_marked_items_f r5 a_size_5 hc5) (cwV (C := R_Ints) 0 hg (gw_V wd_652 wd_279 wd_280 wd_234 wd_277) rfl rfl rfl (by decide +kernel) ⟨Nat.le_of_ble_eq_true rfl, Nat.le_of_ble_eq_true rfl⟩) ⟨gP_blind, va_recv (q0 := 4) (ci := 1) (q := (R_Ints, F_Ints, 2)) hK hP rfl rfl, gP_pre hPc hDc hK hgl hkn hkr hS hFc⟩ rfl rfl hl.1 rfl (lv_room (Nat.le_of_ble_eq_true rfl)) d_UB_undo_42 ⟨show cells3 + 0 ≤ mc from by omega, show slots3 + 0 ≤ ms from by omega⟩) hS (fun q _ h => hFc q h) hFc (fun r5' u t H locs ht hvm hr5 hB hz1 hk1 hS => ?_)
          subst hr5
          rw [ht] at hB
          obtain ⟨hP1, hD1⟩ := hB
          obtain ⟨hP, hD⟩ := jn_A hP hD [4, 5] [0, 1, 2, 3] rfl rfl (by decide) (by decide) hk1 hFc hP1 hD1
          obtain ⟨hP, hD⟩ : PD g A H [(a, .inr (9, [.ref a_tape, .ref a_names, .ref a_terms, .ref a_reader, .ref a_unifier, .ref a_printer, .ref a_registers, .ref a_marked, .int a_marks, .int a_place])), (a_registers, .inl (cs 0, a_registers_n, .inl a_registers_3f)), (a_terms, .inr (7, [.ref a_terms_shapes, .ref a_terms_values, .ref a_terms_firstParts, .int a_terms_nodes, .ref a_terms_parts, .ref a_terms_variableNames, .ref a_terms_became, .int a_terms_variables, .int a_terms_variablesLack, .int a_terms_symbols, .int a_terms_nodesBefore, .int a_terms_partsBefore, .int a_terms_variablesBefore])), (a_terms_became, .inl (cs 0, a_terms_became_n, .inl a_became_f_2)), (a_marked, .inr (1, [.ref a_marked_items, .int a_size_5])), (a_marked_items, .inl (cs 0, a_marked_items_n, .inl a_marked_items_f))] := ⟨hP, hD⟩
          obtain ⟨hi6, hok⟩ := ck_some hok
          refine va_iast hx hb hK hP hD hS 1 0 rfl rfl (ixb_in hi6) d_UB_undo_45 (fun H locs hP hD hS => ?_)
          obtain ⟨hP, hD⟩ : PD g A H [(a, .inr (9, [.ref a_tape, .ref a_names, .ref a_terms, .ref a_reader, .ref a_unifier, .ref a_printer, .ref a_registers, .ref a_marked, .int a_marks, .int a_place])), (a_registers, .inl (cs 0, a_registers_n, .inl (upd a_registers_3f x1_3.toNatClampNeg r5))), (a_terms, .inr (7, [.ref a_terms_shapes, .ref a_terms_values, .ref a_terms_firstParts, .int a_terms_nodes, .ref a_terms_parts, .ref a_terms_variableNames, .ref a_terms_became, .int a_terms_variables, .int a_terms_variablesLack, .int a_terms_symbols, .int a_terms_nodesBefore, .int a_terms_partsBefore, .int a_terms_variablesBefore])), (a_terms_became, .inl (cs 0, a_terms_became_n, .inl a_became_f_2)), (a_marked, .inr (1, [.ref a_marked_items, .int a_size_5])), (a_marked_items, .inl (cs 0, a_marked_items_n, .inl a_marked_items_f))] := ⟨hP, hD⟩
          refine lv_iinc (k := 0) (v := x1_3 + (-1)) hx hb d_UB_undo_46 hl rfl rfl (by decide) rfl (fun ls hl => ?_)
          have hl : lv_has ls 2 [(1, .int (x1_3 + (-1))), (0, .ref a)] := hl
          refine lv_goto hx hb d_UB_undo_49 rfl ?_
          exact ih3 _ _ _ _ _ _ _ (x1_3 + (-1)) a_size_5 (upd a_registers_3f x1_3.toNatClampNeg r5) (lv_sub hl [0, 1] rfl) (sub3 hP hD [0, 1, 2, 3, 4, 5] (by decide)) hS (by omega) (by omega) hok
    exact J3 n H locs ls _ _ _ _ (7 : Int32) stack_size_2 a_registers_f hl ⟨hP, hD⟩ hS (by omega) (by omega) hok
  · rw [if_pos h1] at hok
    obtain ⟨m8, s8, hok, hmc8, hms8⟩ := al_some hok
    obtain ⟨hq, hw⟩ := Prod.mk.inj (Option.some.inj hok)
    obtain ⟨hmc0, hms0⟩ := Prod.mk.inj hw
    obtain ⟨hq0, hq⟩ := Prod.mk.inj hq
    obtain ⟨hq1, hq⟩ := Prod.mk.inj hq
    obtain ⟨hq2, hq⟩ := Prod.mk.inj hq
    obtain ⟨hq3, hq⟩ := Prod.mk.inj hq
    obtain ⟨hq4, hq⟩ := Prod.mk.inj hq
    have hq5 := hq
    subst hq0
    subst hq1
    subst hq2
    subst hq3
    subst hq4
    subst hq5
    have hD9 := hD.sub (ws' := [(a, .inr (9, [.ref a_tape, .ref a_names, .ref a_terms, .ref a_reader, .ref a_unifier, .ref a_printer, .ref a_registers, .ref a_marked, .int a_marks, .int a_place])), (a_terms, .inr (7, [.ref a_terms_shapes, .ref a_terms_values, .ref a_terms_firstParts, .int a_terms_nodes, .ref a_terms_parts, .ref a_terms_variableNames, .ref a_terms_became, .int a_terms_variables, .int a_terms_variablesLack, .int a_terms_symbols, .int a_terms_nodesBefore, .int a_terms_partsBefore, .int a_terms_variablesBefore])), (a_terms_became, .inl (cs 0, a_terms_became_n, .inl a_terms_became_f)), (a_registers, .inl (cs 0, a_registers_n, .inl a_registers_f)), (a_marked, .inr (1, [.ref a_marked_items, .int a_marked_size])), (a_marked_items, .inl (cs 0, a_marked_items_n, .inl a_marked_items_f))]) [0, 1, 2, 3, 4, 5] (by decide) rfl
    rw [hQ]
    refine tx_wid (k := 0 + 1) (n := 0 + 6) (by omega) (by omega) ?_
    exact tx_throw (X := "java/util/NoSuchElementException") hx hb (hml.trans hl.1.symm) hfl hlocks hown (by decide) (hg _ wd_653) (hg _ wd_654) (tx_before tx_at_UB_144 hg hgl hkn) hkn hP hS hA (tx_noH B hcd 14) (show 0 + 1 ≤ mc from by omega) (show 0 + 6 ≤ ms from by omega) (Nat.le_of_ble_eq_true rfl) (Nat.le_of_ble_eq_true rfl) d_UB_undo_7 d_UB_undo_10 d_UB_undo_11 d_UB_undo_14 (fun t x hPt hSt hW hX => ⟨⟨tx_O.t0 (by decide) hX, hPt.sub (ws' := [(a, .inr (9, [.ref a_tape, .ref a_names, .ref a_terms, .ref a_reader, .ref a_unifier, .ref a_printer, .ref a_registers, .ref a_marked, .int a_marks, .int a_place])), (a_terms, .inr (7, [.ref a_terms_shapes, .ref a_terms_values, .ref a_terms_firstParts, .int a_terms_nodes, .ref a_terms_parts, .ref a_terms_variableNames, .ref a_terms_became, .int a_terms_variables, .int a_terms_variablesLack, .int a_terms_symbols, .int a_terms_nodesBefore, .int a_terms_partsBefore, .int a_terms_variablesBefore])), (a_terms_became, .inl (cs 0, a_terms_became_n, .inl a_terms_became_f)), (a_registers, .inl (cs 0, a_registers_n, .inl a_registers_f)), (a_marked, .inr (1, [.ref a_marked_items, .int a_marked_size])), (a_marked_items, .inl (cs 0, a_marked_items_n, .inl a_marked_items_f))]) [0, 1, 2, 3, 4, 5] rfl, hD9⟩, hSt.F rfl⟩) hS.2.2

theorem d_UB_unify_0 : decode b_UB_unify 0 = .ok (.iload_n 1, 1) := by decide +kernel
theorem d_UB_unify_1 : decode b_UB_unify 1 = .ok (.invokestatic 103, 3) := by decide +kernel
theorem d_UB_unify_4 : decode b_UB_unify 4 = .ok (.iload_n 2, 1) := by decide +kernel
theorem d_UB_unify_5 : decode b_UB_unify 5 = .ok (.invokestatic 103, 3) := by decide +kernel
theorem d_UB_unify_8 : decode b_UB_unify 8 = .ok (.aload_n 0, 1) := by decide +kernel
theorem d_UB_unify_9 : decode b_UB_unify 9 = .ok (.getfield 49, 3) := by decide +kernel
theorem d_UB_unify_12 : decode b_UB_unify 12 = .ok (.aload_n 0, 1) := by decide +kernel
theorem d_UB_unify_13 : decode b_UB_unify 13 = .ok (.getfield 62, 3) := by decide +kernel
theorem d_UB_unify_16 : decode b_UB_unify 16 = .ok (.iload_n 1, 1) := by decide +kernel
theorem d_UB_unify_17 : decode b_UB_unify 17 = .ok (.iaload, 1) := by decide +kernel
theorem d_UB_unify_18 : decode b_UB_unify 18 = .ok (.aload_n 0, 1) := by decide +kernel
theorem d_UB_unify_19 : decode b_UB_unify 19 = .ok (.getfield 62, 3) := by decide +kernel
theorem d_UB_unify_22 : decode b_UB_unify 22 = .ok (.iload_n 2, 1) := by decide +kernel
theorem d_UB_unify_23 : decode b_UB_unify 23 = .ok (.iaload, 1) := by decide +kernel
theorem d_UB_unify_24 : decode b_UB_unify 24 = .ok (.invokevirtual 128, 3) := by decide +kernel
theorem d_UB_unify_27 : decode b_UB_unify 27 = .ok (.ireturn, 1) := by decide +kernel
def p_UB_unify (n : Nat) (x : Int32) (y : Int32) (a_marks : Int32) (a_place : Int32) (a_terms_nodes : Int32) (a_terms_variables : Int32) (a_terms_variablesLack : Int32) (a_terms_symbols : Int32) (a_terms_nodesBefore : Int32) (a_terms_partsBefore : Int32) (a_terms_variablesBefore : Int32) (a_terms_shapes_n : Nat) (a_terms_shapes_f : Nat → Int32) (a_terms_values_n : Nat) (a_terms_values_f : Nat → Int64) (a_terms_firstParts_n : Nat) (a_terms_firstParts_f : Nat → Int32) (a_terms_parts_size : Int32) (a_terms_parts_items_n : Nat) (a_terms_parts_items_f : Nat → Int32) (a_terms_became_n : Nat) (a_terms_became_f : Nat → Int32) (a_unifier_links_n : Nat) (a_unifier_links_f : Nat → Int32) (a_unifier_states_n : Nat) (a_unifier_states_f : Nat → Int32) (a_unifier_pairs_size : Int32) (a_unifier_pairs_items_n : Nat) (a_unifier_pairs_items_f : Nat → Int32) (a_unifier_joined_size : Int32) (a_unifier_joined_items_n : Nat) (a_unifier_joined_items_f : Nat → Int32) (a_unifier_seen_size : Int32) (a_unifier_seen_items_n : Nat) (a_unifier_seen_items_f : Nat → Int32) (a_unifier_path_size : Int32) (a_unifier_path_items_n : Nat) (a_unifier_path_items_f : Nat → Int32) (a_registers_n : Nat) (a_registers_f : Nat → Int32) : Option ((Nat × Int32 × (Nat → Int32) × Nat × (Nat → Int32) × Nat × (Nat → Int32) × Int32 × Nat × (Nat → Int32) × Int32 × Nat × (Nat → Int32) × Int32 × Nat × (Nat → Int32) × Int32 × Nat × (Nat → Int32)) × Nat × Nat) := (p_UB_checkRegister x).bind (fun (xc1, mk1, sk1) => al mk1 sk1 (if xc1 = 0 then ((p_UB_checkRegister y).bind (fun (xc2, mk2, sk2) => al mk2 sk2 (if xc2 = 0 then (ck (ixb x a_registers_n) (ck (ixb y a_registers_n) ((p_Unifier_makeSame n (a_registers_f x.toNatClampNeg) (a_registers_f y.toNatClampNeg) a_terms_nodes a_terms_variables a_terms_variablesLack a_terms_symbols a_terms_nodesBefore a_terms_partsBefore a_terms_variablesBefore a_terms_shapes_n a_terms_shapes_f a_terms_values_n a_terms_values_f a_terms_firstParts_n a_terms_firstParts_f a_terms_parts_size a_terms_parts_items_n a_terms_parts_items_f a_terms_became_n a_terms_became_f a_unifier_links_n a_unifier_links_f a_unifier_states_n a_unifier_states_f a_unifier_pairs_size a_unifier_pairs_items_n a_unifier_pairs_items_f a_unifier_joined_size a_unifier_joined_items_n a_unifier_joined_items_f a_unifier_seen_size a_unifier_seen_items_n a_unifier_seen_items_f a_unifier_path_size a_unifier_path_items_n a_unifier_path_items_f).bind (fun ((r5, a_terms_became_f_5, a_links_n_5, a_links_f_5, a_states_n_5, a_states_f_5, a_pairs_size_5, a_pairs_items_n_5, a_pairs_items_f_5, a_joined_size_5, a_joined_items_n_5, a_joined_items_f_5, a_seen_size_5, a_seen_items_n_5, a_seen_items_f_5, a_path_size_5, a_path_items_n_5, a_path_items_f_5), mk5, sk5) => al mk5 sk5 (ck (zab r5) (some ((0, r5, a_terms_became_f_5, a_links_n_5, a_links_f_5, a_states_n_5, a_states_f_5, a_pairs_size_5, a_pairs_items_n_5, a_pairs_items_f_5, a_joined_size_5, a_joined_items_n_5, a_joined_items_f_5, a_seen_size_5, a_seen_items_n_5, a_seen_items_f_5, a_path_size_5, a_path_items_n_5, a_path_items_f_5), 0, 0))))))) else (some ((xc2, (0 : Int32), a_terms_became_f, a_unifier_links_n, a_unifier_links_f, a_unifier_states_n, a_unifier_states_f, a_unifier_pairs_size, a_unifier_pairs_items_n, a_unifier_pairs_items_f, a_unifier_joined_size, a_unifier_joined_items_n, a_unifier_joined_items_f, a_unifier_seen_size, a_unifier_seen_items_n, a_unifier_seen_items_f, a_unifier_path_size, a_unifier_path_items_n, a_unifier_path_items_f), 0, 0))))) else (some ((xc1, (0 : Int32), a_terms_became_f, a_unifier_links_n, a_unifier_links_f, a_unifier_states_n, a_unifier_states_f, a_unifier_pairs_size, a_unifier_pairs_items_n, a_unifier_pairs_items_f, a_unifier_joined_size, a_unifier_joined_items_n, a_unifier_joined_items_f, a_unifier_seen_size, a_unifier_seen_items_n, a_unifier_seen_items_f, a_unifier_path_size, a_unifier_path_items_n, a_unifier_path_items_f), 0, 0))))
set_option maxHeartbeats 4000000 in
set_option maxRecDepth 100000 in
theorem c_UB_unify (l : Launch) (g : va_G) (cs : Nat → ClassId) (ka : Nat → Nat) (hfl : l.flags = pinnedFlags ++ [noTraceFlag]) (a_tape : Nat) (a_names : Nat) (a_reader : Nat) (a_printer : Nat) (a_marked : Nat) (a_terms_variableNames : Nat) (a a_terms a_terms_shapes a_terms_values a_terms_firstParts a_terms_parts a_terms_parts_items a_terms_became a_unifier a_unifier_links a_unifier_states a_unifier_pairs a_unifier_pairs_items a_unifier_joined a_unifier_joined_items a_unifier_seen a_unifier_seen_items a_unifier_path a_unifier_path_items a_registers : Nat) (sz : Nat) (n : Nat) (x : Int32) (y : Int32) (a_marks : Int32) (a_place : Int32) (a_terms_nodes : Int32) (a_terms_variables : Int32) (a_terms_variablesLack : Int32) (a_terms_symbols : Int32) (a_terms_nodesBefore : Int32) (a_terms_partsBefore : Int32) (a_terms_variablesBefore : Int32) (a_terms_shapes_n : Nat) (a_terms_shapes_f : Nat → Int32) (a_terms_values_n : Nat) (a_terms_values_f : Nat → Int64) (a_terms_firstParts_n : Nat) (a_terms_firstParts_f : Nat → Int32) (a_terms_parts_size : Int32) (a_terms_parts_items_n : Nat) (a_terms_parts_items_f : Nat → Int32) (a_terms_became_n : Nat) (a_terms_became_f : Nat → Int32) (a_unifier_links_n : Nat) (a_unifier_links_f : Nat → Int32) (a_unifier_states_n : Nat) (a_unifier_states_f : Nat → Int32) (a_unifier_pairs_size : Int32) (a_unifier_pairs_items_n : Nat) (a_unifier_pairs_items_f : Nat → Int32) (a_unifier_joined_size : Int32) (a_unifier_joined_items_n : Nat) (a_unifier_joined_items_f : Nat → Int32) (a_unifier_seen_size : Int32) (a_unifier_seen_items_n : Nat) (a_unifier_seen_items_f : Nat → Int32) (a_unifier_path_size : Int32) (a_unifier_path_items_n : Nat) (a_unifier_path_items_f : Nat → Int32) (a_registers_n : Nat) (a_registers_f : Nat → Int32) (xc : Nat) (r : Int32) (o_a_terms_became_f : Nat → Int32) (o_a_unifier_links_n : Nat) (o_a_unifier_links_f : Nat → Int32) (o_a_unifier_states_n : Nat) (o_a_unifier_states_f : Nat → Int32) (o_a_unifier_pairs_size : Int32) (o_a_unifier_pairs_items_n : Nat) (o_a_unifier_pairs_items_f : Nat → Int32) (o_a_unifier_joined_size : Int32) (o_a_unifier_joined_items_n : Nat) (o_a_unifier_joined_items_f : Nat → Int32) (o_a_unifier_seen_size : Int32) (o_a_unifier_seen_items_n : Nat) (o_a_unifier_seen_items_f : Nat → Int32) (o_a_unifier_path_size : Int32) (o_a_unifier_path_items_n : Nat) (o_a_unifier_path_items_f : Nat → Int32) (mc ms : Nat) (hok : p_UB_unify n x y a_marks a_place a_terms_nodes a_terms_variables a_terms_variablesLack a_terms_symbols a_terms_nodesBefore a_terms_partsBefore a_terms_variablesBefore a_terms_shapes_n a_terms_shapes_f a_terms_values_n a_terms_values_f a_terms_firstParts_n a_terms_firstParts_f a_terms_parts_size a_terms_parts_items_n a_terms_parts_items_f a_terms_became_n a_terms_became_f a_unifier_links_n a_unifier_links_f a_unifier_states_n a_unifier_states_f a_unifier_pairs_size a_unifier_pairs_items_n a_unifier_pairs_items_f a_unifier_joined_size a_unifier_joined_items_n a_unifier_joined_items_f a_unifier_seen_size a_unifier_seen_items_n a_unifier_seen_items_f a_unifier_path_size a_unifier_path_items_n a_unifier_path_items_f a_registers_n a_registers_f = some ((xc, r, o_a_terms_became_f, o_a_unifier_links_n, o_a_unifier_links_f, o_a_unifier_states_n, o_a_unifier_states_f, o_a_unifier_pairs_size, o_a_unifier_pairs_items_n, o_a_unifier_pairs_items_f, o_a_unifier_joined_size, o_a_unifier_joined_items_n, o_a_unifier_joined_items_f, o_a_unifier_seen_size, o_a_unifier_seen_items_n, o_a_unifier_seen_items_f, o_a_unifier_path_size, o_a_unifier_path_items_n, o_a_unifier_path_items_f), mc, ms)) : tx_Met l y_UB_unify (.code y_UB_unify b_UB_unify 3 (some .boolean) :: GW) { frames := 7, cells := mc, slots := ms, locals := 238 } (va_Pc [.ref a, .int x, .int y] (gP g cs ka [(a, .inr (9, [.ref a_tape, .ref a_names, .ref a_terms, .ref a_reader, .ref a_unifier, .ref a_printer, .ref a_registers, .ref a_marked, .int a_marks, .int a_place])), (a_terms, .inr (7, [.ref a_terms_shapes, .ref a_terms_values, .ref a_terms_firstParts, .int a_terms_nodes, .ref a_terms_parts, .ref a_terms_variableNames, .ref a_terms_became, .int a_terms_variables, .int a_terms_variablesLack, .int a_terms_symbols, .int a_terms_nodesBefore, .int a_terms_partsBefore, .int a_terms_variablesBefore])), (a_terms_shapes, .inl (cs 0, a_terms_shapes_n, .inl a_terms_shapes_f)), (a_terms_values, .inl (cs 2, a_terms_values_n, .inr (.inl a_terms_values_f))), (a_terms_firstParts, .inl (cs 0, a_terms_firstParts_n, .inl a_terms_firstParts_f)), (a_terms_parts, .inr (1, [.ref a_terms_parts_items, .int a_terms_parts_size])), (a_terms_parts_items, .inl (cs 0, a_terms_parts_items_n, .inl a_terms_parts_items_f)), (a_terms_became, .inl (cs 0, a_terms_became_n, .inl a_terms_became_f)), (a_unifier, .inr (8, [.ref a_terms, .ref a_unifier_links, .ref a_unifier_states, .ref a_unifier_pairs, .ref a_unifier_joined, .ref a_unifier_seen, .ref a_unifier_path])), (a_unifier_links, .inl (cs 0, a_unifier_links_n, .inl a_unifier_links_f)), (a_unifier_states, .inl (cs 0, a_unifier_states_n, .inl a_unifier_states_f)), (a_unifier_pairs, .inr (1, [.ref a_unifier_pairs_items, .int a_unifier_pairs_size])), (a_unifier_pairs_items, .inl (cs 0, a_unifier_pairs_items_n, .inl a_unifier_pairs_items_f)), (a_unifier_joined, .inr (1, [.ref a_unifier_joined_items, .int a_unifier_joined_size])), (a_unifier_joined_items, .inl (cs 0, a_unifier_joined_items_n, .inl a_unifier_joined_items_f)), (a_unifier_seen, .inr (1, [.ref a_unifier_seen_items, .int a_unifier_seen_size])), (a_unifier_seen_items, .inl (cs 0, a_unifier_seen_items_n, .inl a_unifier_seen_items_f)), (a_unifier_path, .inr (1, [.ref a_unifier_path_items, .int a_unifier_path_size])), (a_unifier_path_items, .inl (cs 0, a_unifier_path_items_n, .inl a_unifier_path_items_f)), (a_registers, .inl (cs 0, a_registers_n, .inl a_registers_f))] sz)) (fun _ st oc t => (tx_O xc (some (.int r)) oc t ∧ ∃ b_a_unifier_links b_a_unifier_states b_a_unifier_pairs_items b_a_unifier_joined_items b_a_unifier_seen_items b_a_unifier_path_items : Nat, va_P g classes [(a, .inr (9, [.ref a_tape, .ref a_names, .ref a_terms, .ref a_reader, .ref a_unifier, .ref a_printer, .ref a_registers, .ref a_marked, .int a_marks, .int a_place])), (a_terms, .inr (7, [.ref a_terms_shapes, .ref a_terms_values, .ref a_terms_firstParts, .int a_terms_nodes, .ref a_terms_parts, .ref a_terms_variableNames, .ref a_terms_became, .int a_terms_variables, .int a_terms_variablesLack, .int a_terms_symbols, .int a_terms_nodesBefore, .int a_terms_partsBefore, .int a_terms_variablesBefore])), (a_terms_shapes, .inl (cs 0, a_terms_shapes_n, .inl a_terms_shapes_f)), (a_terms_values, .inl (cs 2, a_terms_values_n, .inr (.inl a_terms_values_f))), (a_terms_firstParts, .inl (cs 0, a_terms_firstParts_n, .inl a_terms_firstParts_f)), (a_terms_parts, .inr (1, [.ref a_terms_parts_items, .int a_terms_parts_size])), (a_terms_parts_items, .inl (cs 0, a_terms_parts_items_n, .inl a_terms_parts_items_f)), (a_terms_became, .inl (cs 0, a_terms_became_n, .inl o_a_terms_became_f)), (a_unifier, .inr (8, [.ref a_terms, .ref b_a_unifier_links, .ref b_a_unifier_states, .ref a_unifier_pairs, .ref a_unifier_joined, .ref a_unifier_seen, .ref a_unifier_path])), (b_a_unifier_links, .inl (cs 0, o_a_unifier_links_n, .inl o_a_unifier_links_f)), (b_a_unifier_states, .inl (cs 0, o_a_unifier_states_n, .inl o_a_unifier_states_f)), (a_unifier_pairs, .inr (1, [.ref b_a_unifier_pairs_items, .int o_a_unifier_pairs_size])), (b_a_unifier_pairs_items, .inl (cs 0, o_a_unifier_pairs_items_n, .inl o_a_unifier_pairs_items_f)), (a_unifier_joined, .inr (1, [.ref b_a_unifier_joined_items, .int o_a_unifier_joined_size])), (b_a_unifier_joined_items, .inl (cs 0, o_a_unifier_joined_items_n, .inl o_a_unifier_joined_items_f)), (a_unifier_seen, .inr (1, [.ref b_a_unifier_seen_items, .int o_a_unifier_seen_size])), (b_a_unifier_seen_items, .inl (cs 0, o_a_unifier_seen_items_n, .inl o_a_unifier_seen_items_f)), (a_unifier_path, .inr (1, [.ref b_a_unifier_path_items, .int o_a_unifier_path_size])), (b_a_unifier_path_items, .inl (cs 0, o_a_unifier_path_items_n, .inl o_a_unifier_path_items_f)), (a_registers, .inl (cs 0, a_registers_n, .inl a_registers_f))] t.heap ∧ va_D (va_A [(a, .inr (9, [.ref a_tape, .ref a_names, .ref a_terms, .ref a_reader, .ref a_unifier, .ref a_printer, .ref a_registers, .ref a_marked, .int a_marks, .int a_place])), (a_terms, .inr (7, [.ref a_terms_shapes, .ref a_terms_values, .ref a_terms_firstParts, .int a_terms_nodes, .ref a_terms_parts, .ref a_terms_variableNames, .ref a_terms_became, .int a_terms_variables, .int a_terms_variablesLack, .int a_terms_symbols, .int a_terms_nodesBefore, .int a_terms_partsBefore, .int a_terms_variablesBefore])), (a_terms_shapes, .inl (cs 0, a_terms_shapes_n, .inl a_terms_shapes_f)), (a_terms_values, .inl (cs 2, a_terms_values_n, .inr (.inl a_terms_values_f))), (a_terms_firstParts, .inl (cs 0, a_terms_firstParts_n, .inl a_terms_firstParts_f)), (a_terms_parts, .inr (1, [.ref a_terms_parts_items, .int a_terms_parts_size])), (a_terms_parts_items, .inl (cs 0, a_terms_parts_items_n, .inl a_terms_parts_items_f)), (a_terms_became, .inl (cs 0, a_terms_became_n, .inl a_terms_became_f)), (a_unifier, .inr (8, [.ref a_terms, .ref a_unifier_links, .ref a_unifier_states, .ref a_unifier_pairs, .ref a_unifier_joined, .ref a_unifier_seen, .ref a_unifier_path])), (a_unifier_links, .inl (cs 0, a_unifier_links_n, .inl a_unifier_links_f)), (a_unifier_states, .inl (cs 0, a_unifier_states_n, .inl a_unifier_states_f)), (a_unifier_pairs, .inr (1, [.ref a_unifier_pairs_items, .int a_unifier_pairs_size])), (a_unifier_pairs_items, .inl (cs 0, a_unifier_pairs_items_n, .inl a_unifier_pairs_items_f)), (a_unifier_joined, .inr (1, [.ref a_unifier_joined_items, .int a_unifier_joined_size])), (a_unifier_joined_items, .inl (cs 0, a_unifier_joined_items_n, .inl a_unifier_joined_items_f)), (a_unifier_seen, .inr (1, [.ref a_unifier_seen_items, .int a_unifier_seen_size])), (a_unifier_seen_items, .inl (cs 0, a_unifier_seen_items_n, .inl a_unifier_seen_items_f)), (a_unifier_path, .inr (1, [.ref a_unifier_path_items, .int a_unifier_path_size])), (a_unifier_path_items, .inl (cs 0, a_unifier_path_items_n, .inl a_unifier_path_items_f)), (a_registers, .inl (cs 0, a_registers_n, .inl a_registers_f))] sz) [(a, .inr (9, [.ref a_tape, .ref a_names, .ref a_terms, .ref a_reader, .ref a_unifier, .ref a_printer, .ref a_registers, .ref a_marked, .int a_marks, .int a_place])), (a_terms, .inr (7, [.ref a_terms_shapes, .ref a_terms_values, .ref a_terms_firstParts, .int a_terms_nodes, .ref a_terms_parts, .ref a_terms_variableNames, .ref a_terms_became, .int a_terms_variables, .int a_terms_variablesLack, .int a_terms_symbols, .int a_terms_nodesBefore, .int a_terms_partsBefore, .int a_terms_variablesBefore])), (a_terms_shapes, .inl (cs 0, a_terms_shapes_n, .inl a_terms_shapes_f)), (a_terms_values, .inl (cs 2, a_terms_values_n, .inr (.inl a_terms_values_f))), (a_terms_firstParts, .inl (cs 0, a_terms_firstParts_n, .inl a_terms_firstParts_f)), (a_terms_parts, .inr (1, [.ref a_terms_parts_items, .int a_terms_parts_size])), (a_terms_parts_items, .inl (cs 0, a_terms_parts_items_n, .inl a_terms_parts_items_f)), (a_terms_became, .inl (cs 0, a_terms_became_n, .inl o_a_terms_became_f)), (a_unifier, .inr (8, [.ref a_terms, .ref b_a_unifier_links, .ref b_a_unifier_states, .ref a_unifier_pairs, .ref a_unifier_joined, .ref a_unifier_seen, .ref a_unifier_path])), (b_a_unifier_links, .inl (cs 0, o_a_unifier_links_n, .inl o_a_unifier_links_f)), (b_a_unifier_states, .inl (cs 0, o_a_unifier_states_n, .inl o_a_unifier_states_f)), (a_unifier_pairs, .inr (1, [.ref b_a_unifier_pairs_items, .int o_a_unifier_pairs_size])), (b_a_unifier_pairs_items, .inl (cs 0, o_a_unifier_pairs_items_n, .inl o_a_unifier_pairs_items_f)), (a_unifier_joined, .inr (1, [.ref b_a_unifier_joined_items, .int o_a_unifier_joined_size])), (b_a_unifier_joined_items, .inl (cs 0, o_a_unifier_joined_items_n, .inl o_a_unifier_joined_items_f)), (a_unifier_seen, .inr (1, [.ref b_a_unifier_seen_items, .int o_a_unifier_seen_size])), (b_a_unifier_seen_items, .inl (cs 0, o_a_unifier_seen_items_n, .inl o_a_unifier_seen_items_f)), (a_unifier_path, .inr (1, [.ref b_a_unifier_path_items, .int o_a_unifier_path_size])), (b_a_unifier_path_items, .inl (cs 0, o_a_unifier_path_items_n, .inl o_a_unifier_path_items_f)), (a_registers, .inl (cs 0, a_registers_n, .inl a_registers_f))]) ∧ va_F (va_A [(a, .inr (9, [.ref a_tape, .ref a_names, .ref a_terms, .ref a_reader, .ref a_unifier, .ref a_printer, .ref a_registers, .ref a_marked, .int a_marks, .int a_place])), (a_terms, .inr (7, [.ref a_terms_shapes, .ref a_terms_values, .ref a_terms_firstParts, .int a_terms_nodes, .ref a_terms_parts, .ref a_terms_variableNames, .ref a_terms_became, .int a_terms_variables, .int a_terms_variablesLack, .int a_terms_symbols, .int a_terms_nodesBefore, .int a_terms_partsBefore, .int a_terms_variablesBefore])), (a_terms_shapes, .inl (cs 0, a_terms_shapes_n, .inl a_terms_shapes_f)), (a_terms_values, .inl (cs 2, a_terms_values_n, .inr (.inl a_terms_values_f))), (a_terms_firstParts, .inl (cs 0, a_terms_firstParts_n, .inl a_terms_firstParts_f)), (a_terms_parts, .inr (1, [.ref a_terms_parts_items, .int a_terms_parts_size])), (a_terms_parts_items, .inl (cs 0, a_terms_parts_items_n, .inl a_terms_parts_items_f)), (a_terms_became, .inl (cs 0, a_terms_became_n, .inl a_terms_became_f)), (a_unifier, .inr (8, [.ref a_terms, .ref a_unifier_links, .ref a_unifier_states, .ref a_unifier_pairs, .ref a_unifier_joined, .ref a_unifier_seen, .ref a_unifier_path])), (a_unifier_links, .inl (cs 0, a_unifier_links_n, .inl a_unifier_links_f)), (a_unifier_states, .inl (cs 0, a_unifier_states_n, .inl a_unifier_states_f)), (a_unifier_pairs, .inr (1, [.ref a_unifier_pairs_items, .int a_unifier_pairs_size])), (a_unifier_pairs_items, .inl (cs 0, a_unifier_pairs_items_n, .inl a_unifier_pairs_items_f)), (a_unifier_joined, .inr (1, [.ref a_unifier_joined_items, .int a_unifier_joined_size])), (a_unifier_joined_items, .inl (cs 0, a_unifier_joined_items_n, .inl a_unifier_joined_items_f)), (a_unifier_seen, .inr (1, [.ref a_unifier_seen_items, .int a_unifier_seen_size])), (a_unifier_seen_items, .inl (cs 0, a_unifier_seen_items_n, .inl a_unifier_seen_items_f)), (a_unifier_path, .inr (1, [.ref a_unifier_path_items, .int a_unifier_path_size])), (a_unifier_path_items, .inl (cs 0, a_unifier_path_items_n, .inl a_unifier_path_items_f)), (a_registers, .inl (cs 0, a_registers_n, .inl a_registers_f))] sz) st t) mc ms (va_A [(a, .inr (9, [.ref a_tape, .ref a_names, .ref a_terms, .ref a_reader, .ref a_unifier, .ref a_printer, .ref a_registers, .ref a_marked, .int a_marks, .int a_place])), (a_terms, .inr (7, [.ref a_terms_shapes, .ref a_terms_values, .ref a_terms_firstParts, .int a_terms_nodes, .ref a_terms_parts, .ref a_terms_variableNames, .ref a_terms_became, .int a_terms_variables, .int a_terms_variablesLack, .int a_terms_symbols, .int a_terms_nodesBefore, .int a_terms_partsBefore, .int a_terms_variablesBefore])), (a_terms_shapes, .inl (cs 0, a_terms_shapes_n, .inl a_terms_shapes_f)), (a_terms_values, .inl (cs 2, a_terms_values_n, .inr (.inl a_terms_values_f))), (a_terms_firstParts, .inl (cs 0, a_terms_firstParts_n, .inl a_terms_firstParts_f)), (a_terms_parts, .inr (1, [.ref a_terms_parts_items, .int a_terms_parts_size])), (a_terms_parts_items, .inl (cs 0, a_terms_parts_items_n, .inl a_terms_parts_items_f)), (a_terms_became, .inl (cs 0, a_terms_became_n, .inl a_terms_became_f)), (a_unifier, .inr (8, [.ref a_terms, .ref a_unifier_links, .ref a_unifier_states, .ref a_unifier_pairs, .ref a_unifier_joined, .ref a_unifier_seen, .ref a_unifier_path])), (a_unifier_links, .inl (cs 0, a_unifier_links_n, .inl a_unifier_links_f)), (a_unifier_states, .inl (cs 0, a_unifier_states_n, .inl a_unifier_states_f)), (a_unifier_pairs, .inr (1, [.ref a_unifier_pairs_items, .int a_unifier_pairs_size])), (a_unifier_pairs_items, .inl (cs 0, a_unifier_pairs_items_n, .inl a_unifier_pairs_items_f)), (a_unifier_joined, .inr (1, [.ref a_unifier_joined_items, .int a_unifier_joined_size])), (a_unifier_joined_items, .inl (cs 0, a_unifier_joined_items_n, .inl a_unifier_joined_items_f)), (a_unifier_seen, .inr (1, [.ref a_unifier_seen_items, .int a_unifier_seen_size])), (a_unifier_seen_items, .inl (cs 0, a_unifier_seen_items_n, .inl a_unifier_seen_items_f)), (a_unifier_path, .inr (1, [.ref a_unifier_path_items, .int a_unifier_path_size])), (a_unifier_path_items, .inl (cs 0, a_unifier_path_items_n, .inl a_unifier_path_items_f)), (a_registers, .inl (cs 0, a_registers_n, .inl a_registers_f))] sz) := by
  refine tx_ofW (cc := b_UB_unify) (maxL := 3) (ret := (some .boolean)) (by decide) rfl ?_
  intro p e s m args below meth c s₁ B hml hv
  obtain ⟨rfl, hsz, hP, hK, hD0, hgl, hkn, hkr⟩ := hv
  have hx := B.exec
  have hb := B.bytes
  have hr := B.returns
  have hg : ∀ w ∈ GW, w.before ([.ref a, .int x, .int y] : List Value).toArray s = true := fun w hw => atoms_spec (ws := .code y_UB_unify b_UB_unify 3 (some .boolean) :: GW) B.pre w (List.mem_cons_of_mem _ hw)
  have hown : s.vm.findClass R_UB = some m.cls := findClass_of_methodNamed B.named
  have hlocks := B.notSynchronized
  have hcd : (Cond.code y_UB_unify b_UB_unify 3 (some .boolean)).before ([.ref a, .int x, .int y] : List Value).toArray s = true := atoms_spec (ws := .code y_UB_unify b_UB_unify 3 (some .boolean) :: GW) B.pre _ List.mem_cons_self
  subst hsz
  have hD := hD0.self (sz := s.heap.size)
  generalize hAe : va_A [(a, .inr (9, [.ref a_tape, .ref a_names, .ref a_terms, .ref a_reader, .ref a_unifier, .ref a_printer, .ref a_registers, .ref a_marked, .int a_marks, .int a_place])), (a_terms, .inr (7, [.ref a_terms_shapes, .ref a_terms_values, .ref a_terms_firstParts, .int a_terms_nodes, .ref a_terms_parts, .ref a_terms_variableNames, .ref a_terms_became, .int a_terms_variables, .int a_terms_variablesLack, .int a_terms_symbols, .int a_terms_nodesBefore, .int a_terms_partsBefore, .int a_terms_variablesBefore])), (a_terms_shapes, .inl (cs 0, a_terms_shapes_n, .inl a_terms_shapes_f)), (a_terms_values, .inl (cs 2, a_terms_values_n, .inr (.inl a_terms_values_f))), (a_terms_firstParts, .inl (cs 0, a_terms_firstParts_n, .inl a_terms_firstParts_f)), (a_terms_parts, .inr (1, [.ref a_terms_parts_items, .int a_terms_parts_size])), (a_terms_parts_items, .inl (cs 0, a_terms_parts_items_n, .inl a_terms_parts_items_f)), (a_terms_became, .inl (cs 0, a_terms_became_n, .inl a_terms_became_f)), (a_unifier, .inr (8, [.ref a_terms, .ref a_unifier_links, .ref a_unifier_states, .ref a_unifier_pairs, .ref a_unifier_joined, .ref a_unifier_seen, .ref a_unifier_path])), (a_unifier_links, .inl (cs 0, a_unifier_links_n, .inl a_unifier_links_f)), (a_unifier_states, .inl (cs 0, a_unifier_states_n, .inl a_unifier_states_f)), (a_unifier_pairs, .inr (1, [.ref a_unifier_pairs_items, .int a_unifier_pairs_size])), (a_unifier_pairs_items, .inl (cs 0, a_unifier_pairs_items_n, .inl a_unifier_pairs_items_f)), (a_unifier_joined, .inr (1, [.ref a_unifier_joined_items, .int a_unifier_joined_size])), (a_unifier_joined_items, .inl (cs 0, a_unifier_joined_items_n, .inl a_unifier_joined_items_f)), (a_unifier_seen, .inr (1, [.ref a_unifier_seen_items, .int a_unifier_seen_size])), (a_unifier_seen_items, .inl (cs 0, a_unifier_seen_items_n, .inl a_unifier_seen_items_f)), (a_unifier_path, .inr (1, [.ref a_unifier_path_items, .int a_unifier_path_size])), (a_unifier_path_items, .inl (cs 0, a_unifier_path_items_n, .inl a_unifier_path_items_f)), (a_registers, .inl (cs 0, a_registers_n, .inl a_registers_f))] s.heap.size = A at hD hkn ⊢
  have hA : ∀ q : Nat, s.heap.size ≤ q → A q := fun q h => by rw [← hAe]; exact Or.inr h
  have hS : va_S A s.heap s.heap [] := va_S.rf
  have hP : va_P g classes [(a, .inr (9, [.ref a_tape, .ref a_names, .ref a_terms, .ref a_reader, .ref a_unifier, .ref a_printer, .ref a_registers, .ref a_marked, .int a_marks, .int a_place])), (a_terms, .inr (7, [.ref a_terms_shapes, .ref a_terms_values, .ref a_terms_firstParts, .int a_terms_nodes, .ref a_terms_parts, .ref a_terms_variableNames, .ref a_terms_became, .int a_terms_variables, .int a_terms_variablesLack, .int a_terms_symbols, .int a_terms_nodesBefore, .int a_terms_partsBefore, .int a_terms_variablesBefore])), (a_terms_shapes, .inl (cs 0, a_terms_shapes_n, .inl a_terms_shapes_f)), (a_terms_values, .inl (cs 2, a_terms_values_n, .inr (.inl a_terms_values_f))), (a_terms_firstParts, .inl (cs 0, a_terms_firstParts_n, .inl a_terms_firstParts_f)), (a_terms_parts, .inr (1, [.ref a_terms_parts_items, .int a_terms_parts_size])), (a_terms_parts_items, .inl (cs 0, a_terms_parts_items_n, .inl a_terms_parts_items_f)), (a_terms_became, .inl (cs 0, a_terms_became_n, .inl a_terms_became_f)), (a_unifier, .inr (8, [.ref a_terms, .ref a_unifier_links, .ref a_unifier_states, .ref a_unifier_pairs, .ref a_unifier_joined, .ref a_unifier_seen, .ref a_unifier_path])), (a_unifier_links, .inl (cs 0, a_unifier_links_n, .inl a_unifier_links_f)), (a_unifier_states, .inl (cs 0, a_unifier_states_n, .inl a_unifier_states_f)), (a_unifier_pairs, .inr (1, [.ref a_unifier_pairs_items, .int a_unifier_pairs_size])), (a_unifier_pairs_items, .inl (cs 0, a_unifier_pairs_items_n, .inl a_unifier_pairs_items_f)), (a_unifier_joined, .inr (1, [.ref a_unifier_joined_items, .int a_unifier_joined_size])), (a_unifier_joined_items, .inl (cs 0, a_unifier_joined_items_n, .inl a_unifier_joined_items_f)), (a_unifier_seen, .inr (1, [.ref a_unifier_seen_items, .int a_unifier_seen_size])), (a_unifier_seen_items, .inl (cs 0, a_unifier_seen_items_n, .inl a_unifier_seen_items_f)), (a_unifier_path, .inr (1, [.ref a_unifier_path_items, .int a_unifier_path_size])), (a_unifier_path_items, .inl (cs 0, a_unifier_path_items_n, .inl a_unifier_path_items_f)), (a_registers, .inl (cs 0, a_registers_n, .inl a_registers_f))] s.heap := hP
  have hl := lv_entry ([.ref a, .int x, .int y]) (n := 3) (Nat.le_of_ble_eq_true rfl)
  rw [lg_entry_eq]
  generalize (lg_sl ([.ref a, .int x, .int y]) ++ List.replicate (3 - (lg_sl ([.ref a, .int x, .int y])).length) Slot.unset).toArray = ls at hl ⊢
  have hl : lv_has ls 3 [(0, .ref a), (1, .int x), (2, .int y)] := hl
  refine gq (fun Q hQ => ?_)
  obtain ⟨H, hH⟩ : ∃ H : Heap, H = s.heap := ⟨_, rfl⟩
  rw [← hH] at hP
  have hS : va_S A s.heap H [] := by rw [hH]; exact hS
  refine W.eqH hH ?_
  obtain ⟨locs, hlc⟩ : ∃ L : List Loc, L = [] := ⟨_, rfl⟩
  rw [← hlc] at hS ⊢
  unfold p_UB_unify at hok
  refine lv_iload_n hx hb d_UB_unify_0 rfl (lv_at hl 1 rfl) ?_
  obtain ⟨⟨xc1, mk1, sk1⟩, hc1, hok⟩ := bd_some hok
  dsimp only at hok
  obtain ⟨m1, s1, hok, hmc1, hms1⟩ := al_some hok
  obtain ⟨hPc, hDc, hFc⟩ := cut0 (wc := []) hP hD hS hA [] (by decide) rfl
  rw [hQ]
  refine tx_call (A1 := va_A [] H.size) (tx_runS (As := [.int x]) (rest := []) ⟨hx, hb, hml, hown, hg⟩ (c_UB_checkRegister l g cs ka hfl H.size x xc1 mk1 sk1 hc1) (va_cwS 1 hg (gw_S wd_656 wd_657 wd_632 wd_655) rfl rfl rfl (by decide +kernel) ⟨Nat.le_of_ble_eq_true rfl, Nat.le_of_ble_eq_true rfl⟩) ⟨gP_blind, gP_pre hPc hDc hK hgl hkn hkr hS hFc⟩ rfl rfl hl.1 rfl (lv_room (Nat.le_of_ble_eq_true rfl)) d_UB_unify_1 ⟨show 0 + mk1 ≤ mc from by omega, show 0 + sk1 ≤ ms from by omega⟩) hS (fun st o t h0 hq => hq.2) (fun q _ h => hFc q h) hFc hlocks (tx_noH B hcd 1) (fun v1 st₀ t H locs h0 ht hW hB hz1 hk1 hS => ?_) (fun x1 st₀ t H locs h0 ht hB hz1 hk1 hS => ?_)
  · obtain ⟨⟨hO, hB⟩, -⟩ := hB
    obtain ⟨hx1, hv1⟩ := hO.ret
    subst hv1
    rw [if_pos hx1] at hok
    rw [ht] at hB
    obtain ⟨hP1, hD1⟩ := hB
    obtain ⟨hP, hD⟩ := jn_A hP hD [] [0, 1, 2, 3, 4, 5, 6, 7, 8, 9, 10, 11, 12, 13, 14, 15, 16, 17, 18, 19] rfl rfl (by decide) (by decide) hk1 hFc hP1 hD1
    obtain ⟨hP, hD⟩ : PD g A H [(a, .inr (9, [.ref a_tape, .ref a_names, .ref a_terms, .ref a_reader, .ref a_unifier, .ref a_printer, .ref a_registers, .ref a_marked, .int a_marks, .int a_place])), (a_terms, .inr (7, [.ref a_terms_shapes, .ref a_terms_values, .ref a_terms_firstParts, .int a_terms_nodes, .ref a_terms_parts, .ref a_terms_variableNames, .ref a_terms_became, .int a_terms_variables, .int a_terms_variablesLack, .int a_terms_symbols, .int a_terms_nodesBefore, .int a_terms_partsBefore, .int a_terms_variablesBefore])), (a_terms_shapes, .inl (cs 0, a_terms_shapes_n, .inl a_terms_shapes_f)), (a_terms_values, .inl (cs 2, a_terms_values_n, .inr (.inl a_terms_values_f))), (a_terms_firstParts, .inl (cs 0, a_terms_firstParts_n, .inl a_terms_firstParts_f)), (a_terms_parts, .inr (1, [.ref a_terms_parts_items, .int a_terms_parts_size])), (a_terms_parts_items, .inl (cs 0, a_terms_parts_items_n, .inl a_terms_parts_items_f)), (a_terms_became, .inl (cs 0, a_terms_became_n, .inl a_terms_became_f)), (a_unifier, .inr (8, [.ref a_terms, .ref a_unifier_links, .ref a_unifier_states, .ref a_unifier_pairs, .ref a_unifier_joined, .ref a_unifier_seen, .ref a_unifier_path])), (a_unifier_links, .inl (cs 0, a_unifier_links_n, .inl a_unifier_links_f)), (a_unifier_states, .inl (cs 0, a_unifier_states_n, .inl a_unifier_states_f)), (a_unifier_pairs, .inr (1, [.ref a_unifier_pairs_items, .int a_unifier_pairs_size])), (a_unifier_pairs_items, .inl (cs 0, a_unifier_pairs_items_n, .inl a_unifier_pairs_items_f)), (a_unifier_joined, .inr (1, [.ref a_unifier_joined_items, .int a_unifier_joined_size])), (a_unifier_joined_items, .inl (cs 0, a_unifier_joined_items_n, .inl a_unifier_joined_items_f)), (a_unifier_seen, .inr (1, [.ref a_unifier_seen_items, .int a_unifier_seen_size])), (a_unifier_seen_items, .inl (cs 0, a_unifier_seen_items_n, .inl a_unifier_seen_items_f)), (a_unifier_path, .inr (1, [.ref a_unifier_path_items, .int a_unifier_path_size])), (a_unifier_path_items, .inl (cs 0, a_unifier_path_items_n, .inl a_unifier_path_items_f)), (a_registers, .inl (cs 0, a_registers_n, .inl a_registers_f))] := ⟨hP, hD⟩
    rw [← hQ]
    refine W.eq (g2 := F0 m 4 ls []) rfl ?_
    refine lv_iload_n hx hb d_UB_unify_4 rfl (lv_at hl 2 rfl) ?_
    obtain ⟨⟨xc2, mk2, sk2⟩, hc2, hok⟩ := bd_some hok
    dsimp only at hok
    obtain ⟨m2, s2, hok, hmc2, hms2⟩ := al_some hok
    obtain ⟨hPc, hDc, hFc⟩ := cut0 (wc := []) hP hD hS hA [] (by decide) rfl
    rw [hQ]
    refine tx_call (A1 := va_A [] H.size) (tx_runS (As := [.int y]) (rest := []) ⟨hx, hb, hml, hown, hg⟩ (c_UB_checkRegister l g cs ka hfl H.size y xc2 mk2 sk2 hc2) (va_cwS 1 hg (gw_S wd_656 wd_657 wd_632 wd_655) rfl rfl rfl (by decide +kernel) ⟨Nat.le_of_ble_eq_true rfl, Nat.le_of_ble_eq_true rfl⟩) ⟨gP_blind, gP_pre hPc hDc hK hgl hkn hkr hS hFc⟩ rfl rfl hl.1 rfl (lv_room (Nat.le_of_ble_eq_true rfl)) d_UB_unify_5 ⟨show 0 + mk1 + mk2 ≤ mc from by omega, show 0 + sk1 + sk2 ≤ ms from by omega⟩) hS (fun st o t h0 hq => hq.2) (fun q _ h => hFc q h) hFc hlocks (tx_noH B hcd 5) (fun v2 st₀ t H locs h0 ht hW hB hz1 hk1 hS => ?_) (fun x2 st₀ t H locs h0 ht hB hz1 hk1 hS => ?_)
    · obtain ⟨⟨hO, hB⟩, -⟩ := hB
      obtain ⟨hx2, hv2⟩ := hO.ret
      subst hv2
      rw [if_pos hx2] at hok
      rw [ht] at hB
      obtain ⟨hP1, hD1⟩ := hB
      obtain ⟨hP, hD⟩ := jn_A hP hD [] [0, 1, 2, 3, 4, 5, 6, 7, 8, 9, 10, 11, 12, 13, 14, 15, 16, 17, 18, 19] rfl rfl (by decide) (by decide) hk1 hFc hP1 hD1
      obtain ⟨hP, hD⟩ : PD g A H [(a, .inr (9, [.ref a_tape, .ref a_names, .ref a_terms, .ref a_reader, .ref a_unifier, .ref a_printer, .ref a_registers, .ref a_marked, .int a_marks, .int a_place])), (a_terms, .inr (7, [.ref a_terms_shapes, .ref a_terms_values, .ref a_terms_firstParts, .int a_terms_nodes, .ref a_terms_parts, .ref a_terms_variableNames, .ref a_terms_became, .int a_terms_variables, .int a_terms_variablesLack, .int a_terms_symbols, .int a_terms_nodesBefore, .int a_terms_partsBefore, .int a_terms_variablesBefore])), (a_terms_shapes, .inl (cs 0, a_terms_shapes_n, .inl a_terms_shapes_f)), (a_terms_values, .inl (cs 2, a_terms_values_n, .inr (.inl a_terms_values_f))), (a_terms_firstParts, .inl (cs 0, a_terms_firstParts_n, .inl a_terms_firstParts_f)), (a_terms_parts, .inr (1, [.ref a_terms_parts_items, .int a_terms_parts_size])), (a_terms_parts_items, .inl (cs 0, a_terms_parts_items_n, .inl a_terms_parts_items_f)), (a_terms_became, .inl (cs 0, a_terms_became_n, .inl a_terms_became_f)), (a_unifier, .inr (8, [.ref a_terms, .ref a_unifier_links, .ref a_unifier_states, .ref a_unifier_pairs, .ref a_unifier_joined, .ref a_unifier_seen, .ref a_unifier_path])), (a_unifier_links, .inl (cs 0, a_unifier_links_n, .inl a_unifier_links_f)), (a_unifier_states, .inl (cs 0, a_unifier_states_n, .inl a_unifier_states_f)), (a_unifier_pairs, .inr (1, [.ref a_unifier_pairs_items, .int a_unifier_pairs_size])), (a_unifier_pairs_items, .inl (cs 0, a_unifier_pairs_items_n, .inl a_unifier_pairs_items_f)), (a_unifier_joined, .inr (1, [.ref a_unifier_joined_items, .int a_unifier_joined_size])), (a_unifier_joined_items, .inl (cs 0, a_unifier_joined_items_n, .inl a_unifier_joined_items_f)), (a_unifier_seen, .inr (1, [.ref a_unifier_seen_items, .int a_unifier_seen_size])), (a_unifier_seen_items, .inl (cs 0, a_unifier_seen_items_n, .inl a_unifier_seen_items_f)), (a_unifier_path, .inr (1, [.ref a_unifier_path_items, .int a_unifier_path_size])), (a_unifier_path_items, .inl (cs 0, a_unifier_path_items_n, .inl a_unifier_path_items_f)), (a_registers, .inl (cs 0, a_registers_n, .inl a_registers_f))] := ⟨hP, hD⟩
      rw [← hQ]
      refine W.eq (g2 := F0 m 8 ls []) rfl ?_
      refine lv_aload_n hx hb d_UB_unify_8 rfl (lv_at hl 0 rfl) ?_
      refine va_get (D := g) (ci := 9) (v := .ref a_unifier) (C := R_UB) (T := F_UB) (N := 10) hx hb hg ul_UB hown hK hP 0 rfl rfl 4 (by decide) (hg _ wd_658) (fun _ h9 => h9) rfl d_UB_unify_9 ?_
      refine lv_aload_n hx hb d_UB_unify_12 rfl (lv_at hl 0 rfl) ?_
      refine va_get (D := g) (ci := 9) (v := .ref a_registers) (C := R_UB) (T := F_UB) (N := 10) hx hb hg ul_UB hown hK hP 0 rfl rfl 6 (by decide) (hg _ wd_646) (fun _ h9 => h9) rfl d_UB_unify_13 ?_
      refine lv_iload_n hx hb d_UB_unify_16 rfl (lv_at hl 1 rfl) ?_
      obtain ⟨hi3, hok⟩ := ck_some hok
      refine va_iald hx hb hK hP 19 0 rfl rfl (ixb_in hi3) d_UB_unify_17 ?_
      refine lv_aload_n hx hb d_UB_unify_18 rfl (lv_at hl 0 rfl) ?_
      refine va_get (D := g) (ci := 9) (v := .ref a_registers) (C := R_UB) (T := F_UB) (N := 10) hx hb hg ul_UB hown hK hP 0 rfl rfl 6 (by decide) (hg _ wd_646) (fun _ h9 => h9) rfl d_UB_unify_19 ?_
      refine lv_iload_n hx hb d_UB_unify_22 rfl (lv_at hl 2 rfl) ?_
      obtain ⟨hi4, hok⟩ := ck_some hok
      refine va_iald hx hb hK hP 19 0 rfl rfl (ixb_in hi4) d_UB_unify_23 ?_
      obtain ⟨⟨⟨r5, a_terms_became_f_5, a_links_n_5, a_links_f_5, a_states_n_5, a_states_f_5, a_pairs_size_5, a_pairs_items_n_5, a_pairs_items_f_5, a_joined_size_5, a_joined_items_n_5, a_joined_items_f_5, a_seen_size_5, a_seen_items_n_5, a_seen_items_f_5, a_path_size_5, a_path_items_n_5, a_path_items_f_5⟩, mk5, sk5⟩, hc5, hok⟩ := bd_some hok
      dsimp only at hok
      obtain ⟨m5, s5, hok, hmc5, hms5⟩ := al_some hok
      obtain ⟨hPc, hDc, hFc⟩ := cut0 (wc := [(a_unifier, .inr (8, [.ref a_terms, .ref a_unifier_links, .ref a_unifier_states, .ref a_unifier_pairs, .ref a_unifier_joined, .ref a_unifier_seen, .ref a_unifier_path])), (a_terms, .inr (7, [.ref a_terms_shapes, .ref a_terms_values, .ref a_terms_firstParts, .int a_terms_nodes, .ref a_terms_parts, .ref a_terms_variableNames, .ref a_terms_became, .int a_terms_variables, .int a_terms_variablesLack, .int a_terms_symbols, .int a_terms_nodesBefore, .int a_terms_partsBefore, .int a_terms_variablesBefore])), (a_terms_shapes, .inl (cs 0, a_terms_shapes_n, .inl a_terms_shapes_f)), (a_terms_values, .inl (cs 2, a_terms_values_n, .inr (.inl a_terms_values_f))), (a_terms_firstParts, .inl (cs 0, a_terms_firstParts_n, .inl a_terms_firstParts_f)), (a_terms_parts, .inr (1, [.ref a_terms_parts_items, .int a_terms_parts_size])), (a_terms_parts_items, .inl (cs 0, a_terms_parts_items_n, .inl a_terms_parts_items_f)), (a_terms_became, .inl (cs 0, a_terms_became_n, .inl a_terms_became_f)), (a_unifier_links, .inl (cs 0, a_unifier_links_n, .inl a_unifier_links_f)), (a_unifier_states, .inl (cs 0, a_unifier_states_n, .inl a_unifier_states_f)), (a_unifier_pairs, .inr (1, [.ref a_unifier_pairs_items, .int a_unifier_pairs_size])), (a_unifier_pairs_items, .inl (cs 0, a_unifier_pairs_items_n, .inl a_unifier_pairs_items_f)), (a_unifier_joined, .inr (1, [.ref a_unifier_joined_items, .int a_unifier_joined_size])), (a_unifier_joined_items, .inl (cs 0, a_unifier_joined_items_n, .inl a_unifier_joined_items_f)), (a_unifier_seen, .inr (1, [.ref a_unifier_seen_items, .int a_unifier_seen_size])), (a_unifier_seen_items, .inl (cs 0, a_unifier_seen_items_n, .inl a_unifier_seen_items_f)), (a_unifier_path, .inr (1, [.ref a_unifier_path_items, .int a_unifier_path_size])), (a_unifier_path_items, .inl (cs 0, a_unifier_path_items_n, .inl a_unifier_path_items_f))]) hP hD hS hA [8, 1, 2, 3, 4, 5, 6, 7, 9, 10, 11, 12, 13, 14, 15, 16, 17, 18] (by decide) rfl
      refine va_calli (va_runV (As := [.int (a_registers_f x.toNatClampNeg), .int (a_registers_f y.toNatClampNeg)]) (rest := []) ⟨hx, hb, hml, hown, hg⟩ (c_Unifier_makeSame l g cs ka a_terms_variableNames a_unifier a_terms a_terms_shapes a_terms_values a_terms_firstParts a_terms_parts a_terms_parts_items a_terms_became a_unifier_links a_unifier_states a_unifier_pairs a_unifier_pairs_items a_unifier_joined a_unifier_joined_items a_unifier_seen a_unifier_seen_items a_unifier_path a_unifier_path_items H.size n (a_registers_f x.toNatClampNeg) (a_registers_f y.toNatClampNeg) a_terms_nodes a_terms_variables a_terms_variablesLack a_terms_symbols a_terms_nodesBefore a_terms_partsBefore a_terms_variablesBefore a_terms_shapes_n a_terms_shapes_f a_terms_values_n a_terms_values_f a_terms_firstParts_n a_terms_firstParts_f a_terms_parts_size a_terms_parts_items_n a_terms_parts_items_f a_terms_became_n a_terms_became_f a_unifier_links_n a_unifier_links_f a_unifier_states_n a_unifier_states_f a_unifier_pairs_size a_unifier_pairs_items_n a_unifier_pairs_items_f a_unifier_joined_size a_unifier_joined_items_n a_unifier_joined_items_f a_unifier_seen_size a_unifier_seen_items_n a_unifier_seen_items_f a_unifier_path_size a_unifier_path_items_n a_unifier_path_items_f r5 a_terms_became_f_5 a_links_n_5 a_links_f_5 a_states_n_5 a_states_f_5 a_pairs_size_5 a_pairs_items_n_5 a_pairs_items_f_5 a_joined_size_5 a_joined_items_n_5 a_joined_items_f_5 a_seen_size_5 a_seen_items_n_5 a_seen_items_f_5 a_path_size_5 a_path_items_n_5 a_path_items_f_5 mk5 sk5 hc5) (cwV (C := R_Unifier) 2 hg (gw_V wd_660 wd_661 wd_662 wd_350 wd_659) rfl rfl rfl (by decide +kernel) ⟨Nat.le_of_ble_eq_true rfl, Nat.le_of_ble_eq_true rfl⟩) ⟨gP_blind, va_recv (q0 := 8) (ci := 8) (q := (R_Unifier, F_Unifier, 7)) hK hP rfl rfl, gP_pre hPc hDc hK hgl hkn hkr hS hFc⟩ rfl rfl hl.1 rfl (lv_room (Nat.le_of_ble_eq_true rfl)) d_UB_unify_24 ⟨show 0 + mk1 + mk2 + mk5 ≤ mc from by omega, show 0 + sk1 + sk2 + sk5 ≤ ms from by omega⟩) hS (fun q _ h => hFc q h) hFc (fun r5' u t H locs ht hvm hr5 hB hz1 hk1 hS => ?_)
      subst hr5
      rw [ht] at hB
      obtain ⟨a_links_5, a_states_5, a_pairs_items_5, a_joined_items_5, a_seen_items_5, a_path_items_5, hP1, hD1⟩ := hB
      obtain ⟨hP, hD⟩ := jn_A hP hD [8, 1, 2, 3, 4, 5, 6, 7, 9, 10, 11, 12, 13, 14, 15, 16, 17, 18] [0, 19] rfl rfl (by decide) (by decide) hk1 hFc hP1 hD1
      obtain ⟨hP, hD⟩ : PD g A H [(a, .inr (9, [.ref a_tape, .ref a_names, .ref a_terms, .ref a_reader, .ref a_unifier, .ref a_printer, .ref a_registers, .ref a_marked, .int a_marks, .int a_place])), (a_registers, .inl (cs 0, a_registers_n, .inl a_registers_f)), (a_unifier, .inr (8, [.ref a_terms, .ref a_links_5, .ref a_states_5, .ref a_unifier_pairs, .ref a_unifier_joined, .ref a_unifier_seen, .ref a_unifier_path])), (a_terms, .inr (7, [.ref a_terms_shapes, .ref a_terms_values, .ref a_terms_firstParts, .int a_terms_nodes, .ref a_terms_parts, .ref a_terms_variableNames, .ref a_terms_became, .int a_terms_variables, .int a_terms_variablesLack, .int a_terms_symbols, .int a_terms_nodesBefore, .int a_terms_partsBefore, .int a_terms_variablesBefore])), (a_terms_shapes, .inl (cs 0, a_terms_shapes_n, .inl a_terms_shapes_f)), (a_terms_values, .inl (cs 2, a_terms_values_n, .inr (.inl a_terms_values_f))), (a_terms_firstParts, .inl (cs 0, a_terms_firstParts_n, .inl a_terms_firstParts_f)), (a_terms_parts, .inr (1, [.ref a_terms_parts_items, .int a_terms_parts_size])), (a_terms_parts_items, .inl (cs 0, a_terms_parts_items_n, .inl a_terms_parts_items_f)), (a_terms_became, .inl (cs 0, a_terms_became_n, .inl a_terms_became_f_5)), (a_links_5, .inl (cs 0, a_links_n_5, .inl a_links_f_5)), (a_states_5, .inl (cs 0, a_states_n_5, .inl a_states_f_5)), (a_unifier_pairs, .inr (1, [.ref a_pairs_items_5, .int a_pairs_size_5])), (a_pairs_items_5, .inl (cs 0, a_pairs_items_n_5, .inl a_pairs_items_f_5)), (a_unifier_joined, .inr (1, [.ref a_joined_items_5, .int a_joined_size_5])), (a_joined_items_5, .inl (cs 0, a_joined_items_n_5, .inl a_joined_items_f_5)), (a_unifier_seen, .inr (1, [.ref a_seen_items_5, .int a_seen_size_5])), (a_seen_items_5, .inl (cs 0, a_seen_items_n_5, .inl a_seen_items_f_5)), (a_unifier_path, .inr (1, [.ref a_path_items_5, .int a_path_size_5])), (a_path_items_5, .inl (cs 0, a_path_items_n_5, .inl a_path_items_f_5))] := ⟨hP, hD⟩
      obtain ⟨hzb, hok⟩ := ck_some hok
      obtain ⟨hq, hw⟩ := Prod.mk.inj (Option.some.inj hok)
      obtain ⟨hmc0, hms0⟩ := Prod.mk.inj hw
      obtain ⟨hq0, hq⟩ := Prod.mk.inj hq
      obtain ⟨hq1, hq⟩ := Prod.mk.inj hq
      obtain ⟨hq2, hq⟩ := Prod.mk.inj hq
      obtain ⟨hq3, hq⟩ := Prod.mk.inj hq
      obtain ⟨hq4, hq⟩ := Prod.mk.inj hq
      obtain ⟨hq5, hq⟩ := Prod.mk.inj hq
      obtain ⟨hq6, hq⟩ := Prod.mk.inj hq
      obtain ⟨hq7, hq⟩ := Prod.mk.inj hq
      obtain ⟨hq8, hq⟩ := Prod.mk.inj hq
      obtain ⟨hq9, hq⟩ := Prod.mk.inj hq
      obtain ⟨hq10, hq⟩ := Prod.mk.inj hq
      obtain ⟨hq11, hq⟩ := Prod.mk.inj hq
      obtain ⟨hq12, hq⟩ := Prod.mk.inj hq
      obtain ⟨hq13, hq⟩ := Prod.mk.inj hq
      obtain ⟨hq14, hq⟩ := Prod.mk.inj hq
      obtain ⟨hq15, hq⟩ := Prod.mk.inj hq
      obtain ⟨hq16, hq⟩ := Prod.mk.inj hq
      obtain ⟨hq17, hq⟩ := Prod.mk.inj hq
      have hq18 := hq
      subst hq0
      subst hq1
      subst hq2
      subst hq3
      subst hq4
      subst hq5
      subst hq6
      subst hq7
      subst hq8
      subst hq9
      subst hq10
      subst hq11
      subst hq12
      subst hq13
      subst hq14
      subst hq15
      subst hq16
      subst hq17
      subst hq18
      obtain ⟨hP9, hD9⟩ := sub2 (ws' := [(a, .inr (9, [.ref a_tape, .ref a_names, .ref a_terms, .ref a_reader, .ref a_unifier, .ref a_printer, .ref a_registers, .ref a_marked, .int a_marks, .int a_place])), (a_terms, .inr (7, [.ref a_terms_shapes, .ref a_terms_values, .ref a_terms_firstParts, .int a_terms_nodes, .ref a_terms_parts, .ref a_terms_variableNames, .ref a_terms_became, .int a_terms_variables, .int a_terms_variablesLack, .int a_terms_symbols, .int a_terms_nodesBefore, .int a_terms_partsBefore, .int a_terms_variablesBefore])), (a_terms_shapes, .inl (cs 0, a_terms_shapes_n, .inl a_terms_shapes_f)), (a_terms_values, .inl (cs 2, a_terms_values_n, .inr (.inl a_terms_values_f))), (a_terms_firstParts, .inl (cs 0, a_terms_firstParts_n, .inl a_terms_firstParts_f)), (a_terms_parts, .inr (1, [.ref a_terms_parts_items, .int a_terms_parts_size])), (a_terms_parts_items, .inl (cs 0, a_terms_parts_items_n, .inl a_terms_parts_items_f)), (a_terms_became, .inl (cs 0, a_terms_became_n, .inl a_terms_became_f_5)), (a_unifier, .inr (8, [.ref a_terms, .ref a_links_5, .ref a_states_5, .ref a_unifier_pairs, .ref a_unifier_joined, .ref a_unifier_seen, .ref a_unifier_path])), (a_links_5, .inl (cs 0, a_links_n_5, .inl a_links_f_5)), (a_states_5, .inl (cs 0, a_states_n_5, .inl a_states_f_5)), (a_unifier_pairs, .inr (1, [.ref a_pairs_items_5, .int a_pairs_size_5])), (a_pairs_items_5, .inl (cs 0, a_pairs_items_n_5, .inl a_pairs_items_f_5)), (a_unifier_joined, .inr (1, [.ref a_joined_items_5, .int a_joined_size_5])), (a_joined_items_5, .inl (cs 0, a_joined_items_n_5, .inl a_joined_items_f_5)), (a_unifier_seen, .inr (1, [.ref a_seen_items_5, .int a_seen_size_5])), (a_seen_items_5, .inl (cs 0, a_seen_items_n_5, .inl a_seen_items_f_5)), (a_unifier_path, .inr (1, [.ref a_path_items_5, .int a_path_size_5])), (a_path_items_5, .inl (cs 0, a_path_items_n_5, .inl a_path_items_f_5)), (a_registers, .inl (cs 0, a_registers_n, .inl a_registers_f))]) hP hD [0, 3, 4, 5, 6, 7, 8, 9, 2, 10, 11, 12, 13, 14, 15, 16, 17, 18, 19, 1] rfl (by decide) rfl
      refine W.widen (k := mc) (n := ms) (by omega) (by omega) ?_
      rw [hQ]
      exact tx_ret (W.zret (v := r5) hx hb hr (zab_in hzb).1 (fun t ht hW => ⟨⟨tx_O.r0, a_links_5, a_states_5, a_pairs_items_5, a_joined_items_5, a_seen_items_5, a_path_items_5, by rw [ht]; exact hP9, hD9⟩, hS.F ht⟩) hS.2.2 d_UB_unify_27)
    · obtain ⟨⟨hO, hB⟩, -⟩ := hB
      obtain ⟨hx2, hX⟩ := hO.thr
      rw [if_neg hx2] at hok
      rw [ht] at hB
      obtain ⟨hP1, hD1⟩ := hB
      obtain ⟨hP, hD⟩ := jn_A hP hD [] [0, 1, 2, 3, 4, 5, 6, 7, 8, 9, 10, 11, 12, 13, 14, 15, 16, 17, 18, 19] rfl rfl (by decide) (by decide) hk1 hFc hP1 hD1
      obtain ⟨hq, hw⟩ := Prod.mk.inj (Option.some.inj hok)
      obtain ⟨hmc0, hms0⟩ := Prod.mk.inj hw
      obtain ⟨hq0, hq⟩ := Prod.mk.inj hq
      obtain ⟨hq1, hq⟩ := Prod.mk.inj hq
      obtain ⟨hq2, hq⟩ := Prod.mk.inj hq
      obtain ⟨hq3, hq⟩ := Prod.mk.inj hq
      obtain ⟨hq4, hq⟩ := Prod.mk.inj hq
      obtain ⟨hq5, hq⟩ := Prod.mk.inj hq
      obtain ⟨hq6, hq⟩ := Prod.mk.inj hq
      obtain ⟨hq7, hq⟩ := Prod.mk.inj hq
      obtain ⟨hq8, hq⟩ := Prod.mk.inj hq
      obtain ⟨hq9, hq⟩ := Prod.mk.inj hq
      obtain ⟨hq10, hq⟩ := Prod.mk.inj hq
      obtain ⟨hq11, hq⟩ := Prod.mk.inj hq
      obtain ⟨hq12, hq⟩ := Prod.mk.inj hq
      obtain ⟨hq13, hq⟩ := Prod.mk.inj hq
      obtain ⟨hq14, hq⟩ := Prod.mk.inj hq
      obtain ⟨hq15, hq⟩ := Prod.mk.inj hq
      obtain ⟨hq16, hq⟩ := Prod.mk.inj hq
      obtain ⟨hq17, hq⟩ := Prod.mk.inj hq
      have hq18 := hq
      subst hq0
      subst hq1
      subst hq2
      subst hq3
      subst hq4
      subst hq5
      subst hq6
      subst hq7
      subst hq8
      subst hq9
      subst hq10
      subst hq11
      subst hq12
      subst hq13
      subst hq14
      subst hq15
      subst hq16
      subst hq17
      subst hq18
      obtain ⟨hP9, hD9⟩ := sub2 (ws' := [(a, .inr (9, [.ref a_tape, .ref a_names, .ref a_terms, .ref a_reader, .ref a_unifier, .ref a_printer, .ref a_registers, .ref a_marked, .int a_marks, .int a_place])), (a_terms, .inr (7, [.ref a_terms_shapes, .ref a_terms_values, .ref a_terms_firstParts, .int a_terms_nodes, .ref a_terms_parts, .ref a_terms_variableNames, .ref a_terms_became, .int a_terms_variables, .int a_terms_variablesLack, .int a_terms_symbols, .int a_terms_nodesBefore, .int a_terms_partsBefore, .int a_terms_variablesBefore])), (a_terms_shapes, .inl (cs 0, a_terms_shapes_n, .inl a_terms_shapes_f)), (a_terms_values, .inl (cs 2, a_terms_values_n, .inr (.inl a_terms_values_f))), (a_terms_firstParts, .inl (cs 0, a_terms_firstParts_n, .inl a_terms_firstParts_f)), (a_terms_parts, .inr (1, [.ref a_terms_parts_items, .int a_terms_parts_size])), (a_terms_parts_items, .inl (cs 0, a_terms_parts_items_n, .inl a_terms_parts_items_f)), (a_terms_became, .inl (cs 0, a_terms_became_n, .inl a_terms_became_f)), (a_unifier, .inr (8, [.ref a_terms, .ref a_unifier_links, .ref a_unifier_states, .ref a_unifier_pairs, .ref a_unifier_joined, .ref a_unifier_seen, .ref a_unifier_path])), (a_unifier_links, .inl (cs 0, a_unifier_links_n, .inl a_unifier_links_f)), (a_unifier_states, .inl (cs 0, a_unifier_states_n, .inl a_unifier_states_f)), (a_unifier_pairs, .inr (1, [.ref a_unifier_pairs_items, .int a_unifier_pairs_size])), (a_unifier_pairs_items, .inl (cs 0, a_unifier_pairs_items_n, .inl a_unifier_pairs_items_f)), (a_unifier_joined, .inr (1, [.ref a_unifier_joined_items, .int a_unifier_joined_size])), (a_unifier_joined_items, .inl (cs 0, a_unifier_joined_items_n, .inl a_unifier_joined_items_f)), (a_unifier_seen, .inr (1, [.ref a_unifier_seen_items, .int a_unifier_seen_size])), (a_unifier_seen_items, .inl (cs 0, a_unifier_seen_items_n, .inl a_unifier_seen_items_f)), (a_unifier_path, .inr (1, [.ref a_unifier_path_items, .int a_unifier_path_size])), (a_unifier_path_items, .inl (cs 0, a_unifier_path_items_n, .inl a_unifier_path_items_f)), (a_registers, .inl (cs 0, a_registers_n, .inl a_registers_f))]) hP hD [0, 1, 2, 3, 4, 5, 6, 7, 8, 9, 10, 11, 12, 13, 14, 15, 16, 17, 18, 19] rfl (by decide) rfl
      exact ⟨fun t' ht' hv' hW' => ⟨⟨tx_O.t0 hx2 (hX.moved (ht.trans ht'.symm) hv'), a_unifier_links, a_unifier_states, a_unifier_pairs_items, a_unifier_joined_items, a_unifier_seen_items, a_unifier_path_items, by rw [ht']; exact hP9, hD9⟩, hS.F ht'⟩, hS.2.2, by omega, by omega⟩
  · obtain ⟨⟨hO, hB⟩, -⟩ := hB
    obtain ⟨hx1, hX⟩ := hO.thr
    rw [if_neg hx1] at hok
    rw [ht] at hB
    obtain ⟨hP1, hD1⟩ := hB
    obtain ⟨hP, hD⟩ := jn_A hP hD [] [0, 1, 2, 3, 4, 5, 6, 7, 8, 9, 10, 11, 12, 13, 14, 15, 16, 17, 18, 19] rfl rfl (by decide) (by decide) hk1 hFc hP1 hD1
    obtain ⟨hq, hw⟩ := Prod.mk.inj (Option.some.inj hok)
    obtain ⟨hmc0, hms0⟩ := Prod.mk.inj hw
    obtain ⟨hq0, hq⟩ := Prod.mk.inj hq
    obtain ⟨hq1, hq⟩ := Prod.mk.inj hq
    obtain ⟨hq2, hq⟩ := Prod.mk.inj hq
    obtain ⟨hq3, hq⟩ := Prod.mk.inj hq
    obtain ⟨hq4, hq⟩ := Prod.mk.inj hq
    obtain ⟨hq5, hq⟩ := Prod.mk.inj hq
    obtain ⟨hq6, hq⟩ := Prod.mk.inj hq
    obtain ⟨hq7, hq⟩ := Prod.mk.inj hq
    obtain ⟨hq8, hq⟩ := Prod.mk.inj hq
    obtain ⟨hq9, hq⟩ := Prod.mk.inj hq
    obtain ⟨hq10, hq⟩ := Prod.mk.inj hq
    obtain ⟨hq11, hq⟩ := Prod.mk.inj hq
    obtain ⟨hq12, hq⟩ := Prod.mk.inj hq
    obtain ⟨hq13, hq⟩ := Prod.mk.inj hq
    obtain ⟨hq14, hq⟩ := Prod.mk.inj hq
    obtain ⟨hq15, hq⟩ := Prod.mk.inj hq
    obtain ⟨hq16, hq⟩ := Prod.mk.inj hq
    obtain ⟨hq17, hq⟩ := Prod.mk.inj hq
    have hq18 := hq
    subst hq0
    subst hq1
    subst hq2
    subst hq3
    subst hq4
    subst hq5
    subst hq6
    subst hq7
    subst hq8
    subst hq9
    subst hq10
    subst hq11
    subst hq12
    subst hq13
    subst hq14
    subst hq15
    subst hq16
    subst hq17
    subst hq18
    obtain ⟨hP9, hD9⟩ := sub2 (ws' := [(a, .inr (9, [.ref a_tape, .ref a_names, .ref a_terms, .ref a_reader, .ref a_unifier, .ref a_printer, .ref a_registers, .ref a_marked, .int a_marks, .int a_place])), (a_terms, .inr (7, [.ref a_terms_shapes, .ref a_terms_values, .ref a_terms_firstParts, .int a_terms_nodes, .ref a_terms_parts, .ref a_terms_variableNames, .ref a_terms_became, .int a_terms_variables, .int a_terms_variablesLack, .int a_terms_symbols, .int a_terms_nodesBefore, .int a_terms_partsBefore, .int a_terms_variablesBefore])), (a_terms_shapes, .inl (cs 0, a_terms_shapes_n, .inl a_terms_shapes_f)), (a_terms_values, .inl (cs 2, a_terms_values_n, .inr (.inl a_terms_values_f))), (a_terms_firstParts, .inl (cs 0, a_terms_firstParts_n, .inl a_terms_firstParts_f)), (a_terms_parts, .inr (1, [.ref a_terms_parts_items, .int a_terms_parts_size])), (a_terms_parts_items, .inl (cs 0, a_terms_parts_items_n, .inl a_terms_parts_items_f)), (a_terms_became, .inl (cs 0, a_terms_became_n, .inl a_terms_became_f)), (a_unifier, .inr (8, [.ref a_terms, .ref a_unifier_links, .ref a_unifier_states, .ref a_unifier_pairs, .ref a_unifier_joined, .ref a_unifier_seen, .ref a_unifier_path])), (a_unifier_links, .inl (cs 0, a_unifier_links_n, .inl a_unifier_links_f)), (a_unifier_states, .inl (cs 0, a_unifier_states_n, .inl a_unifier_states_f)), (a_unifier_pairs, .inr (1, [.ref a_unifier_pairs_items, .int a_unifier_pairs_size])), (a_unifier_pairs_items, .inl (cs 0, a_unifier_pairs_items_n, .inl a_unifier_pairs_items_f)), (a_unifier_joined, .inr (1, [.ref a_unifier_joined_items, .int a_unifier_joined_size])), (a_unifier_joined_items, .inl (cs 0, a_unifier_joined_items_n, .inl a_unifier_joined_items_f)), (a_unifier_seen, .inr (1, [.ref a_unifier_seen_items, .int a_unifier_seen_size])), (a_unifier_seen_items, .inl (cs 0, a_unifier_seen_items_n, .inl a_unifier_seen_items_f)), (a_unifier_path, .inr (1, [.ref a_unifier_path_items, .int a_unifier_path_size])), (a_unifier_path_items, .inl (cs 0, a_unifier_path_items_n, .inl a_unifier_path_items_f)), (a_registers, .inl (cs 0, a_registers_n, .inl a_registers_f))]) hP hD [0, 1, 2, 3, 4, 5, 6, 7, 8, 9, 10, 11, 12, 13, 14, 15, 16, 17, 18, 19] rfl (by decide) rfl
    exact ⟨fun t' ht' hv' hW' => ⟨⟨tx_O.t0 hx1 (hX.moved (ht.trans ht'.symm) hv'), a_unifier_links, a_unifier_states, a_unifier_pairs_items, a_unifier_joined_items, a_unifier_seen_items, a_unifier_path_items, by rw [ht']; exact hP9, hD9⟩, hS.F ht'⟩, hS.2.2, by omega, by omega⟩

theorem d_UB_same_0 : decode b_UB_same 0 = .ok (.iload_n 1, 1) := by decide +kernel
theorem d_UB_same_1 : decode b_UB_same 1 = .ok (.invokestatic 103, 3) := by decide +kernel
theorem d_UB_same_4 : decode b_UB_same 4 = .ok (.iload_n 2, 1) := by decide +kernel
theorem d_UB_same_5 : decode b_UB_same 5 = .ok (.invokestatic 103, 3) := by decide +kernel
theorem d_UB_same_8 : decode b_UB_same 8 = .ok (.aload_n 0, 1) := by decide +kernel
theorem d_UB_same_9 : decode b_UB_same 9 = .ok (.getfield 49, 3) := by decide +kernel
theorem d_UB_same_12 : decode b_UB_same 12 = .ok (.aload_n 0, 1) := by decide +kernel
theorem d_UB_same_13 : decode b_UB_same 13 = .ok (.getfield 62, 3) := by decide +kernel
theorem d_UB_same_16 : decode b_UB_same 16 = .ok (.iload_n 1, 1) := by decide +kernel
theorem d_UB_same_17 : decode b_UB_same 17 = .ok (.iaload, 1) := by decide +kernel
theorem d_UB_same_18 : decode b_UB_same 18 = .ok (.aload_n 0, 1) := by decide +kernel
theorem d_UB_same_19 : decode b_UB_same 19 = .ok (.getfield 62, 3) := by decide +kernel
theorem d_UB_same_22 : decode b_UB_same 22 = .ok (.iload_n 2, 1) := by decide +kernel
theorem d_UB_same_23 : decode b_UB_same 23 = .ok (.iaload, 1) := by decide +kernel
theorem d_UB_same_24 : decode b_UB_same 24 = .ok (.invokevirtual 132, 3) := by decide +kernel
theorem d_UB_same_27 : decode b_UB_same 27 = .ok (.ireturn, 1) := by decide +kernel
def p_UB_same (n : Nat) (x : Int32) (y : Int32) (a_marks : Int32) (a_place : Int32) (a_terms_nodes : Int32) (a_terms_variables : Int32) (a_terms_variablesLack : Int32) (a_terms_symbols : Int32) (a_terms_nodesBefore : Int32) (a_terms_partsBefore : Int32) (a_terms_variablesBefore : Int32) (a_terms_shapes_n : Nat) (a_terms_shapes_f : Nat → Int32) (a_terms_values_n : Nat) (a_terms_values_f : Nat → Int64) (a_terms_firstParts_n : Nat) (a_terms_firstParts_f : Nat → Int32) (a_terms_parts_size : Int32) (a_terms_parts_items_n : Nat) (a_terms_parts_items_f : Nat → Int32) (a_terms_became_n : Nat) (a_terms_became_f : Nat → Int32) (a_unifier_links_n : Nat) (a_unifier_links_f : Nat → Int32) (a_unifier_states_n : Nat) (a_unifier_states_f : Nat → Int32) (a_unifier_pairs_size : Int32) (a_unifier_pairs_items_n : Nat) (a_unifier_pairs_items_f : Nat → Int32) (a_unifier_joined_size : Int32) (a_unifier_joined_items_n : Nat) (a_unifier_joined_items_f : Nat → Int32) (a_unifier_seen_size : Int32) (a_unifier_seen_items_n : Nat) (a_unifier_seen_items_f : Nat → Int32) (a_unifier_path_size : Int32) (a_registers_n : Nat) (a_registers_f : Nat → Int32) : Option ((Nat × Int32 × Nat × (Nat → Int32) × Nat × (Nat → Int32) × Int32 × Nat × (Nat → Int32) × Int32 × Nat × (Nat → Int32) × Int32 × Int32) × Nat × Nat) := (p_UB_checkRegister x).bind (fun (xc1, mk1, sk1) => al mk1 sk1 (if xc1 = 0 then ((p_UB_checkRegister y).bind (fun (xc2, mk2, sk2) => al mk2 sk2 (if xc2 = 0 then (ck (ixb x a_registers_n) (ck (ixb y a_registers_n) ((p_Unifier_areSame n (a_registers_f x.toNatClampNeg) (a_registers_f y.toNatClampNeg) a_terms_nodes a_terms_variables a_terms_variablesLack a_terms_symbols a_terms_nodesBefore a_terms_partsBefore a_terms_variablesBefore a_terms_shapes_n a_terms_shapes_f a_terms_values_n a_terms_values_f a_terms_firstParts_n a_terms_firstParts_f a_terms_parts_size a_terms_parts_items_n a_terms_parts_items_f a_terms_became_n a_terms_became_f a_unifier_links_n a_unifier_links_f a_unifier_states_n a_unifier_states_f a_unifier_pairs_size a_unifier_pairs_items_n a_unifier_pairs_items_f a_unifier_joined_size a_unifier_joined_items_n a_unifier_joined_items_f a_unifier_seen_size a_unifier_seen_items_n a_unifier_seen_items_f a_unifier_path_size).bind (fun ((r5, a_links_n_5, a_links_f_5, a_states_n_5, a_states_f_5, a_pairs_size_5, a_pairs_items_n_5, a_pairs_items_f_5, a_joined_size_5, a_joined_items_n_5, a_joined_items_f_5, a_seen_size_5, a_path_size_5), mk5, sk5) => al mk5 sk5 (ck (zab r5) (some ((0, r5, a_links_n_5, a_links_f_5, a_states_n_5, a_states_f_5, a_pairs_size_5, a_pairs_items_n_5, a_pairs_items_f_5, a_joined_size_5, a_joined_items_n_5, a_joined_items_f_5, a_seen_size_5, a_path_size_5), 0, 0))))))) else (some ((xc2, (0 : Int32), a_unifier_links_n, a_unifier_links_f, a_unifier_states_n, a_unifier_states_f, a_unifier_pairs_size, a_unifier_pairs_items_n, a_unifier_pairs_items_f, a_unifier_joined_size, a_unifier_joined_items_n, a_unifier_joined_items_f, a_unifier_seen_size, a_unifier_path_size), 0, 0))))) else (some ((xc1, (0 : Int32), a_unifier_links_n, a_unifier_links_f, a_unifier_states_n, a_unifier_states_f, a_unifier_pairs_size, a_unifier_pairs_items_n, a_unifier_pairs_items_f, a_unifier_joined_size, a_unifier_joined_items_n, a_unifier_joined_items_f, a_unifier_seen_size, a_unifier_path_size), 0, 0))))
set_option maxHeartbeats 4000000 in
set_option maxRecDepth 100000 in
theorem c_UB_same (l : Launch) (g : va_G) (cs : Nat → ClassId) (ka : Nat → Nat) (hfl : l.flags = pinnedFlags ++ [noTraceFlag]) (a_tape : Nat) (a_names : Nat) (a_reader : Nat) (a_printer : Nat) (a_marked : Nat) (a_terms_variableNames : Nat) (a_unifier_path_items : Nat) (a a_terms a_terms_shapes a_terms_values a_terms_firstParts a_terms_parts a_terms_parts_items a_terms_became a_unifier a_unifier_links a_unifier_states a_unifier_pairs a_unifier_pairs_items a_unifier_joined a_unifier_joined_items a_unifier_seen a_unifier_seen_items a_unifier_path a_registers : Nat) (sz : Nat) (n : Nat) (x : Int32) (y : Int32) (a_marks : Int32) (a_place : Int32) (a_terms_nodes : Int32) (a_terms_variables : Int32) (a_terms_variablesLack : Int32) (a_terms_symbols : Int32) (a_terms_nodesBefore : Int32) (a_terms_partsBefore : Int32) (a_terms_variablesBefore : Int32) (a_terms_shapes_n : Nat) (a_terms_shapes_f : Nat → Int32) (a_terms_values_n : Nat) (a_terms_values_f : Nat → Int64) (a_terms_firstParts_n : Nat) (a_terms_firstParts_f : Nat → Int32) (a_terms_parts_size : Int32) (a_terms_parts_items_n : Nat) (a_terms_parts_items_f : Nat → Int32) (a_terms_became_n : Nat) (a_terms_became_f : Nat → Int32) (a_unifier_links_n : Nat) (a_unifier_links_f : Nat → Int32) (a_unifier_states_n : Nat) (a_unifier_states_f : Nat → Int32) (a_unifier_pairs_size : Int32) (a_unifier_pairs_items_n : Nat) (a_unifier_pairs_items_f : Nat → Int32) (a_unifier_joined_size : Int32) (a_unifier_joined_items_n : Nat) (a_unifier_joined_items_f : Nat → Int32) (a_unifier_seen_size : Int32) (a_unifier_seen_items_n : Nat) (a_unifier_seen_items_f : Nat → Int32) (a_unifier_path_size : Int32) (a_registers_n : Nat) (a_registers_f : Nat → Int32) (xc : Nat) (r : Int32) (o_a_unifier_links_n : Nat) (o_a_unifier_links_f : Nat → Int32) (o_a_unifier_states_n : Nat) (o_a_unifier_states_f : Nat → Int32) (o_a_unifier_pairs_size : Int32) (o_a_unifier_pairs_items_n : Nat) (o_a_unifier_pairs_items_f : Nat → Int32) (o_a_unifier_joined_size : Int32) (o_a_unifier_joined_items_n : Nat) (o_a_unifier_joined_items_f : Nat → Int32) (o_a_unifier_seen_size : Int32) (o_a_unifier_path_size : Int32) (mc ms : Nat) (hok : p_UB_same n x y a_marks a_place a_terms_nodes a_terms_variables a_terms_variablesLack a_terms_symbols a_terms_nodesBefore a_terms_partsBefore a_terms_variablesBefore a_terms_shapes_n a_terms_shapes_f a_terms_values_n a_terms_values_f a_terms_firstParts_n a_terms_firstParts_f a_terms_parts_size a_terms_parts_items_n a_terms_parts_items_f a_terms_became_n a_terms_became_f a_unifier_links_n a_unifier_links_f a_unifier_states_n a_unifier_states_f a_unifier_pairs_size a_unifier_pairs_items_n a_unifier_pairs_items_f a_unifier_joined_size a_unifier_joined_items_n a_unifier_joined_items_f a_unifier_seen_size a_unifier_seen_items_n a_unifier_seen_items_f a_unifier_path_size a_registers_n a_registers_f = some ((xc, r, o_a_unifier_links_n, o_a_unifier_links_f, o_a_unifier_states_n, o_a_unifier_states_f, o_a_unifier_pairs_size, o_a_unifier_pairs_items_n, o_a_unifier_pairs_items_f, o_a_unifier_joined_size, o_a_unifier_joined_items_n, o_a_unifier_joined_items_f, o_a_unifier_seen_size, o_a_unifier_path_size), mc, ms)) : tx_Met l y_UB_same (.code y_UB_same b_UB_same 3 (some .boolean) :: GW) { frames := 7, cells := mc, slots := ms, locals := 238 } (va_Pc [.ref a, .int x, .int y] (gP g cs ka [(a, .inr (9, [.ref a_tape, .ref a_names, .ref a_terms, .ref a_reader, .ref a_unifier, .ref a_printer, .ref a_registers, .ref a_marked, .int a_marks, .int a_place])), (a_terms, .inr (7, [.ref a_terms_shapes, .ref a_terms_values, .ref a_terms_firstParts, .int a_terms_nodes, .ref a_terms_parts, .ref a_terms_variableNames, .ref a_terms_became, .int a_terms_variables, .int a_terms_variablesLack, .int a_terms_symbols, .int a_terms_nodesBefore, .int a_terms_partsBefore, .int a_terms_variablesBefore])), (a_terms_shapes, .inl (cs 0, a_terms_shapes_n, .inl a_terms_shapes_f)), (a_terms_values, .inl (cs 2, a_terms_values_n, .inr (.inl a_terms_values_f))), (a_terms_firstParts, .inl (cs 0, a_terms_firstParts_n, .inl a_terms_firstParts_f)), (a_terms_parts, .inr (1, [.ref a_terms_parts_items, .int a_terms_parts_size])), (a_terms_parts_items, .inl (cs 0, a_terms_parts_items_n, .inl a_terms_parts_items_f)), (a_terms_became, .inl (cs 0, a_terms_became_n, .inl a_terms_became_f)), (a_unifier, .inr (8, [.ref a_terms, .ref a_unifier_links, .ref a_unifier_states, .ref a_unifier_pairs, .ref a_unifier_joined, .ref a_unifier_seen, .ref a_unifier_path])), (a_unifier_links, .inl (cs 0, a_unifier_links_n, .inl a_unifier_links_f)), (a_unifier_states, .inl (cs 0, a_unifier_states_n, .inl a_unifier_states_f)), (a_unifier_pairs, .inr (1, [.ref a_unifier_pairs_items, .int a_unifier_pairs_size])), (a_unifier_pairs_items, .inl (cs 0, a_unifier_pairs_items_n, .inl a_unifier_pairs_items_f)), (a_unifier_joined, .inr (1, [.ref a_unifier_joined_items, .int a_unifier_joined_size])), (a_unifier_joined_items, .inl (cs 0, a_unifier_joined_items_n, .inl a_unifier_joined_items_f)), (a_unifier_seen, .inr (1, [.ref a_unifier_seen_items, .int a_unifier_seen_size])), (a_unifier_seen_items, .inl (cs 0, a_unifier_seen_items_n, .inl a_unifier_seen_items_f)), (a_unifier_path, .inr (1, [.ref a_unifier_path_items, .int a_unifier_path_size])), (a_registers, .inl (cs 0, a_registers_n, .inl a_registers_f))] sz)) (fun _ st oc t => (tx_O xc (some (.int r)) oc t ∧ ∃ b_a_unifier_links b_a_unifier_states b_a_unifier_pairs_items b_a_unifier_joined_items : Nat, va_P g classes [(a, .inr (9, [.ref a_tape, .ref a_names, .ref a_terms, .ref a_reader, .ref a_unifier, .ref a_printer, .ref a_registers, .ref a_marked, .int a_marks, .int a_place])), (a_terms, .inr (7, [.ref a_terms_shapes, .ref a_terms_values, .ref a_terms_firstParts, .int a_terms_nodes, .ref a_terms_parts, .ref a_terms_variableNames, .ref a_terms_became, .int a_terms_variables, .int a_terms_variablesLack, .int a_terms_symbols, .int a_terms_nodesBefore, .int a_terms_partsBefore, .int a_terms_variablesBefore])), (a_terms_shapes, .inl (cs 0, a_terms_shapes_n, .inl a_terms_shapes_f)), (a_terms_values, .inl (cs 2, a_terms_values_n, .inr (.inl a_terms_values_f))), (a_terms_firstParts, .inl (cs 0, a_terms_firstParts_n, .inl a_terms_firstParts_f)), (a_terms_parts, .inr (1, [.ref a_terms_parts_items, .int a_terms_parts_size])), (a_terms_parts_items, .inl (cs 0, a_terms_parts_items_n, .inl a_terms_parts_items_f)), (a_terms_became, .inl (cs 0, a_terms_became_n, .inl a_terms_became_f)), (a_unifier, .inr (8, [.ref a_terms, .ref b_a_unifier_links, .ref b_a_unifier_states, .ref a_unifier_pairs, .ref a_unifier_joined, .ref a_unifier_seen, .ref a_unifier_path])), (b_a_unifier_links, .inl (cs 0, o_a_unifier_links_n, .inl o_a_unifier_links_f)), (b_a_unifier_states, .inl (cs 0, o_a_unifier_states_n, .inl o_a_unifier_states_f)), (a_unifier_pairs, .inr (1, [.ref b_a_unifier_pairs_items, .int o_a_unifier_pairs_size])), (b_a_unifier_pairs_items, .inl (cs 0, o_a_unifier_pairs_items_n, .inl o_a_unifier_pairs_items_f)), (a_unifier_joined, .inr (1, [.ref b_a_unifier_joined_items, .int o_a_unifier_joined_size])), (b_a_unifier_joined_items, .inl (cs 0, o_a_unifier_joined_items_n, .inl o_a_unifier_joined_items_f)), (a_unifier_seen, .inr (1, [.ref a_unifier_seen_items, .int o_a_unifier_seen_size])), (a_unifier_seen_items, .inl (cs 0, a_unifier_seen_items_n, .inl a_unifier_seen_items_f)), (a_unifier_path, .inr (1, [.ref a_unifier_path_items, .int o_a_unifier_path_size])), (a_registers, .inl (cs 0, a_registers_n, .inl a_registers_f))] t.heap ∧ va_D (va_A [(a, .inr (9, [.ref a_tape, .ref a_names, .ref a_terms, .ref a_reader, .ref a_unifier, .ref a_printer, .ref a_registers, .ref a_marked, .int a_marks, .int a_place])), (a_terms, .inr (7, [.ref a_terms_shapes, .ref a_terms_values, .ref a_terms_firstParts, .int a_terms_nodes, .ref a_terms_parts, .ref a_terms_variableNames, .ref a_terms_became, .int a_terms_variables, .int a_terms_variablesLack, .int a_terms_symbols, .int a_terms_nodesBefore, .int a_terms_partsBefore, .int a_terms_variablesBefore])), (a_terms_shapes, .inl (cs 0, a_terms_shapes_n, .inl a_terms_shapes_f)), (a_terms_values, .inl (cs 2, a_terms_values_n, .inr (.inl a_terms_values_f))), (a_terms_firstParts, .inl (cs 0, a_terms_firstParts_n, .inl a_terms_firstParts_f)), (a_terms_parts, .inr (1, [.ref a_terms_parts_items, .int a_terms_parts_size])), (a_terms_parts_items, .inl (cs 0, a_terms_parts_items_n, .inl a_terms_parts_items_f)), (a_terms_became, .inl (cs 0, a_terms_became_n, .inl a_terms_became_f)), (a_unifier, .inr (8, [.ref a_terms, .ref a_unifier_links, .ref a_unifier_states, .ref a_unifier_pairs, .ref a_unifier_joined, .ref a_unifier_seen, .ref a_unifier_path])), (a_unifier_links, .inl (cs 0, a_unifier_links_n, .inl a_unifier_links_f)), (a_unifier_states, .inl (cs 0, a_unifier_states_n, .inl a_unifier_states_f)), (a_unifier_pairs, .inr (1, [.ref a_unifier_pairs_items, .int a_unifier_pairs_size])), (a_unifier_pairs_items, .inl (cs 0, a_unifier_pairs_items_n, .inl a_unifier_pairs_items_f)), (a_unifier_joined, .inr (1, [.ref a_unifier_joined_items, .int a_unifier_joined_size])), (a_unifier_joined_items, .inl (cs 0, a_unifier_joined_items_n, .inl a_unifier_joined_items_f)), (a_unifier_seen, .inr (1, [.ref a_unifier_seen_items, .int a_unifier_seen_size])), (a_unifier_seen_items, .inl (cs 0, a_unifier_seen_items_n, .inl a_unifier_seen_items_f)), (a_unifier_path, .inr (1, [.ref a_unifier_path_items, .int a_unifier_path_size])), (a_registers, .inl (cs 0, a_registers_n, .inl a_registers_f))] sz) [(a, .inr (9, [.ref a_tape, .ref a_names, .ref a_terms, .ref a_reader, .ref a_unifier, .ref a_printer, .ref a_registers, .ref a_marked, .int a_marks, .int a_place])), (a_terms, .inr (7, [.ref a_terms_shapes, .ref a_terms_values, .ref a_terms_firstParts, .int a_terms_nodes, .ref a_terms_parts, .ref a_terms_variableNames, .ref a_terms_became, .int a_terms_variables, .int a_terms_variablesLack, .int a_terms_symbols, .int a_terms_nodesBefore, .int a_terms_partsBefore, .int a_terms_variablesBefore])), (a_terms_shapes, .inl (cs 0, a_terms_shapes_n, .inl a_terms_shapes_f)), (a_terms_values, .inl (cs 2, a_terms_values_n, .inr (.inl a_terms_values_f))), (a_terms_firstParts, .inl (cs 0, a_terms_firstParts_n, .inl a_terms_firstParts_f)), (a_terms_parts, .inr (1, [.ref a_terms_parts_items, .int a_terms_parts_size])), (a_terms_parts_items, .inl (cs 0, a_terms_parts_items_n, .inl a_terms_parts_items_f)), (a_terms_became, .inl (cs 0, a_terms_became_n, .inl a_terms_became_f)), (a_unifier, .inr (8, [.ref a_terms, .ref b_a_unifier_links, .ref b_a_unifier_states, .ref a_unifier_pairs, .ref a_unifier_joined, .ref a_unifier_seen, .ref a_unifier_path])), (b_a_unifier_links, .inl (cs 0, o_a_unifier_links_n, .inl o_a_unifier_links_f)), (b_a_unifier_states, .inl (cs 0, o_a_unifier_states_n, .inl o_a_unifier_states_f)), (a_unifier_pairs, .inr (1, [.ref b_a_unifier_pairs_items, .int o_a_unifier_pairs_size])), (b_a_unifier_pairs_items, .inl (cs 0, o_a_unifier_pairs_items_n, .inl o_a_unifier_pairs_items_f)), (a_unifier_joined, .inr (1, [.ref b_a_unifier_joined_items, .int o_a_unifier_joined_size])), (b_a_unifier_joined_items, .inl (cs 0, o_a_unifier_joined_items_n, .inl o_a_unifier_joined_items_f)), (a_unifier_seen, .inr (1, [.ref a_unifier_seen_items, .int o_a_unifier_seen_size])), (a_unifier_seen_items, .inl (cs 0, a_unifier_seen_items_n, .inl a_unifier_seen_items_f)), (a_unifier_path, .inr (1, [.ref a_unifier_path_items, .int o_a_unifier_path_size])), (a_registers, .inl (cs 0, a_registers_n, .inl a_registers_f))]) ∧ va_F (va_A [(a, .inr (9, [.ref a_tape, .ref a_names, .ref a_terms, .ref a_reader, .ref a_unifier, .ref a_printer, .ref a_registers, .ref a_marked, .int a_marks, .int a_place])), (a_terms, .inr (7, [.ref a_terms_shapes, .ref a_terms_values, .ref a_terms_firstParts, .int a_terms_nodes, .ref a_terms_parts, .ref a_terms_variableNames, .ref a_terms_became, .int a_terms_variables, .int a_terms_variablesLack, .int a_terms_symbols, .int a_terms_nodesBefore, .int a_terms_partsBefore, .int a_terms_variablesBefore])), (a_terms_shapes, .inl (cs 0, a_terms_shapes_n, .inl a_terms_shapes_f)), (a_terms_values, .inl (cs 2, a_terms_values_n, .inr (.inl a_terms_values_f))), (a_terms_firstParts, .inl (cs 0, a_terms_firstParts_n, .inl a_terms_firstParts_f)), (a_terms_parts, .inr (1, [.ref a_terms_parts_items, .int a_terms_parts_size])), (a_terms_parts_items, .inl (cs 0, a_terms_parts_items_n, .inl a_terms_parts_items_f)), (a_terms_became, .inl (cs 0, a_terms_became_n, .inl a_terms_became_f)), (a_unifier, .inr (8, [.ref a_terms, .ref a_unifier_links, .ref a_unifier_states, .ref a_unifier_pairs, .ref a_unifier_joined, .ref a_unifier_seen, .ref a_unifier_path])), (a_unifier_links, .inl (cs 0, a_unifier_links_n, .inl a_unifier_links_f)), (a_unifier_states, .inl (cs 0, a_unifier_states_n, .inl a_unifier_states_f)), (a_unifier_pairs, .inr (1, [.ref a_unifier_pairs_items, .int a_unifier_pairs_size])), (a_unifier_pairs_items, .inl (cs 0, a_unifier_pairs_items_n, .inl a_unifier_pairs_items_f)), (a_unifier_joined, .inr (1, [.ref a_unifier_joined_items, .int a_unifier_joined_size])), (a_unifier_joined_items, .inl (cs 0, a_unifier_joined_items_n, .inl a_unifier_joined_items_f)), (a_unifier_seen, .inr (1, [.ref a_unifier_seen_items, .int a_unifier_seen_size])), (a_unifier_seen_items, .inl (cs 0, a_unifier_seen_items_n, .inl a_unifier_seen_items_f)), (a_unifier_path, .inr (1, [.ref a_unifier_path_items, .int a_unifier_path_size])), (a_registers, .inl (cs 0, a_registers_n, .inl a_registers_f))] sz) st t) mc ms (va_A [(a, .inr (9, [.ref a_tape, .ref a_names, .ref a_terms, .ref a_reader, .ref a_unifier, .ref a_printer, .ref a_registers, .ref a_marked, .int a_marks, .int a_place])), (a_terms, .inr (7, [.ref a_terms_shapes, .ref a_terms_values, .ref a_terms_firstParts, .int a_terms_nodes, .ref a_terms_parts, .ref a_terms_variableNames, .ref a_terms_became, .int a_terms_variables, .int a_terms_variablesLack, .int a_terms_symbols, .int a_terms_nodesBefore, .int a_terms_partsBefore, .int a_terms_variablesBefore])), (a_terms_shapes, .inl (cs 0, a_terms_shapes_n, .inl a_terms_shapes_f)), (a_terms_values, .inl (cs 2, a_terms_values_n, .inr (.inl a_terms_values_f))), (a_terms_firstParts, .inl (cs 0, a_terms_firstParts_n, .inl a_terms_firstParts_f)), (a_terms_parts, .inr (1, [.ref a_terms_parts_items, .int a_terms_parts_size])), (a_terms_parts_items, .inl (cs 0, a_terms_parts_items_n, .inl a_terms_parts_items_f)), (a_terms_became, .inl (cs 0, a_terms_became_n, .inl a_terms_became_f)), (a_unifier, .inr (8, [.ref a_terms, .ref a_unifier_links, .ref a_unifier_states, .ref a_unifier_pairs, .ref a_unifier_joined, .ref a_unifier_seen, .ref a_unifier_path])), (a_unifier_links, .inl (cs 0, a_unifier_links_n, .inl a_unifier_links_f)), (a_unifier_states, .inl (cs 0, a_unifier_states_n, .inl a_unifier_states_f)), (a_unifier_pairs, .inr (1, [.ref a_unifier_pairs_items, .int a_unifier_pairs_size])), (a_unifier_pairs_items, .inl (cs 0, a_unifier_pairs_items_n, .inl a_unifier_pairs_items_f)), (a_unifier_joined, .inr (1, [.ref a_unifier_joined_items, .int a_unifier_joined_size])), (a_unifier_joined_items, .inl (cs 0, a_unifier_joined_items_n, .inl a_unifier_joined_items_f)), (a_unifier_seen, .inr (1, [.ref a_unifier_seen_items, .int a_unifier_seen_size])), (a_unifier_seen_items, .inl (cs 0, a_unifier_seen_items_n, .inl a_unifier_seen_items_f)), (a_unifier_path, .inr (1, [.ref a_unifier_path_items, .int a_unifier_path_size])), (a_registers, .inl (cs 0, a_registers_n, .inl a_registers_f))] sz) := by
  refine tx_ofW (cc := b_UB_same) (maxL := 3) (ret := (some .boolean)) (by decide) rfl ?_
  intro p e s m args below meth c s₁ B hml hv
  obtain ⟨rfl, hsz, hP, hK, hD0, hgl, hkn, hkr⟩ := hv
  have hx := B.exec
  have hb := B.bytes
  have hr := B.returns
  have hg : ∀ w ∈ GW, w.before ([.ref a, .int x, .int y] : List Value).toArray s = true := fun w hw => atoms_spec (ws := .code y_UB_same b_UB_same 3 (some .boolean) :: GW) B.pre w (List.mem_cons_of_mem _ hw)
  have hown : s.vm.findClass R_UB = some m.cls := findClass_of_methodNamed B.named
  have hlocks := B.notSynchronized
  have hcd : (Cond.code y_UB_same b_UB_same 3 (some .boolean)).before ([.ref a, .int x, .int y] : List Value).toArray s = true := atoms_spec (ws := .code y_UB_same b_UB_same 3 (some .boolean) :: GW) B.pre _ List.mem_cons_self
  subst hsz
  have hD := hD0.self (sz := s.heap.size)
  generalize hAe : va_A [(a, .inr (9, [.ref a_tape, .ref a_names, .ref a_terms, .ref a_reader, .ref a_unifier, .ref a_printer, .ref a_registers, .ref a_marked, .int a_marks, .int a_place])), (a_terms, .inr (7, [.ref a_terms_shapes, .ref a_terms_values, .ref a_terms_firstParts, .int a_terms_nodes, .ref a_terms_parts, .ref a_terms_variableNames, .ref a_terms_became, .int a_terms_variables, .int a_terms_variablesLack, .int a_terms_symbols, .int a_terms_nodesBefore, .int a_terms_partsBefore, .int a_terms_variablesBefore])), (a_terms_shapes, .inl (cs 0, a_terms_shapes_n, .inl a_terms_shapes_f)), (a_terms_values, .inl (cs 2, a_terms_values_n, .inr (.inl a_terms_values_f))), (a_terms_firstParts, .inl (cs 0, a_terms_firstParts_n, .inl a_terms_firstParts_f)), (a_terms_parts, .inr (1, [.ref a_terms_parts_items, .int a_terms_parts_size])), (a_terms_parts_items, .inl (cs 0, a_terms_parts_items_n, .inl a_terms_parts_items_f)), (a_terms_became, .inl (cs 0, a_terms_became_n, .inl a_terms_became_f)), (a_unifier, .inr (8, [.ref a_terms, .ref a_unifier_links, .ref a_unifier_states, .ref a_unifier_pairs, .ref a_unifier_joined, .ref a_unifier_seen, .ref a_unifier_path])), (a_unifier_links, .inl (cs 0, a_unifier_links_n, .inl a_unifier_links_f)), (a_unifier_states, .inl (cs 0, a_unifier_states_n, .inl a_unifier_states_f)), (a_unifier_pairs, .inr (1, [.ref a_unifier_pairs_items, .int a_unifier_pairs_size])), (a_unifier_pairs_items, .inl (cs 0, a_unifier_pairs_items_n, .inl a_unifier_pairs_items_f)), (a_unifier_joined, .inr (1, [.ref a_unifier_joined_items, .int a_unifier_joined_size])), (a_unifier_joined_items, .inl (cs 0, a_unifier_joined_items_n, .inl a_unifier_joined_items_f)), (a_unifier_seen, .inr (1, [.ref a_unifier_seen_items, .int a_unifier_seen_size])), (a_unifier_seen_items, .inl (cs 0, a_unifier_seen_items_n, .inl a_unifier_seen_items_f)), (a_unifier_path, .inr (1, [.ref a_unifier_path_items, .int a_unifier_path_size])), (a_registers, .inl (cs 0, a_registers_n, .inl a_registers_f))] s.heap.size = A at hD hkn ⊢
  have hA : ∀ q : Nat, s.heap.size ≤ q → A q := fun q h => by rw [← hAe]; exact Or.inr h
  have hS : va_S A s.heap s.heap [] := va_S.rf
  have hP : va_P g classes [(a, .inr (9, [.ref a_tape, .ref a_names, .ref a_terms, .ref a_reader, .ref a_unifier, .ref a_printer, .ref a_registers, .ref a_marked, .int a_marks, .int a_place])), (a_terms, .inr (7, [.ref a_terms_shapes, .ref a_terms_values, .ref a_terms_firstParts, .int a_terms_nodes, .ref a_terms_parts, .ref a_terms_variableNames, .ref a_terms_became, .int a_terms_variables, .int a_terms_variablesLack, .int a_terms_symbols, .int a_terms_nodesBefore, .int a_terms_partsBefore, .int a_terms_variablesBefore])), (a_terms_shapes, .inl (cs 0, a_terms_shapes_n, .inl a_terms_shapes_f)), (a_terms_values, .inl (cs 2, a_terms_values_n, .inr (.inl a_terms_values_f))), (a_terms_firstParts, .inl (cs 0, a_terms_firstParts_n, .inl a_terms_firstParts_f)), (a_terms_parts, .inr (1, [.ref a_terms_parts_items, .int a_terms_parts_size])), (a_terms_parts_items, .inl (cs 0, a_terms_parts_items_n, .inl a_terms_parts_items_f)), (a_terms_became, .inl (cs 0, a_terms_became_n, .inl a_terms_became_f)), (a_unifier, .inr (8, [.ref a_terms, .ref a_unifier_links, .ref a_unifier_states, .ref a_unifier_pairs, .ref a_unifier_joined, .ref a_unifier_seen, .ref a_unifier_path])), (a_unifier_links, .inl (cs 0, a_unifier_links_n, .inl a_unifier_links_f)), (a_unifier_states, .inl (cs 0, a_unifier_states_n, .inl a_unifier_states_f)), (a_unifier_pairs, .inr (1, [.ref a_unifier_pairs_items, .int a_unifier_pairs_size])), (a_unifier_pairs_items, .inl (cs 0, a_unifier_pairs_items_n, .inl a_unifier_pairs_items_f)), (a_unifier_joined, .inr (1, [.ref a_unifier_joined_items, .int a_unifier_joined_size])), (a_unifier_joined_items, .inl (cs 0, a_unifier_joined_items_n, .inl a_unifier_joined_items_f)), (a_unifier_seen, .inr (1, [.ref a_unifier_seen_items, .int a_unifier_seen_size])), (a_unifier_seen_items, .inl (cs 0, a_unifier_seen_items_n, .inl a_unifier_seen_items_f)), (a_unifier_path, .inr (1, [.ref a_unifier_path_items, .int a_unifier_path_size])), (a_registers, .inl (cs 0, a_registers_n, .inl a_registers_f))] s.heap := hP
  have hl := lv_entry ([.ref a, .int x, .int y]) (n := 3) (Nat.le_of_ble_eq_true rfl)
  rw [lg_entry_eq]
  generalize (lg_sl ([.ref a, .int x, .int y]) ++ List.replicate (3 - (lg_sl ([.ref a, .int x, .int y])).length) Slot.unset).toArray = ls at hl ⊢
  have hl : lv_has ls 3 [(0, .ref a), (1, .int x), (2, .int y)] := hl
  refine gq (fun Q hQ => ?_)
  obtain ⟨H, hH⟩ : ∃ H : Heap, H = s.heap := ⟨_, rfl⟩
  rw [← hH] at hP
  have hS : va_S A s.heap H [] := by rw [hH]; exact hS
  refine W.eqH hH ?_
  obtain ⟨locs, hlc⟩ : ∃ L : List Loc, L = [] := ⟨_, rfl⟩
  rw [← hlc] at hS ⊢
  unfold p_UB_same at hok
  refine lv_iload_n hx hb d_UB_same_0 rfl (lv_at hl 1 rfl) ?_
  obtain ⟨⟨xc1, mk1, sk1⟩, hc1, hok⟩ := bd_some hok
  dsimp only at hok
  obtain ⟨m1, s1, hok, hmc1, hms1⟩ := al_some hok
  obtain ⟨hPc, hDc, hFc⟩ := cut0 (wc := []) hP hD hS hA [] (by decide) rfl
  rw [hQ]
  refine tx_call (A1 := va_A [] H.size) (tx_runS (As := [.int x]) (rest := []) ⟨hx, hb, hml, hown, hg⟩ (c_UB_checkRegister l g cs ka hfl H.size x xc1 mk1 sk1 hc1) (va_cwS 1 hg (gw_S wd_656 wd_657 wd_632 wd_655) rfl rfl rfl (by decide +kernel) ⟨Nat.le_of_ble_eq_true rfl, Nat.le_of_ble_eq_true rfl⟩) ⟨gP_blind, gP_pre hPc hDc hK hgl hkn hkr hS hFc⟩ rfl rfl hl.1 rfl (lv_room (Nat.le_of_ble_eq_true rfl)) d_UB_same_1 ⟨show 0 + mk1 ≤ mc from by omega, show 0 + sk1 ≤ ms from by omega⟩) hS (fun st o t h0 hq => hq.2) (fun q _ h => hFc q h) hFc hlocks (tx_noH B hcd 1) (fun v1 st₀ t H locs h0 ht hW hB hz1 hk1 hS => ?_) (fun x1 st₀ t H locs h0 ht hB hz1 hk1 hS => ?_)
  · obtain ⟨⟨hO, hB⟩, -⟩ := hB
    obtain ⟨hx1, hv1⟩ := hO.ret
    subst hv1
    rw [if_pos hx1] at hok
    rw [ht] at hB
    obtain ⟨hP1, hD1⟩ := hB
    obtain ⟨hP, hD⟩ := jn_A hP hD [] [0, 1, 2, 3, 4, 5, 6, 7, 8, 9, 10, 11, 12, 13, 14, 15, 16, 17, 18] rfl rfl (by decide) (by decide) hk1 hFc hP1 hD1
    obtain ⟨hP, hD⟩ : PD g A H [(a, .inr (9, [.ref a_tape, .ref a_names, .ref a_terms, .ref a_reader, .ref a_unifier, .ref a_printer, .ref a_registers, .ref a_marked, .int a_marks, .int a_place])), (a_terms, .inr (7, [.ref a_terms_shapes, .ref a_terms_values, .ref a_terms_firstParts, .int a_terms_nodes, .ref a_terms_parts, .ref a_terms_variableNames, .ref a_terms_became, .int a_terms_variables, .int a_terms_variablesLack, .int a_terms_symbols, .int a_terms_nodesBefore, .int a_terms_partsBefore, .int a_terms_variablesBefore])), (a_terms_shapes, .inl (cs 0, a_terms_shapes_n, .inl a_terms_shapes_f)), (a_terms_values, .inl (cs 2, a_terms_values_n, .inr (.inl a_terms_values_f))), (a_terms_firstParts, .inl (cs 0, a_terms_firstParts_n, .inl a_terms_firstParts_f)), (a_terms_parts, .inr (1, [.ref a_terms_parts_items, .int a_terms_parts_size])), (a_terms_parts_items, .inl (cs 0, a_terms_parts_items_n, .inl a_terms_parts_items_f)), (a_terms_became, .inl (cs 0, a_terms_became_n, .inl a_terms_became_f)), (a_unifier, .inr (8, [.ref a_terms, .ref a_unifier_links, .ref a_unifier_states, .ref a_unifier_pairs, .ref a_unifier_joined, .ref a_unifier_seen, .ref a_unifier_path])), (a_unifier_links, .inl (cs 0, a_unifier_links_n, .inl a_unifier_links_f)), (a_unifier_states, .inl (cs 0, a_unifier_states_n, .inl a_unifier_states_f)), (a_unifier_pairs, .inr (1, [.ref a_unifier_pairs_items, .int a_unifier_pairs_size])), (a_unifier_pairs_items, .inl (cs 0, a_unifier_pairs_items_n, .inl a_unifier_pairs_items_f)), (a_unifier_joined, .inr (1, [.ref a_unifier_joined_items, .int a_unifier_joined_size])), (a_unifier_joined_items, .inl (cs 0, a_unifier_joined_items_n, .inl a_unifier_joined_items_f)), (a_unifier_seen, .inr (1, [.ref a_unifier_seen_items, .int a_unifier_seen_size])), (a_unifier_seen_items, .inl (cs 0, a_unifier_seen_items_n, .inl a_unifier_seen_items_f)), (a_unifier_path, .inr (1, [.ref a_unifier_path_items, .int a_unifier_path_size])), (a_registers, .inl (cs 0, a_registers_n, .inl a_registers_f))] := ⟨hP, hD⟩
    rw [← hQ]
    refine W.eq (g2 := F0 m 4 ls []) rfl ?_
    refine lv_iload_n hx hb d_UB_same_4 rfl (lv_at hl 2 rfl) ?_
    obtain ⟨⟨xc2, mk2, sk2⟩, hc2, hok⟩ := bd_some hok
    dsimp only at hok
    obtain ⟨m2, s2, hok, hmc2, hms2⟩ := al_some hok
    obtain ⟨hPc, hDc, hFc⟩ := cut0 (wc := []) hP hD hS hA [] (by decide) rfl
    rw [hQ]
    refine tx_call (A1 := va_A [] H.size) (tx_runS (As := [.int y]) (rest := []) ⟨hx, hb, hml, hown, hg⟩ (c_UB_checkRegister l g cs ka hfl H.size y xc2 mk2 sk2 hc2) (va_cwS 1 hg (gw_S wd_656 wd_657 wd_632 wd_655) rfl rfl rfl (by decide +kernel) ⟨Nat.le_of_ble_eq_true rfl, Nat.le_of_ble_eq_true rfl⟩) ⟨gP_blind, gP_pre hPc hDc hK hgl hkn hkr hS hFc⟩ rfl rfl hl.1 rfl (lv_room (Nat.le_of_ble_eq_true rfl)) d_UB_same_5 ⟨show 0 + mk1 + mk2 ≤ mc from by omega, show 0 + sk1 + sk2 ≤ ms from by omega⟩) hS (fun st o t h0 hq => hq.2) (fun q _ h => hFc q h) hFc hlocks (tx_noH B hcd 5) (fun v2 st₀ t H locs h0 ht hW hB hz1 hk1 hS => ?_) (fun x2 st₀ t H locs h0 ht hB hz1 hk1 hS => ?_)
    · obtain ⟨⟨hO, hB⟩, -⟩ := hB
      obtain ⟨hx2, hv2⟩ := hO.ret
      subst hv2
      rw [if_pos hx2] at hok
      rw [ht] at hB
      obtain ⟨hP1, hD1⟩ := hB
      obtain ⟨hP, hD⟩ := jn_A hP hD [] [0, 1, 2, 3, 4, 5, 6, 7, 8, 9, 10, 11, 12, 13, 14, 15, 16, 17, 18] rfl rfl (by decide) (by decide) hk1 hFc hP1 hD1
      obtain ⟨hP, hD⟩ : PD g A H [(a, .inr (9, [.ref a_tape, .ref a_names, .ref a_terms, .ref a_reader, .ref a_unifier, .ref a_printer, .ref a_registers, .ref a_marked, .int a_marks, .int a_place])), (a_terms, .inr (7, [.ref a_terms_shapes, .ref a_terms_values, .ref a_terms_firstParts, .int a_terms_nodes, .ref a_terms_parts, .ref a_terms_variableNames, .ref a_terms_became, .int a_terms_variables, .int a_terms_variablesLack, .int a_terms_symbols, .int a_terms_nodesBefore, .int a_terms_partsBefore, .int a_terms_variablesBefore])), (a_terms_shapes, .inl (cs 0, a_terms_shapes_n, .inl a_terms_shapes_f)), (a_terms_values, .inl (cs 2, a_terms_values_n, .inr (.inl a_terms_values_f))), (a_terms_firstParts, .inl (cs 0, a_terms_firstParts_n, .inl a_terms_firstParts_f)), (a_terms_parts, .inr (1, [.ref a_terms_parts_items, .int a_terms_parts_size])), (a_terms_parts_items, .inl (cs 0, a_terms_parts_items_n, .inl a_terms_parts_items_f)), (a_terms_became, .inl (cs 0, a_terms_became_n, .inl a_terms_became_f)), (a_unifier, .inr (8, [.ref a_terms, .ref a_unifier_links, .ref a_unifier_states, .ref a_unifier_pairs, .ref a_unifier_joined, .ref a_unifier_seen, .ref a_unifier_path])), (a_unifier_links, .inl (cs 0, a_unifier_links_n, .inl a_unifier_links_f)), (a_unifier_states, .inl (cs 0, a_unifier_states_n, .inl a_unifier_states_f)), (a_unifier_pairs, .inr (1, [.ref a_unifier_pairs_items, .int a_unifier_pairs_size])), (a_unifier_pairs_items, .inl (cs 0, a_unifier_pairs_items_n, .inl a_unifier_pairs_items_f)), (a_unifier_joined, .inr (1, [.ref a_unifier_joined_items, .int a_unifier_joined_size])), (a_unifier_joined_items, .inl (cs 0, a_unifier_joined_items_n, .inl a_unifier_joined_items_f)), (a_unifier_seen, .inr (1, [.ref a_unifier_seen_items, .int a_unifier_seen_size])), (a_unifier_seen_items, .inl (cs 0, a_unifier_seen_items_n, .inl a_unifier_seen_items_f)), (a_unifier_path, .inr (1, [.ref a_unifier_path_items, .int a_unifier_path_size])), (a_registers, .inl (cs 0, a_registers_n, .inl a_registers_f))] := ⟨hP, hD⟩
      rw [← hQ]
      refine W.eq (g2 := F0 m 8 ls []) rfl ?_
      refine lv_aload_n hx hb d_UB_same_8 rfl (lv_at hl 0 rfl) ?_
      refine va_get (D := g) (ci := 9) (v := .ref a_unifier) (C := R_UB) (T := F_UB) (N := 10) hx hb hg ul_UB hown hK hP 0 rfl rfl 4 (by decide) (hg _ wd_658) (fun _ h9 => h9) rfl d_UB_same_9 ?_
      refine lv_aload_n hx hb d_UB_same_12 rfl (lv_at hl 0 rfl) ?_
      refine va_get (D := g) (ci := 9) (v := .ref a_registers) (C := R_UB) (T := F_UB) (N := 10) hx hb hg ul_UB hown hK hP 0 rfl rfl 6 (by decide) (hg _ wd_646) (fun _ h9 => h9) rfl d_UB_same_13 ?_
      refine lv_iload_n hx hb d_UB_same_16 rfl (lv_at hl 1 rfl) ?_
      obtain ⟨hi3, hok⟩ := ck_some hok
      refine va_iald hx hb hK hP 18 0 rfl rfl (ixb_in hi3) d_UB_same_17 ?_
      refine lv_aload_n hx hb d_UB_same_18 rfl (lv_at hl 0 rfl) ?_
      refine va_get (D := g) (ci := 9) (v := .ref a_registers) (C := R_UB) (T := F_UB) (N := 10) hx hb hg ul_UB hown hK hP 0 rfl rfl 6 (by decide) (hg _ wd_646) (fun _ h9 => h9) rfl d_UB_same_19 ?_
      refine lv_iload_n hx hb d_UB_same_22 rfl (lv_at hl 2 rfl) ?_
      obtain ⟨hi4, hok⟩ := ck_some hok
      refine va_iald hx hb hK hP 18 0 rfl rfl (ixb_in hi4) d_UB_same_23 ?_
      obtain ⟨⟨⟨r5, a_links_n_5, a_links_f_5, a_states_n_5, a_states_f_5, a_pairs_size_5, a_pairs_items_n_5, a_pairs_items_f_5, a_joined_size_5, a_joined_items_n_5, a_joined_items_f_5, a_seen_size_5, a_path_size_5⟩, mk5, sk5⟩, hc5, hok⟩ := bd_some hok
      dsimp only at hok
      obtain ⟨m5, s5, hok, hmc5, hms5⟩ := al_some hok
      obtain ⟨hPc, hDc, hFc⟩ := cut0 (wc := [(a_unifier, .inr (8, [.ref a_terms, .ref a_unifier_links, .ref a_unifier_states, .ref a_unifier_pairs, .ref a_unifier_joined, .ref a_unifier_seen, .ref a_unifier_path])), (a_terms, .inr (7, [.ref a_terms_shapes, .ref a_terms_values, .ref a_terms_firstParts, .int a_terms_nodes, .ref a_terms_parts, .ref a_terms_variableNames, .ref a_terms_became, .int a_terms_variables, .int a_terms_variablesLack, .int a_terms_symbols, .int a_terms_nodesBefore, .int a_terms_partsBefore, .int a_terms_variablesBefore])), (a_terms_shapes, .inl (cs 0, a_terms_shapes_n, .inl a_terms_shapes_f)), (a_terms_values, .inl (cs 2, a_terms_values_n, .inr (.inl a_terms_values_f))), (a_terms_firstParts, .inl (cs 0, a_terms_firstParts_n, .inl a_terms_firstParts_f)), (a_terms_parts, .inr (1, [.ref a_terms_parts_items, .int a_terms_parts_size])), (a_terms_parts_items, .inl (cs 0, a_terms_parts_items_n, .inl a_terms_parts_items_f)), (a_terms_became, .inl (cs 0, a_terms_became_n, .inl a_terms_became_f)), (a_unifier_links, .inl (cs 0, a_unifier_links_n, .inl a_unifier_links_f)), (a_unifier_states, .inl (cs 0, a_unifier_states_n, .inl a_unifier_states_f)), (a_unifier_pairs, .inr (1, [.ref a_unifier_pairs_items, .int a_unifier_pairs_size])), (a_unifier_pairs_items, .inl (cs 0, a_unifier_pairs_items_n, .inl a_unifier_pairs_items_f)), (a_unifier_joined, .inr (1, [.ref a_unifier_joined_items, .int a_unifier_joined_size])), (a_unifier_joined_items, .inl (cs 0, a_unifier_joined_items_n, .inl a_unifier_joined_items_f)), (a_unifier_seen, .inr (1, [.ref a_unifier_seen_items, .int a_unifier_seen_size])), (a_unifier_seen_items, .inl (cs 0, a_unifier_seen_items_n, .inl a_unifier_seen_items_f)), (a_unifier_path, .inr (1, [.ref a_unifier_path_items, .int a_unifier_path_size]))]) hP hD hS hA [8, 1, 2, 3, 4, 5, 6, 7, 9, 10, 11, 12, 13, 14, 15, 16, 17] (by decide) rfl
      refine va_calli (va_runV (As := [.int (a_registers_f x.toNatClampNeg), .int (a_registers_f y.toNatClampNeg)]) (rest := []) ⟨hx, hb, hml, hown, hg⟩ (c_Unifier_areSame l g cs ka a_terms_variableNames a_unifier_path_items a_unifier a_terms a_terms_shapes a_terms_values a_terms_firstParts a_terms_parts a_terms_parts_items a_terms_became a_unifier_links a_unifier_states a_unifier_pairs a_unifier_pairs_items a_unifier_joined a_unifier_joined_items a_unifier_seen a_unifier_seen_items a_unifier_path H.size n (a_registers_f x.toNatClampNeg) (a_registers_f y.toNatClampNeg) a_terms_nodes a_terms_variables a_terms_variablesLack a_terms_symbols a_terms_nodesBefore a_terms_partsBefore a_terms_variablesBefore a_terms_shapes_n a_terms_shapes_f a_terms_values_n a_terms_values_f a_terms_firstParts_n a_terms_firstParts_f a_terms_parts_size a_terms_parts_items_n a_terms_parts_items_f a_terms_became_n a_terms_became_f a_unifier_links_n a_unifier_links_f a_unifier_states_n a_unifier_states_f a_unifier_pairs_size a_unifier_pairs_items_n a_unifier_pairs_items_f a_unifier_joined_size a_unifier_joined_items_n a_unifier_joined_items_f a_unifier_seen_size a_unifier_seen_items_n a_unifier_seen_items_f a_unifier_path_size r5 a_links_n_5 a_links_f_5 a_states_n_5 a_states_f_5 a_pairs_size_5 a_pairs_items_n_5 a_pairs_items_f_5 a_joined_size_5 a_joined_items_n_5 a_joined_items_f_5 a_seen_size_5 a_path_size_5 mk5 sk5 hc5) (cwV (C := R_Unifier) 2 hg (gw_V wd_664 wd_665 wd_666 wd_350 wd_663) rfl rfl rfl (by decide +kernel) ⟨Nat.le_of_ble_eq_true rfl, Nat.le_of_ble_eq_true rfl⟩) ⟨gP_blind, va_recv (q0 := 8) (ci := 8) (q := (R_Unifier, F_Unifier, 7)) hK hP rfl rfl, gP_pre hPc hDc hK hgl hkn hkr hS hFc⟩ rfl rfl hl.1 rfl (lv_room (Nat.le_of_ble_eq_true rfl)) d_UB_same_24 ⟨show 0 + mk1 + mk2 + mk5 ≤ mc from by omega, show 0 + sk1 + sk2 + sk5 ≤ ms from by omega⟩) hS (fun q _ h => hFc q h) hFc (fun r5' u t H locs ht hvm hr5 hB hz1 hk1 hS => ?_)
      subst hr5
      rw [ht] at hB
      obtain ⟨a_links_5, a_states_5, a_pairs_items_5, a_joined_items_5, hP1, hD1⟩ := hB
      obtain ⟨hP, hD⟩ := jn_A hP hD [8, 1, 2, 3, 4, 5, 6, 7, 9, 10, 11, 12, 13, 14, 15, 16, 17] [0, 18] rfl rfl (by decide) (by decide) hk1 hFc hP1 hD1
      obtain ⟨hP, hD⟩ : PD g A H [(a, .inr (9, [.ref a_tape, .ref a_names, .ref a_terms, .ref a_reader, .ref a_unifier, .ref a_printer, .ref a_registers, .ref a_marked, .int a_marks, .int a_place])), (a_registers, .inl (cs 0, a_registers_n, .inl a_registers_f)), (a_unifier, .inr (8, [.ref a_terms, .ref a_links_5, .ref a_states_5, .ref a_unifier_pairs, .ref a_unifier_joined, .ref a_unifier_seen, .ref a_unifier_path])), (a_terms, .inr (7, [.ref a_terms_shapes, .ref a_terms_values, .ref a_terms_firstParts, .int a_terms_nodes, .ref a_terms_parts, .ref a_terms_variableNames, .ref a_terms_became, .int a_terms_variables, .int a_terms_variablesLack, .int a_terms_symbols, .int a_terms_nodesBefore, .int a_terms_partsBefore, .int a_terms_variablesBefore])), (a_terms_shapes, .inl (cs 0, a_terms_shapes_n, .inl a_terms_shapes_f)), (a_terms_values, .inl (cs 2, a_terms_values_n, .inr (.inl a_terms_values_f))), (a_terms_firstParts, .inl (cs 0, a_terms_firstParts_n, .inl a_terms_firstParts_f)), (a_terms_parts, .inr (1, [.ref a_terms_parts_items, .int a_terms_parts_size])), (a_terms_parts_items, .inl (cs 0, a_terms_parts_items_n, .inl a_terms_parts_items_f)), (a_terms_became, .inl (cs 0, a_terms_became_n, .inl a_terms_became_f)), (a_links_5, .inl (cs 0, a_links_n_5, .inl a_links_f_5)), (a_states_5, .inl (cs 0, a_states_n_5, .inl a_states_f_5)), (a_unifier_pairs, .inr (1, [.ref a_pairs_items_5, .int a_pairs_size_5])), (a_pairs_items_5, .inl (cs 0, a_pairs_items_n_5, .inl a_pairs_items_f_5)), (a_unifier_joined, .inr (1, [.ref a_joined_items_5, .int a_joined_size_5])), (a_joined_items_5, .inl (cs 0, a_joined_items_n_5, .inl a_joined_items_f_5)), (a_unifier_seen, .inr (1, [.ref a_unifier_seen_items, .int a_seen_size_5])), (a_unifier_seen_items, .inl (cs 0, a_unifier_seen_items_n, .inl a_unifier_seen_items_f)), (a_unifier_path, .inr (1, [.ref a_unifier_path_items, .int a_path_size_5]))] := ⟨hP, hD⟩
      obtain ⟨hzb, hok⟩ := ck_some hok
      obtain ⟨hq, hw⟩ := Prod.mk.inj (Option.some.inj hok)
      obtain ⟨hmc0, hms0⟩ := Prod.mk.inj hw
      obtain ⟨hq0, hq⟩ := Prod.mk.inj hq
      obtain ⟨hq1, hq⟩ := Prod.mk.inj hq
      obtain ⟨hq2, hq⟩ := Prod.mk.inj hq
      obtain ⟨hq3, hq⟩ := Prod.mk.inj hq
      obtain ⟨hq4, hq⟩ := Prod.mk.inj hq
      obtain ⟨hq5, hq⟩ := Prod.mk.inj hq
      obtain ⟨hq6, hq⟩ := Prod.mk.inj hq
      obtain ⟨hq7, hq⟩ := Prod.mk.inj hq
      obtain ⟨hq8, hq⟩ := Prod.mk.inj hq
      obtain ⟨hq9, hq⟩ := Prod.mk.inj hq
      obtain ⟨hq10, hq⟩ := Prod.mk.inj hq
      obtain ⟨hq11, hq⟩ := Prod.mk.inj hq
      obtain ⟨hq12, hq⟩ := Prod.mk.inj hq
      have hq13 := hq
      subst hq0
      subst hq1
      subst hq2
      subst hq3
      subst hq4
      subst hq5
      subst hq6
      subst hq7
      subst hq8
      subst hq9
      subst hq10
      subst hq11
      subst hq12
      subst hq13
      obtain ⟨hP9, hD9⟩ := sub2 (ws' := [(a, .inr (9, [.ref a_tape, .ref a_names, .ref a_terms, .ref a_reader, .ref a_unifier, .ref a_printer, .ref a_registers, .ref a_marked, .int a_marks, .int a_place])), (a_terms, .inr (7, [.ref a_terms_shapes, .ref a_terms_values, .ref a_terms_firstParts, .int a_terms_nodes, .ref a_terms_parts, .ref a_terms_variableNames, .ref a_terms_became, .int a_terms_variables, .int a_terms_variablesLack, .int a_terms_symbols, .int a_terms_nodesBefore, .int a_terms_partsBefore, .int a_terms_variablesBefore])), (a_terms_shapes, .inl (cs 0, a_terms_shapes_n, .inl a_terms_shapes_f)), (a_terms_values, .inl (cs 2, a_terms_values_n, .inr (.inl a_terms_values_f))), (a_terms_firstParts, .inl (cs 0, a_terms_firstParts_n, .inl a_terms_firstParts_f)), (a_terms_parts, .inr (1, [.ref a_terms_parts_items, .int a_terms_parts_size])), (a_terms_parts_items, .inl (cs 0, a_terms_parts_items_n, .inl a_terms_parts_items_f)), (a_terms_became, .inl (cs 0, a_terms_became_n, .inl a_terms_became_f)), (a_unifier, .inr (8, [.ref a_terms, .ref a_links_5, .ref a_states_5, .ref a_unifier_pairs, .ref a_unifier_joined, .ref a_unifier_seen, .ref a_unifier_path])), (a_links_5, .inl (cs 0, a_links_n_5, .inl a_links_f_5)), (a_states_5, .inl (cs 0, a_states_n_5, .inl a_states_f_5)), (a_unifier_pairs, .inr (1, [.ref a_pairs_items_5, .int a_pairs_size_5])), (a_pairs_items_5, .inl (cs 0, a_pairs_items_n_5, .inl a_pairs_items_f_5)), (a_unifier_joined, .inr (1, [.ref a_joined_items_5, .int a_joined_size_5])), (a_joined_items_5, .inl (cs 0, a_joined_items_n_5, .inl a_joined_items_f_5)), (a_unifier_seen, .inr (1, [.ref a_unifier_seen_items, .int a_seen_size_5])), (a_unifier_seen_items, .inl (cs 0, a_unifier_seen_items_n, .inl a_unifier_seen_items_f)), (a_unifier_path, .inr (1, [.ref a_unifier_path_items, .int a_path_size_5])), (a_registers, .inl (cs 0, a_registers_n, .inl a_registers_f))]) hP hD [0, 3, 4, 5, 6, 7, 8, 9, 2, 10, 11, 12, 13, 14, 15, 16, 17, 18, 1] rfl (by decide) rfl
      refine W.widen (k := mc) (n := ms) (by omega) (by omega) ?_
      rw [hQ]
      exact tx_ret (W.zret (v := r5) hx hb hr (zab_in hzb).1 (fun t ht hW => ⟨⟨tx_O.r0, a_links_5, a_states_5, a_pairs_items_5, a_joined_items_5, by rw [ht]; exact hP9, hD9⟩, hS.F ht⟩) hS.2.2 d_UB_same_27)
    · obtain ⟨⟨hO, hB⟩, -⟩ := hB
      obtain ⟨hx2, hX⟩ := hO.thr
      rw [if_neg hx2] at hok
      rw [ht] at hB
      obtain ⟨hP1, hD1⟩ := hB
      obtain ⟨hP, hD⟩ := jn_A hP hD [] [0, 1, 2, 3, 4, 5, 6, 7, 8, 9, 10, 11, 12, 13, 14, 15, 16, 17, 18] rfl rfl (by decide) (by decide) hk1 hFc hP1 hD1
      obtain ⟨hq, hw⟩ := Prod.mk.inj (Option.some.inj hok)
      obtain ⟨hmc0, hms0⟩ := Prod.mk.inj hw
      obtain ⟨hq0, hq⟩ := Prod.mk.inj hq
      obtain ⟨hq1, hq⟩ := Prod.mk.inj hq
      obtain ⟨hq2, hq⟩ := Prod.mk.inj hq
      obtain ⟨hq3, hq⟩ := Prod.mk.inj hq
      obtain ⟨hq4, hq⟩ := Prod.mk.inj hq
      obtain ⟨hq5, hq⟩ := Prod.mk.inj hq
      obtain ⟨hq6, hq⟩ := Prod.mk.inj hq
      obtain ⟨hq7, hq⟩ := Prod.mk.inj hq
      obtain ⟨hq8, hq⟩ := Prod.mk.inj hq
      obtain ⟨hq9, hq⟩ := Prod.mk.inj hq
      obtain ⟨hq10, hq⟩ := Prod.mk.inj hq
      obtain ⟨hq11, hq⟩ := Prod.mk.inj hq
      obtain ⟨hq12, hq⟩ := Prod.mk.inj hq
      have hq13 := hq
      subst hq0
      subst hq1
      subst hq2
      subst hq3
      subst hq4
      subst hq5
      subst hq6
      subst hq7
      subst hq8
      subst hq9
      subst hq10
      subst hq11
      subst hq12
      subst hq13
      obtain ⟨hP9, hD9⟩ := sub2 (ws' := [(a, .inr (9, [.ref a_tape, .ref a_names, .ref a_terms, .ref a_reader, .ref a_unifier, .ref a_printer, .ref a_registers, .ref a_marked, .int a_marks, .int a_place])), (a_terms, .inr (7, [.ref a_terms_shapes, .ref a_terms_values, .ref a_terms_firstParts, .int a_terms_nodes, .ref a_terms_parts, .ref a_terms_variableNames, .ref a_terms_became, .int a_terms_variables, .int a_terms_variablesLack, .int a_terms_symbols, .int a_terms_nodesBefore, .int a_terms_partsBefore, .int a_terms_variablesBefore])), (a_terms_shapes, .inl (cs 0, a_terms_shapes_n, .inl a_terms_shapes_f)), (a_terms_values, .inl (cs 2, a_terms_values_n, .inr (.inl a_terms_values_f))), (a_terms_firstParts, .inl (cs 0, a_terms_firstParts_n, .inl a_terms_firstParts_f)), (a_terms_parts, .inr (1, [.ref a_terms_parts_items, .int a_terms_parts_size])), (a_terms_parts_items, .inl (cs 0, a_terms_parts_items_n, .inl a_terms_parts_items_f)), (a_terms_became, .inl (cs 0, a_terms_became_n, .inl a_terms_became_f)), (a_unifier, .inr (8, [.ref a_terms, .ref a_unifier_links, .ref a_unifier_states, .ref a_unifier_pairs, .ref a_unifier_joined, .ref a_unifier_seen, .ref a_unifier_path])), (a_unifier_links, .inl (cs 0, a_unifier_links_n, .inl a_unifier_links_f)), (a_unifier_states, .inl (cs 0, a_unifier_states_n, .inl a_unifier_states_f)), (a_unifier_pairs, .inr (1, [.ref a_unifier_pairs_items, .int a_unifier_pairs_size])), (a_unifier_pairs_items, .inl (cs 0, a_unifier_pairs_items_n, .inl a_unifier_pairs_items_f)), (a_unifier_joined, .inr (1, [.ref a_unifier_joined_items, .int a_unifier_joined_size])), (a_unifier_joined_items, .inl (cs 0, a_unifier_joined_items_n, .inl a_unifier_joined_items_f)), (a_unifier_seen, .inr (1, [.ref a_unifier_seen_items, .int a_unifier_seen_size])), (a_unifier_seen_items, .inl (cs 0, a_unifier_seen_items_n, .inl a_unifier_seen_items_f)), (a_unifier_path, .inr (1, [.ref a_unifier_path_items, .int a_unifier_path_size])), (a_registers, .inl (cs 0, a_registers_n, .inl a_registers_f))]) hP hD [0, 1, 2, 3, 4, 5, 6, 7, 8, 9, 10, 11, 12, 13, 14, 15, 16, 17, 18] rfl (by decide) rfl
      exact ⟨fun t' ht' hv' hW' => ⟨⟨tx_O.t0 hx2 (hX.moved (ht.trans ht'.symm) hv'), a_unifier_links, a_unifier_states, a_unifier_pairs_items, a_unifier_joined_items, by rw [ht']; exact hP9, hD9⟩, hS.F ht'⟩, hS.2.2, by omega, by omega⟩
  · obtain ⟨⟨hO, hB⟩, -⟩ := hB
    obtain ⟨hx1, hX⟩ := hO.thr
    rw [if_neg hx1] at hok
    rw [ht] at hB
    obtain ⟨hP1, hD1⟩ := hB
    obtain ⟨hP, hD⟩ := jn_A hP hD [] [0, 1, 2, 3, 4, 5, 6, 7, 8, 9, 10, 11, 12, 13, 14, 15, 16, 17, 18] rfl rfl (by decide) (by decide) hk1 hFc hP1 hD1
    obtain ⟨hq, hw⟩ := Prod.mk.inj (Option.some.inj hok)
    obtain ⟨hmc0, hms0⟩ := Prod.mk.inj hw
    obtain ⟨hq0, hq⟩ := Prod.mk.inj hq
    obtain ⟨hq1, hq⟩ := Prod.mk.inj hq
    obtain ⟨hq2, hq⟩ := Prod.mk.inj hq
    obtain ⟨hq3, hq⟩ := Prod.mk.inj hq
    obtain ⟨hq4, hq⟩ := Prod.mk.inj hq
    obtain ⟨hq5, hq⟩ := Prod.mk.inj hq
    obtain ⟨hq6, hq⟩ := Prod.mk.inj hq
    obtain ⟨hq7, hq⟩ := Prod.mk.inj hq
    obtain ⟨hq8, hq⟩ := Prod.mk.inj hq
    obtain ⟨hq9, hq⟩ := Prod.mk.inj hq
    obtain ⟨hq10, hq⟩ := Prod.mk.inj hq
    obtain ⟨hq11, hq⟩ := Prod.mk.inj hq
    obtain ⟨hq12, hq⟩ := Prod.mk.inj hq
    have hq13 := hq
    subst hq0
    subst hq1
    subst hq2
    subst hq3
    subst hq4
    subst hq5
    subst hq6
    subst hq7
    subst hq8
    subst hq9
    subst hq10
    subst hq11
    subst hq12
    subst hq13
    obtain ⟨hP9, hD9⟩ := sub2 (ws' := [(a, .inr (9, [.ref a_tape, .ref a_names, .ref a_terms, .ref a_reader, .ref a_unifier, .ref a_printer, .ref a_registers, .ref a_marked, .int a_marks, .int a_place])), (a_terms, .inr (7, [.ref a_terms_shapes, .ref a_terms_values, .ref a_terms_firstParts, .int a_terms_nodes, .ref a_terms_parts, .ref a_terms_variableNames, .ref a_terms_became, .int a_terms_variables, .int a_terms_variablesLack, .int a_terms_symbols, .int a_terms_nodesBefore, .int a_terms_partsBefore, .int a_terms_variablesBefore])), (a_terms_shapes, .inl (cs 0, a_terms_shapes_n, .inl a_terms_shapes_f)), (a_terms_values, .inl (cs 2, a_terms_values_n, .inr (.inl a_terms_values_f))), (a_terms_firstParts, .inl (cs 0, a_terms_firstParts_n, .inl a_terms_firstParts_f)), (a_terms_parts, .inr (1, [.ref a_terms_parts_items, .int a_terms_parts_size])), (a_terms_parts_items, .inl (cs 0, a_terms_parts_items_n, .inl a_terms_parts_items_f)), (a_terms_became, .inl (cs 0, a_terms_became_n, .inl a_terms_became_f)), (a_unifier, .inr (8, [.ref a_terms, .ref a_unifier_links, .ref a_unifier_states, .ref a_unifier_pairs, .ref a_unifier_joined, .ref a_unifier_seen, .ref a_unifier_path])), (a_unifier_links, .inl (cs 0, a_unifier_links_n, .inl a_unifier_links_f)), (a_unifier_states, .inl (cs 0, a_unifier_states_n, .inl a_unifier_states_f)), (a_unifier_pairs, .inr (1, [.ref a_unifier_pairs_items, .int a_unifier_pairs_size])), (a_unifier_pairs_items, .inl (cs 0, a_unifier_pairs_items_n, .inl a_unifier_pairs_items_f)), (a_unifier_joined, .inr (1, [.ref a_unifier_joined_items, .int a_unifier_joined_size])), (a_unifier_joined_items, .inl (cs 0, a_unifier_joined_items_n, .inl a_unifier_joined_items_f)), (a_unifier_seen, .inr (1, [.ref a_unifier_seen_items, .int a_unifier_seen_size])), (a_unifier_seen_items, .inl (cs 0, a_unifier_seen_items_n, .inl a_unifier_seen_items_f)), (a_unifier_path, .inr (1, [.ref a_unifier_path_items, .int a_unifier_path_size])), (a_registers, .inl (cs 0, a_registers_n, .inl a_registers_f))]) hP hD [0, 1, 2, 3, 4, 5, 6, 7, 8, 9, 10, 11, 12, 13, 14, 15, 16, 17, 18] rfl (by decide) rfl
    exact ⟨fun t' ht' hv' hW' => ⟨⟨tx_O.t0 hx1 (hX.moved (ht.trans ht'.symm) hv'), a_unifier_links, a_unifier_states, a_unifier_pairs_items, a_unifier_joined_items, by rw [ht']; exact hP9, hD9⟩, hS.F ht'⟩, hS.2.2, by omega, by omega⟩

theorem d_UB_part_0 : decode b_UB_part 0 = .ok (.iload_n 1, 1) := by decide +kernel
theorem d_UB_part_1 : decode b_UB_part 1 = .ok (.invokestatic 103, 3) := by decide +kernel
theorem d_UB_part_4 : decode b_UB_part 4 = .ok (.iload_n 2, 1) := by decide +kernel
theorem d_UB_part_5 : decode b_UB_part 5 = .ok (.invokestatic 103, 3) := by decide +kernel
theorem d_UB_part_8 : decode b_UB_part 8 = .ok (.iload_n 3, 1) := by decide +kernel
theorem d_UB_part_9 : decode b_UB_part 9 = .ok (.iconst 1, 1) := by decide +kernel
theorem d_UB_part_10 : decode b_UB_part 10 = .ok (.if_icmp .ge 11, 3) := by decide +kernel
theorem d_UB_part_13 : decode b_UB_part 13 = .ok (.new 97, 3) := by decide +kernel
theorem d_UB_part_16 : decode b_UB_part 16 = .ok (.dup, 1) := by decide +kernel
theorem d_UB_part_17 : decode b_UB_part 17 = .ok (.invokespecial 99, 3) := by decide +kernel
theorem d_UB_part_20 : decode b_UB_part 20 = .ok (.athrow, 1) := by decide +kernel
theorem d_UB_part_21 : decode b_UB_part 21 = .ok (.aload_n 0, 1) := by decide +kernel
theorem d_UB_part_22 : decode b_UB_part 22 = .ok (.getfield 26, 3) := by decide +kernel
theorem d_UB_part_25 : decode b_UB_part 25 = .ok (.aload_n 0, 1) := by decide +kernel
theorem d_UB_part_26 : decode b_UB_part 26 = .ok (.getfield 62, 3) := by decide +kernel
theorem d_UB_part_29 : decode b_UB_part 29 = .ok (.iload_n 2, 1) := by decide +kernel
theorem d_UB_part_30 : decode b_UB_part 30 = .ok (.iaload, 1) := by decide +kernel
theorem d_UB_part_31 : decode b_UB_part 31 = .ok (.invokevirtual 135, 3) := by decide +kernel
theorem d_UB_part_34 : decode b_UB_part 34 = .ok (.istore 4, 2) := by decide +kernel
theorem d_UB_part_36 : decode b_UB_part 36 = .ok (.iload_n 3, 1) := by decide +kernel
theorem d_UB_part_37 : decode b_UB_part 37 = .ok (.aload_n 0, 1) := by decide +kernel
theorem d_UB_part_38 : decode b_UB_part 38 = .ok (.getfield 26, 3) := by decide +kernel
theorem d_UB_part_41 : decode b_UB_part 41 = .ok (.iload 4, 2) := by decide +kernel
theorem d_UB_part_43 : decode b_UB_part 43 = .ok (.invokevirtual 139, 3) := by decide +kernel
theorem d_UB_part_46 : decode b_UB_part 46 = .ok (.if_icmp .le 11, 3) := by decide +kernel
theorem d_UB_part_49 : decode b_UB_part 49 = .ok (.new 142, 3) := by decide +kernel
theorem d_UB_part_52 : decode b_UB_part 52 = .ok (.dup, 1) := by decide +kernel
theorem d_UB_part_53 : decode b_UB_part 53 = .ok (.invokespecial 144, 3) := by decide +kernel
theorem d_UB_part_56 : decode b_UB_part 56 = .ok (.athrow, 1) := by decide +kernel
theorem d_UB_part_57 : decode b_UB_part 57 = .ok (.aload_n 0, 1) := by decide +kernel
theorem d_UB_part_58 : decode b_UB_part 58 = .ok (.getfield 62, 3) := by decide +kernel
theorem d_UB_part_61 : decode b_UB_part 61 = .ok (.iload_n 1, 1) := by decide +kernel
theorem d_UB_part_62 : decode b_UB_part 62 = .ok (.aload_n 0, 1) := by decide +kernel
theorem d_UB_part_63 : decode b_UB_part 63 = .ok (.getfield 26, 3) := by decide +kernel
theorem d_UB_part_66 : decode b_UB_part 66 = .ok (.iload 4, 2) := by decide +kernel
theorem d_UB_part_68 : decode b_UB_part 68 = .ok (.iload_n 3, 1) := by decide +kernel
theorem d_UB_part_69 : decode b_UB_part 69 = .ok (.iconst 1, 1) := by decide +kernel
theorem d_UB_part_70 : decode b_UB_part 70 = .ok (.isub, 1) := by decide +kernel
theorem d_UB_part_71 : decode b_UB_part 71 = .ok (.invokevirtual 145, 3) := by decide +kernel
theorem d_UB_part_74 : decode b_UB_part 74 = .ok (.iastore, 1) := by decide +kernel
theorem d_UB_part_75 : decode b_UB_part 75 = .ok (.return_, 1) := by decide +kernel
def p_UB_part (n : Nat) (to_ : Int32) (x : Int32) (i : Int32) (a_marks : Int32) (a_place : Int32) (a_terms_nodes : Int32) (a_terms_variables : Int32) (a_terms_variablesLack : Int32) (a_terms_symbols : Int32) (a_terms_nodesBefore : Int32) (a_terms_partsBefore : Int32) (a_terms_variablesBefore : Int32) (a_terms_shapes_n : Nat) (a_terms_shapes_f : Nat → Int32) (a_terms_firstParts_n : Nat) (a_terms_firstParts_f : Nat → Int32) (a_terms_parts_size : Int32) (a_terms_parts_items_n : Nat) (a_terms_parts_items_f : Nat → Int32) (a_terms_became_n : Nat) (a_terms_became_f : Nat → Int32) (a_registers_n : Nat) (a_registers_f : Nat → Int32) : Option ((Nat × (Nat → Int32)) × Nat × Nat) := (p_UB_checkRegister to_).bind (fun (xc1, mk1, sk1) => al mk1 sk1 (if xc1 = 0 then ((p_UB_checkRegister x).bind (fun (xc2, mk2, sk2) => al mk2 sk2 (if xc2 = 0 then (if 1 ≤ i then (ck (ixb x a_registers_n) ((p_Terms_meant n (a_registers_f x.toNatClampNeg) a_terms_nodes a_terms_variables a_terms_variablesLack a_terms_symbols a_terms_nodesBefore a_terms_partsBefore a_terms_variablesBefore a_terms_became_n a_terms_became_f).bind (fun r5 => (p_Terms_partsOf r5 a_terms_nodes a_terms_variables a_terms_variablesLack a_terms_symbols a_terms_nodesBefore a_terms_partsBefore a_terms_variablesBefore a_terms_shapes_n a_terms_shapes_f).bind (fun r6 => if i ≤ r6 then ((p_Terms_partAt r5 (i - 1) a_terms_nodes a_terms_variables a_terms_variablesLack a_terms_symbols a_terms_nodesBefore a_terms_partsBefore a_terms_variablesBefore a_terms_firstParts_n a_terms_firstParts_f a_terms_parts_size a_terms_parts_items_n a_terms_parts_items_f).bind (fun r8 => ck (ixb to_ a_registers_n) (some ((0, upd a_registers_f to_.toNatClampNeg r8), 0, 0)))) else (al 1 6 (some ((4, a_registers_f), 0, 0))))))) else (al 1 6 (some ((1, a_registers_f), 0, 0)))) else (some ((xc2, a_registers_f), 0, 0))))) else (some ((xc1, a_registers_f), 0, 0))))
set_option maxHeartbeats 4000000 in
set_option maxRecDepth 100000 in
theorem c_UB_part (l : Launch) (g : va_G) (cs : Nat → ClassId) (ka : Nat → Nat) (hfl : l.flags = pinnedFlags ++ [noTraceFlag]) (a_tape : Nat) (a_names : Nat) (a_reader : Nat) (a_unifier : Nat) (a_printer : Nat) (a_marked : Nat) (a_terms_values : Nat) (a_terms_variableNames : Nat) (a a_terms a_terms_shapes a_terms_firstParts a_terms_parts a_terms_parts_items a_terms_became a_registers : Nat) (sz : Nat) (n : Nat) (to_ : Int32) (x : Int32) (i : Int32) (a_marks : Int32) (a_place : Int32) (a_terms_nodes : Int32) (a_terms_variables : Int32) (a_terms_variablesLack : Int32) (a_terms_symbols : Int32) (a_terms_nodesBefore : Int32) (a_terms_partsBefore : Int32) (a_terms_variablesBefore : Int32) (a_terms_shapes_n : Nat) (a_terms_shapes_f : Nat → Int32) (a_terms_firstParts_n : Nat) (a_terms_firstParts_f : Nat → Int32) (a_terms_parts_size : Int32) (a_terms_parts_items_n : Nat) (a_terms_parts_items_f : Nat → Int32) (a_terms_became_n : Nat) (a_terms_became_f : Nat → Int32) (a_registers_n : Nat) (a_registers_f : Nat → Int32) (xc : Nat) (o_a_registers_f : Nat → Int32) (mc ms : Nat) (hok : p_UB_part n to_ x i a_marks a_place a_terms_nodes a_terms_variables a_terms_variablesLack a_terms_symbols a_terms_nodesBefore a_terms_partsBefore a_terms_variablesBefore a_terms_shapes_n a_terms_shapes_f a_terms_firstParts_n a_terms_firstParts_f a_terms_parts_size a_terms_parts_items_n a_terms_parts_items_f a_terms_became_n a_terms_became_f a_registers_n a_registers_f = some ((xc, o_a_registers_f), mc, ms)) : tx_Met l y_UB_part (.code y_UB_part b_UB_part 5 none :: GW) { frames := 7, cells := mc, slots := ms, locals := 110 } (va_Pc [.ref a, .int to_, .int x, .int i] (gP g cs ka [(a, .inr (9, [.ref a_tape, .ref a_names, .ref a_terms, .ref a_reader, .ref a_unifier, .ref a_printer, .ref a_registers, .ref a_marked, .int a_marks, .int a_place])), (a_terms, .inr (7, [.ref a_terms_shapes, .ref a_terms_values, .ref a_terms_firstParts, .int a_terms_nodes, .ref a_terms_parts, .ref a_terms_variableNames, .ref a_terms_became, .int a_terms_variables, .int a_terms_variablesLack, .int a_terms_symbols, .int a_terms_nodesBefore, .int a_terms_partsBefore, .int a_terms_variablesBefore])), (a_terms_shapes, .inl (cs 0, a_terms_shapes_n, .inl a_terms_shapes_f)), (a_terms_firstParts, .inl (cs 0, a_terms_firstParts_n, .inl a_terms_firstParts_f)), (a_terms_parts, .inr (1, [.ref a_terms_parts_items, .int a_terms_parts_size])), (a_terms_parts_items, .inl (cs 0, a_terms_parts_items_n, .inl a_terms_parts_items_f)), (a_terms_became, .inl (cs 0, a_terms_became_n, .inl a_terms_became_f)), (a_registers, .inl (cs 0, a_registers_n, .inl a_registers_f))] sz)) (fun _ st oc t => (tx_O xc (none) oc t ∧ va_P g classes [(a, .inr (9, [.ref a_tape, .ref a_names, .ref a_terms, .ref a_reader, .ref a_unifier, .ref a_printer, .ref a_registers, .ref a_marked, .int a_marks, .int a_place])), (a_terms, .inr (7, [.ref a_terms_shapes, .ref a_terms_values, .ref a_terms_firstParts, .int a_terms_nodes, .ref a_terms_parts, .ref a_terms_variableNames, .ref a_terms_became, .int a_terms_variables, .int a_terms_variablesLack, .int a_terms_symbols, .int a_terms_nodesBefore, .int a_terms_partsBefore, .int a_terms_variablesBefore])), (a_terms_shapes, .inl (cs 0, a_terms_shapes_n, .inl a_terms_shapes_f)), (a_terms_firstParts, .inl (cs 0, a_terms_firstParts_n, .inl a_terms_firstParts_f)), (a_terms_parts, .inr (1, [.ref a_terms_parts_items, .int a_terms_parts_size])), (a_terms_parts_items, .inl (cs 0, a_terms_parts_items_n, .inl a_terms_parts_items_f)), (a_terms_became, .inl (cs 0, a_terms_became_n, .inl a_terms_became_f)), (a_registers, .inl (cs 0, a_registers_n, .inl o_a_registers_f))] t.heap ∧ va_D (va_A [(a, .inr (9, [.ref a_tape, .ref a_names, .ref a_terms, .ref a_reader, .ref a_unifier, .ref a_printer, .ref a_registers, .ref a_marked, .int a_marks, .int a_place])), (a_terms, .inr (7, [.ref a_terms_shapes, .ref a_terms_values, .ref a_terms_firstParts, .int a_terms_nodes, .ref a_terms_parts, .ref a_terms_variableNames, .ref a_terms_became, .int a_terms_variables, .int a_terms_variablesLack, .int a_terms_symbols, .int a_terms_nodesBefore, .int a_terms_partsBefore, .int a_terms_variablesBefore])), (a_terms_shapes, .inl (cs 0, a_terms_shapes_n, .inl a_terms_shapes_f)), (a_terms_firstParts, .inl (cs 0, a_terms_firstParts_n, .inl a_terms_firstParts_f)), (a_terms_parts, .inr (1, [.ref a_terms_parts_items, .int a_terms_parts_size])), (a_terms_parts_items, .inl (cs 0, a_terms_parts_items_n, .inl a_terms_parts_items_f)), (a_terms_became, .inl (cs 0, a_terms_became_n, .inl a_terms_became_f)), (a_registers, .inl (cs 0, a_registers_n, .inl a_registers_f))] sz) [(a, .inr (9, [.ref a_tape, .ref a_names, .ref a_terms, .ref a_reader, .ref a_unifier, .ref a_printer, .ref a_registers, .ref a_marked, .int a_marks, .int a_place])), (a_terms, .inr (7, [.ref a_terms_shapes, .ref a_terms_values, .ref a_terms_firstParts, .int a_terms_nodes, .ref a_terms_parts, .ref a_terms_variableNames, .ref a_terms_became, .int a_terms_variables, .int a_terms_variablesLack, .int a_terms_symbols, .int a_terms_nodesBefore, .int a_terms_partsBefore, .int a_terms_variablesBefore])), (a_terms_shapes, .inl (cs 0, a_terms_shapes_n, .inl a_terms_shapes_f)), (a_terms_firstParts, .inl (cs 0, a_terms_firstParts_n, .inl a_terms_firstParts_f)), (a_terms_parts, .inr (1, [.ref a_terms_parts_items, .int a_terms_parts_size])), (a_terms_parts_items, .inl (cs 0, a_terms_parts_items_n, .inl a_terms_parts_items_f)), (a_terms_became, .inl (cs 0, a_terms_became_n, .inl a_terms_became_f)), (a_registers, .inl (cs 0, a_registers_n, .inl o_a_registers_f))]) ∧ va_F (va_A [(a, .inr (9, [.ref a_tape, .ref a_names, .ref a_terms, .ref a_reader, .ref a_unifier, .ref a_printer, .ref a_registers, .ref a_marked, .int a_marks, .int a_place])), (a_terms, .inr (7, [.ref a_terms_shapes, .ref a_terms_values, .ref a_terms_firstParts, .int a_terms_nodes, .ref a_terms_parts, .ref a_terms_variableNames, .ref a_terms_became, .int a_terms_variables, .int a_terms_variablesLack, .int a_terms_symbols, .int a_terms_nodesBefore, .int a_terms_partsBefore, .int a_terms_variablesBefore])), (a_terms_shapes, .inl (cs 0, a_terms_shapes_n, .inl a_terms_shapes_f)), (a_terms_firstParts, .inl (cs 0, a_terms_firstParts_n, .inl a_terms_firstParts_f)), (a_terms_parts, .inr (1, [.ref a_terms_parts_items, .int a_terms_parts_size])), (a_terms_parts_items, .inl (cs 0, a_terms_parts_items_n, .inl a_terms_parts_items_f)), (a_terms_became, .inl (cs 0, a_terms_became_n, .inl a_terms_became_f)), (a_registers, .inl (cs 0, a_registers_n, .inl a_registers_f))] sz) st t) mc ms (va_A [(a, .inr (9, [.ref a_tape, .ref a_names, .ref a_terms, .ref a_reader, .ref a_unifier, .ref a_printer, .ref a_registers, .ref a_marked, .int a_marks, .int a_place])), (a_terms, .inr (7, [.ref a_terms_shapes, .ref a_terms_values, .ref a_terms_firstParts, .int a_terms_nodes, .ref a_terms_parts, .ref a_terms_variableNames, .ref a_terms_became, .int a_terms_variables, .int a_terms_variablesLack, .int a_terms_symbols, .int a_terms_nodesBefore, .int a_terms_partsBefore, .int a_terms_variablesBefore])), (a_terms_shapes, .inl (cs 0, a_terms_shapes_n, .inl a_terms_shapes_f)), (a_terms_firstParts, .inl (cs 0, a_terms_firstParts_n, .inl a_terms_firstParts_f)), (a_terms_parts, .inr (1, [.ref a_terms_parts_items, .int a_terms_parts_size])), (a_terms_parts_items, .inl (cs 0, a_terms_parts_items_n, .inl a_terms_parts_items_f)), (a_terms_became, .inl (cs 0, a_terms_became_n, .inl a_terms_became_f)), (a_registers, .inl (cs 0, a_registers_n, .inl a_registers_f))] sz) := by
  refine tx_ofW (cc := b_UB_part) (maxL := 5) (ret := none) (by decide) rfl ?_
  intro p e s m args below meth c s₁ B hml hv
  obtain ⟨rfl, hsz, hP, hK, hD0, hgl, hkn, hkr⟩ := hv
  have hx := B.exec
  have hb := B.bytes
  have hr := B.returns
  have hg : ∀ w ∈ GW, w.before ([.ref a, .int to_, .int x, .int i] : List Value).toArray s = true := fun w hw => atoms_spec (ws := .code y_UB_part b_UB_part 5 none :: GW) B.pre w (List.mem_cons_of_mem _ hw)
  have hown : s.vm.findClass R_UB = some m.cls := findClass_of_methodNamed B.named
  have hlocks := B.notSynchronized
  have hcd : (Cond.code y_UB_part b_UB_part 5 none).before ([.ref a, .int to_, .int x, .int i] : List Value).toArray s = true := atoms_spec (ws := .code y_UB_part b_UB_part 5 none :: GW) B.pre _ List.mem_cons_self
  subst hsz
  have hD := hD0.self (sz := s.heap.size)
  generalize hAe : va_A [(a, .inr (9, [.ref a_tape, .ref a_names, .ref a_terms, .ref a_reader, .ref a_unifier, .ref a_printer, .ref a_registers, .ref a_marked, .int a_marks, .int a_place])), (a_terms, .inr (7, [.ref a_terms_shapes, .ref a_terms_values, .ref a_terms_firstParts, .int a_terms_nodes, .ref a_terms_parts, .ref a_terms_variableNames, .ref a_terms_became, .int a_terms_variables, .int a_terms_variablesLack, .int a_terms_symbols, .int a_terms_nodesBefore, .int a_terms_partsBefore, .int a_terms_variablesBefore])), (a_terms_shapes, .inl (cs 0, a_terms_shapes_n, .inl a_terms_shapes_f)), (a_terms_firstParts, .inl (cs 0, a_terms_firstParts_n, .inl a_terms_firstParts_f)), (a_terms_parts, .inr (1, [.ref a_terms_parts_items, .int a_terms_parts_size])), (a_terms_parts_items, .inl (cs 0, a_terms_parts_items_n, .inl a_terms_parts_items_f)), (a_terms_became, .inl (cs 0, a_terms_became_n, .inl a_terms_became_f)), (a_registers, .inl (cs 0, a_registers_n, .inl a_registers_f))] s.heap.size = A at hD hkn ⊢
  have hA : ∀ q : Nat, s.heap.size ≤ q → A q := fun q h => by rw [← hAe]; exact Or.inr h
  have hS : va_S A s.heap s.heap [] := va_S.rf
  have hP : va_P g classes [(a, .inr (9, [.ref a_tape, .ref a_names, .ref a_terms, .ref a_reader, .ref a_unifier, .ref a_printer, .ref a_registers, .ref a_marked, .int a_marks, .int a_place])), (a_terms, .inr (7, [.ref a_terms_shapes, .ref a_terms_values, .ref a_terms_firstParts, .int a_terms_nodes, .ref a_terms_parts, .ref a_terms_variableNames, .ref a_terms_became, .int a_terms_variables, .int a_terms_variablesLack, .int a_terms_symbols, .int a_terms_nodesBefore, .int a_terms_partsBefore, .int a_terms_variablesBefore])), (a_terms_shapes, .inl (cs 0, a_terms_shapes_n, .inl a_terms_shapes_f)), (a_terms_firstParts, .inl (cs 0, a_terms_firstParts_n, .inl a_terms_firstParts_f)), (a_terms_parts, .inr (1, [.ref a_terms_parts_items, .int a_terms_parts_size])), (a_terms_parts_items, .inl (cs 0, a_terms_parts_items_n, .inl a_terms_parts_items_f)), (a_terms_became, .inl (cs 0, a_terms_became_n, .inl a_terms_became_f)), (a_registers, .inl (cs 0, a_registers_n, .inl a_registers_f))] s.heap := hP
  have hl := lv_entry ([.ref a, .int to_, .int x, .int i]) (n := 5) (Nat.le_of_ble_eq_true rfl)
  rw [lg_entry_eq]
  generalize (lg_sl ([.ref a, .int to_, .int x, .int i]) ++ List.replicate (5 - (lg_sl ([.ref a, .int to_, .int x, .int i])).length) Slot.unset).toArray = ls at hl ⊢
  have hl : lv_has ls 5 [(0, .ref a), (1, .int to_), (2, .int x), (3, .int i)] := hl
  refine gq (fun Q hQ => ?_)
  obtain ⟨H, hH⟩ : ∃ H : Heap, H = s.heap := ⟨_, rfl⟩
  rw [← hH] at hP
  have hS : va_S A s.heap H [] := by rw [hH]; exact hS
  refine W.eqH hH ?_
  obtain ⟨locs, hlc⟩ : ∃ L : List Loc, L = [] := ⟨_, rfl⟩
  rw [← hlc] at hS ⊢
  unfold p_UB_part at hok
  refine lv_iload_n hx hb d_UB_part_0 rfl (lv_at hl 1 rfl) ?_
  obtain ⟨⟨xc1, mk1, sk1⟩, hc1, hok⟩ := bd_some hok
  dsimp only at hok
  obtain ⟨m1, s1, hok, hmc1, hms1⟩ := al_some hok
  obtain ⟨hPc, hDc, hFc⟩ := cut0 (wc := []) hP hD hS hA [] (by decide) rfl
  rw [hQ]
  refine tx_call (A1 := va_A [] H.size) (tx_runS (As := [.int to_]) (rest := []) ⟨hx, hb, hml, hown, hg⟩ (c_UB_checkRegister l g cs ka hfl H.size to_ xc1 mk1 sk1 hc1) (va_cwS 1 hg (gw_S wd_656 wd_657 wd_632 wd_655) rfl rfl rfl (by decide +kernel) ⟨Nat.le_of_ble_eq_true rfl, Nat.le_of_ble_eq_true rfl⟩) ⟨gP_blind, gP_pre hPc hDc hK hgl hkn hkr hS hFc⟩ rfl rfl hl.1 rfl (lv_room (Nat.le_of_ble_eq_true rfl)) d_UB_part_1 ⟨show 0 + mk1 ≤ mc from by omega, show 0 + sk1 ≤ ms from by omega⟩) hS (fun st o t h0 hq => hq.2) (fun q _ h => hFc q h) hFc hlocks (tx_noH B hcd 1) (fun v1 st₀ t H locs h0 ht hW hB hz1 hk1 hS => ?_) (fun x1 st₀ t H locs h0 ht hB hz1 hk1 hS => ?_)
  · obtain ⟨⟨hO, hB⟩, -⟩ := hB
    obtain ⟨hx1, hv1⟩ := hO.ret
    subst hv1
    rw [if_pos hx1] at hok
    rw [ht] at hB
    obtain ⟨hP1, hD1⟩ := hB
    obtain ⟨hP, hD⟩ := jn_A hP hD [] [0, 1, 2, 3, 4, 5, 6, 7] rfl rfl (by decide) (by decide) hk1 hFc hP1 hD1
    obtain ⟨hP, hD⟩ : PD g A H [(a, .inr (9, [.ref a_tape, .ref a_names, .ref a_terms, .ref a_reader, .ref a_unifier, .ref a_printer, .ref a_registers, .ref a_marked, .int a_marks, .int a_place])), (a_terms, .inr (7, [.ref a_terms_shapes, .ref a_terms_values, .ref a_terms_firstParts, .int a_terms_nodes, .ref a_terms_parts, .ref a_terms_variableNames, .ref a_terms_became, .int a_terms_variables, .int a_terms_variablesLack, .int a_terms_symbols, .int a_terms_nodesBefore, .int a_terms_partsBefore, .int a_terms_variablesBefore])), (a_terms_shapes, .inl (cs 0, a_terms_shapes_n, .inl a_terms_shapes_f)), (a_terms_firstParts, .inl (cs 0, a_terms_firstParts_n, .inl a_terms_firstParts_f)), (a_terms_parts, .inr (1, [.ref a_terms_parts_items, .int a_terms_parts_size])), (a_terms_parts_items, .inl (cs 0, a_terms_parts_items_n, .inl a_terms_parts_items_f)), (a_terms_became, .inl (cs 0, a_terms_became_n, .inl a_terms_became_f)), (a_registers, .inl (cs 0, a_registers_n, .inl a_registers_f))] := ⟨hP, hD⟩
    rw [← hQ]
    refine W.eq (g2 := F0 m 4 ls []) rfl ?_
    refine lv_iload_n hx hb d_UB_part_4 rfl (lv_at hl 2 rfl) ?_
    obtain ⟨⟨xc2, mk2, sk2⟩, hc2, hok⟩ := bd_some hok
    dsimp only at hok
    obtain ⟨m2, s2, hok, hmc2, hms2⟩ := al_some hok
    obtain ⟨hPc, hDc, hFc⟩ := cut0 (wc := []) hP hD hS hA [] (by decide) rfl
    rw [hQ]
    refine tx_call (A1 := va_A [] H.size) (tx_runS (As := [.int x]) (rest := []) ⟨hx, hb, hml, hown, hg⟩ (c_UB_checkRegister l g cs ka hfl H.size x xc2 mk2 sk2 hc2) (va_cwS 1 hg (gw_S wd_656 wd_657 wd_632 wd_655) rfl rfl rfl (by decide +kernel) ⟨Nat.le_of_ble_eq_true rfl, Nat.le_of_ble_eq_true rfl⟩) ⟨gP_blind, gP_pre hPc hDc hK hgl hkn hkr hS hFc⟩ rfl rfl hl.1 rfl (lv_room (Nat.le_of_ble_eq_true rfl)) d_UB_part_5 ⟨show 0 + mk1 + mk2 ≤ mc from by omega, show 0 + sk1 + sk2 ≤ ms from by omega⟩) hS (fun st o t h0 hq => hq.2) (fun q _ h => hFc q h) hFc hlocks (tx_noH B hcd 5) (fun v2 st₀ t H locs h0 ht hW hB hz1 hk1 hS => ?_) (fun x2 st₀ t H locs h0 ht hB hz1 hk1 hS => ?_)
    · obtain ⟨⟨hO, hB⟩, -⟩ := hB
      obtain ⟨hx2, hv2⟩ := hO.ret
      subst hv2
      rw [if_pos hx2] at hok
      rw [ht] at hB
      obtain ⟨hP1, hD1⟩ := hB
      obtain ⟨hP, hD⟩ := jn_A hP hD [] [0, 1, 2, 3, 4, 5, 6, 7] rfl rfl (by decide) (by decide) hk1 hFc hP1 hD1
      obtain ⟨hP, hD⟩ : PD g A H [(a, .inr (9, [.ref a_tape, .ref a_names, .ref a_terms, .ref a_reader, .ref a_unifier, .ref a_printer, .ref a_registers, .ref a_marked, .int a_marks, .int a_place])), (a_terms, .inr (7, [.ref a_terms_shapes, .ref a_terms_values, .ref a_terms_firstParts, .int a_terms_nodes, .ref a_terms_parts, .ref a_terms_variableNames, .ref a_terms_became, .int a_terms_variables, .int a_terms_variablesLack, .int a_terms_symbols, .int a_terms_nodesBefore, .int a_terms_partsBefore, .int a_terms_variablesBefore])), (a_terms_shapes, .inl (cs 0, a_terms_shapes_n, .inl a_terms_shapes_f)), (a_terms_firstParts, .inl (cs 0, a_terms_firstParts_n, .inl a_terms_firstParts_f)), (a_terms_parts, .inr (1, [.ref a_terms_parts_items, .int a_terms_parts_size])), (a_terms_parts_items, .inl (cs 0, a_terms_parts_items_n, .inl a_terms_parts_items_f)), (a_terms_became, .inl (cs 0, a_terms_became_n, .inl a_terms_became_f)), (a_registers, .inl (cs 0, a_registers_n, .inl a_registers_f))] := ⟨hP, hD⟩
      rw [← hQ]
      refine W.eq (g2 := F0 m 8 ls []) rfl ?_
      refine lv_iload_n hx hb d_UB_part_8 rfl (lv_at hl 3 rfl) ?_
      refine lv_iconst (v := 1) hx hb d_UB_part_9 (by decide) ?_
      refine lv_icmp_ge hx hb d_UB_part_10 rfl (fun h3 => ?_) (fun h3 => ?_)
      · rw [if_pos h3] at hok
        refine lv_aload_n hx hb d_UB_part_21 rfl (lv_at hl 0 rfl) ?_
        refine va_get (D := g) (ci := 9) (v := .ref a_terms) (C := R_UB) (T := F_UB) (N := 10) hx hb hg ul_UB hown hK hP 0 rfl rfl 2 (by decide) (hg _ wd_640) (fun _ h9 => h9) rfl d_UB_part_22 ?_
        refine lv_aload_n hx hb d_UB_part_25 rfl (lv_at hl 0 rfl) ?_
        refine va_get (D := g) (ci := 9) (v := .ref a_registers) (C := R_UB) (T := F_UB) (N := 10) hx hb hg ul_UB hown hK hP 0 rfl rfl 6 (by decide) (hg _ wd_646) (fun _ h9 => h9) rfl d_UB_part_26 ?_
        refine lv_iload_n hx hb d_UB_part_29 rfl (lv_at hl 2 rfl) ?_
        obtain ⟨hi4, hok⟩ := ck_some hok
        refine va_iald hx hb hK hP 7 0 rfl rfl (ixb_in hi4) d_UB_part_30 ?_
        obtain ⟨r5, hc5, hok⟩ := bd_some hok
        obtain ⟨hPc, hDc, hFc⟩ := cut0 (wc := [(a_terms, .inr (7, [.ref a_terms_shapes, .ref a_terms_values, .ref a_terms_firstParts, .int a_terms_nodes, .ref a_terms_parts, .ref a_terms_variableNames, .ref a_terms_became, .int a_terms_variables, .int a_terms_variablesLack, .int a_terms_symbols, .int a_terms_nodesBefore, .int a_terms_partsBefore, .int a_terms_variablesBefore])), (a_terms_became, .inl (cs 0, a_terms_became_n, .inl a_terms_became_f))]) hP hD hS hA [1, 6] (by decide) rfl
        refine va_calli (va_runV (As := [.int (a_registers_f x.toNatClampNeg)]) (rest := []) ⟨hx, hb, hml, hown, hg⟩ (c_Terms_meant l g cs ka a_terms_shapes a_terms_values a_terms_firstParts a_terms_parts a_terms_variableNames a_terms a_terms_became H.size n (a_registers_f x.toNatClampNeg) a_terms_nodes a_terms_variables a_terms_variablesLack a_terms_symbols a_terms_nodesBefore a_terms_partsBefore a_terms_variablesBefore a_terms_became_n a_terms_became_f r5 hc5) (cwV (C := R_Terms) 1 hg (gw_V wd_667 wd_338 wd_339 wd_264 wd_336) rfl rfl rfl (by decide +kernel) ⟨Nat.le_of_ble_eq_true rfl, Nat.le_of_ble_eq_true rfl⟩) ⟨gP_blind, va_recv (q0 := 1) (ci := 7) (q := (R_Terms, F_Terms, 13)) hK hP rfl rfl, gP_pre hPc hDc hK hgl hkn hkr hS hFc⟩ rfl rfl hl.1 rfl (lv_room (Nat.le_of_ble_eq_true rfl)) d_UB_part_31 ⟨show 0 + mk1 + mk2 + 0 ≤ mc from by omega, show 0 + sk1 + sk2 + 0 ≤ ms from by omega⟩) hS (fun q _ h => hFc q h) hFc (fun r5' u t H locs ht hvm hr5 hB hz1 hk1 hS => ?_)
        subst hr5
        rw [ht] at hB
        obtain ⟨hP1, hD1⟩ := hB
        obtain ⟨hP, hD⟩ := jn_A hP hD [1, 6] [0, 2, 3, 4, 5, 7] rfl rfl (by decide) (by decide) hk1 hFc hP1 hD1
        obtain ⟨hP, hD⟩ : PD g A H [(a, .inr (9, [.ref a_tape, .ref a_names, .ref a_terms, .ref a_reader, .ref a_unifier, .ref a_printer, .ref a_registers, .ref a_marked, .int a_marks, .int a_place])), (a_terms_shapes, .inl (cs 0, a_terms_shapes_n, .inl a_terms_shapes_f)), (a_terms_firstParts, .inl (cs 0, a_terms_firstParts_n, .inl a_terms_firstParts_f)), (a_terms_parts, .inr (1, [.ref a_terms_parts_items, .int a_terms_parts_size])), (a_terms_parts_items, .inl (cs 0, a_terms_parts_items_n, .inl a_terms_parts_items_f)), (a_registers, .inl (cs 0, a_registers_n, .inl a_registers_f)), (a_terms, .inr (7, [.ref a_terms_shapes, .ref a_terms_values, .ref a_terms_firstParts, .int a_terms_nodes, .ref a_terms_parts, .ref a_terms_variableNames, .ref a_terms_became, .int a_terms_variables, .int a_terms_variablesLack, .int a_terms_symbols, .int a_terms_nodesBefore, .int a_terms_partsBefore, .int a_terms_variablesBefore])), (a_terms_became, .inl (cs 0, a_terms_became_n, .inl a_terms_became_f))] := ⟨hP, hD⟩
        refine lv_istore hx hb d_UB_part_34 hl (by decide) rfl (fun ls hl => ?_)
        have hl : lv_has ls 5 [(4, .int r5), (0, .ref a), (1, .int to_), (2, .int x), (3, .int i)] := hl
        refine lv_iload_n hx hb d_UB_part_36 rfl (lv_at hl 4 rfl) ?_
        refine lv_aload_n hx hb d_UB_part_37 rfl (lv_at hl 1 rfl) ?_
        refine va_get (D := g) (ci := 9) (v := .ref a_terms) (C := R_UB) (T := F_UB) (N := 10) hx hb hg ul_UB hown hK hP 0 rfl rfl 2 (by decide) (hg _ wd_640) (fun _ h9 => h9) rfl d_UB_part_38 ?_
        refine lv_iload hx hb d_UB_part_41 (lv_at hl 0 rfl) ?_
        obtain ⟨r6, hc6, hok⟩ := bd_some hok
        obtain ⟨hPc, hDc, hFc⟩ := cut0 (wc := [(a_terms, .inr (7, [.ref a_terms_shapes, .ref a_terms_values, .ref a_terms_firstParts, .int a_terms_nodes, .ref a_terms_parts, .ref a_terms_variableNames, .ref a_terms_became, .int a_terms_variables, .int a_terms_variablesLack, .int a_terms_symbols, .int a_terms_nodesBefore, .int a_terms_partsBefore, .int a_terms_variablesBefore])), (a_terms_shapes, .inl (cs 0, a_terms_shapes_n, .inl a_terms_shapes_f))]) hP hD hS hA [6, 1] (by decide) rfl
        refine va_calli (va_runV (As := [.int r5]) (rest := [.int i]) ⟨hx, hb, hml, hown, hg⟩ (c_Terms_partsOf l g cs ka a_terms_values a_terms_firstParts a_terms_parts a_terms_variableNames a_terms_became a_terms a_terms_shapes H.size r5 a_terms_nodes a_terms_variables a_terms_variablesLack a_terms_symbols a_terms_nodesBefore a_terms_partsBefore a_terms_variablesBefore a_terms_shapes_n a_terms_shapes_f r6 hc6) (cwV (C := R_Terms) 1 hg (gw_V wd_668 wd_356 wd_357 wd_264 wd_354) rfl rfl rfl (by decide +kernel) ⟨Nat.le_of_ble_eq_true rfl, Nat.le_of_ble_eq_true rfl⟩) ⟨gP_blind, va_recv (q0 := 6) (ci := 7) (q := (R_Terms, F_Terms, 13)) hK hP rfl rfl, gP_pre hPc hDc hK hgl hkn hkr hS hFc⟩ rfl rfl hl.1 rfl (lv_room (Nat.le_of_ble_eq_true rfl)) d_UB_part_43 ⟨show 0 + mk1 + mk2 + 0 + 0 ≤ mc from by omega, show 0 + sk1 + sk2 + 0 + 0 ≤ ms from by omega⟩) hS (fun q _ h => hFc q h) hFc (fun r6' u t H locs ht hvm hr6 hB hz1 hk1 hS => ?_)
        subst hr6
        rw [ht] at hB
        obtain ⟨hP1, hD1⟩ := hB
        obtain ⟨hP, hD⟩ := jn_A hP hD [6, 1] [0, 2, 3, 4, 5, 7] rfl rfl (by decide) (by decide) hk1 hFc hP1 hD1
        obtain ⟨hP, hD⟩ : PD g A H [(a, .inr (9, [.ref a_tape, .ref a_names, .ref a_terms, .ref a_reader, .ref a_unifier, .ref a_printer, .ref a_registers, .ref a_marked, .int a_marks, .int a_place])), (a_terms_firstParts, .inl (cs 0, a_terms_firstParts_n, .inl a_terms_firstParts_f)), (a_terms_parts, .inr (1, [.ref a_terms_parts_items, .int a_terms_parts_size])), (a_terms_parts_items, .inl (cs 0, a_terms_parts_items_n, .inl a_terms_parts_items_f)), (a_registers, .inl (cs 0, a_registers_n, .inl a_registers_f)), (a_terms_became, .inl (cs 0, a_terms_became_n, .inl a_terms_became_f)), (a_terms, .inr (7, [.ref a_terms_shapes, .ref a_terms_values, .ref a_terms_firstParts, .int a_terms_nodes, .ref a_terms_parts, .ref a_terms_variableNames, .ref a_terms_became, .int a_terms_variables, .int a_terms_variablesLack, .int a_terms_symbols, .int a_terms_nodesBefore, .int a_terms_partsBefore, .int a_terms_variablesBefore])), (a_terms_shapes, .inl (cs 0, a_terms_shapes_n, .inl a_terms_shapes_f))] := ⟨hP, hD⟩
        refine lv_icmp_le hx hb d_UB_part_46 rfl (fun h7 => ?_) (fun h7 => ?_)
        · rw [if_pos h7] at hok
          refine lv_aload_n hx hb d_UB_part_57 rfl (lv_at hl 1 rfl) ?_
          refine va_get (D := g) (ci := 9) (v := .ref a_registers) (C := R_UB) (T := F_UB) (N := 10) hx hb hg ul_UB hown hK hP 0 rfl rfl 6 (by decide) (hg _ wd_646) (fun _ h9 => h9) rfl d_UB_part_58 ?_
          refine lv_iload_n hx hb d_UB_part_61 rfl (lv_at hl 2 rfl) ?_
          refine lv_aload_n hx hb d_UB_part_62 rfl (lv_at hl 1 rfl) ?_
          refine va_get (D := g) (ci := 9) (v := .ref a_terms) (C := R_UB) (T := F_UB) (N := 10) hx hb hg ul_UB hown hK hP 0 rfl rfl 2 (by decide) (hg _ wd_640) (fun _ h9 => h9) rfl d_UB_part_63 ?_
          refine lv_iload hx hb d_UB_part_66 (lv_at hl 0 rfl) ?_
          refine lv_iload_n hx hb d_UB_part_68 rfl (lv_at hl 4 rfl) ?_
          refine lv_iconst (v := 1) hx hb d_UB_part_69 (by decide) ?_
          refine lv_isub hx hb d_UB_part_70 ?_
          obtain ⟨r8, hc8, hok⟩ := bd_some hok
          obtain ⟨hPc, hDc, hFc⟩ := cut0 (wc := [(a_terms, .inr (7, [.ref a_terms_shapes, .ref a_terms_values, .ref a_terms_firstParts, .int a_terms_nodes, .ref a_terms_parts, .ref a_terms_variableNames, .ref a_terms_became, .int a_terms_variables, .int a_terms_variablesLack, .int a_terms_symbols, .int a_terms_nodesBefore, .int a_terms_partsBefore, .int a_terms_variablesBefore])), (a_terms_firstParts, .inl (cs 0, a_terms_firstParts_n, .inl a_terms_firstParts_f)), (a_terms_parts, .inr (1, [.ref a_terms_parts_items, .int a_terms_parts_size])), (a_terms_parts_items, .inl (cs 0, a_terms_parts_items_n, .inl a_terms_parts_items_f))]) hP hD hS hA [6, 1, 2, 3] (by decide) rfl
          refine va_calli (va_runV (As := [.int r5, .int (i - 1)]) (rest := [.int to_, .ref a_registers]) ⟨hx, hb, hml, hown, hg⟩ (c_Terms_partAt l g cs ka a_terms_shapes a_terms_values a_terms_variableNames a_terms_became a_terms a_terms_firstParts a_terms_parts a_terms_parts_items H.size r5 (i - 1) a_terms_nodes a_terms_variables a_terms_variablesLack a_terms_symbols a_terms_nodesBefore a_terms_partsBefore a_terms_variablesBefore a_terms_firstParts_n a_terms_firstParts_f a_terms_parts_size a_terms_parts_items_n a_terms_parts_items_f r8 hc8) (cwV (C := R_Terms) 2 hg (gw_V wd_669 wd_360 wd_361 wd_264 wd_358) rfl rfl rfl (by decide +kernel) ⟨Nat.le_of_ble_eq_true rfl, Nat.le_of_ble_eq_true rfl⟩) ⟨gP_blind, va_recv (q0 := 6) (ci := 7) (q := (R_Terms, F_Terms, 13)) hK hP rfl rfl, gP_pre hPc hDc hK hgl hkn hkr hS hFc⟩ rfl rfl hl.1 rfl (lv_room (Nat.le_of_ble_eq_true rfl)) d_UB_part_71 ⟨show 0 + mk1 + mk2 + 0 + 0 + 0 ≤ mc from by omega, show 0 + sk1 + sk2 + 0 + 0 + 0 ≤ ms from by omega⟩) hS (fun q _ h => hFc q h) hFc (fun r8' u t H locs ht hvm hr8 hB hz1 hk1 hS => ?_)
          subst hr8
          rw [ht] at hB
          obtain ⟨hP1, hD1⟩ := hB
          obtain ⟨hP, hD⟩ := jn_A hP hD [6, 1, 2, 3] [0, 4, 5, 7] rfl rfl (by decide) (by decide) hk1 hFc hP1 hD1
          obtain ⟨hP, hD⟩ : PD g A H [(a, .inr (9, [.ref a_tape, .ref a_names, .ref a_terms, .ref a_reader, .ref a_unifier, .ref a_printer, .ref a_registers, .ref a_marked, .int a_marks, .int a_place])), (a_registers, .inl (cs 0, a_registers_n, .inl a_registers_f)), (a_terms_became, .inl (cs 0, a_terms_became_n, .inl a_terms_became_f)), (a_terms_shapes, .inl (cs 0, a_terms_shapes_n, .inl a_terms_shapes_f)), (a_terms, .inr (7, [.ref a_terms_shapes, .ref a_terms_values, .ref a_terms_firstParts, .int a_terms_nodes, .ref a_terms_parts, .ref a_terms_variableNames, .ref a_terms_became, .int a_terms_variables, .int a_terms_variablesLack, .int a_terms_symbols, .int a_terms_nodesBefore, .int a_terms_partsBefore, .int a_terms_variablesBefore])), (a_terms_firstParts, .inl (cs 0, a_terms_firstParts_n, .inl a_terms_firstParts_f)), (a_terms_parts, .inr (1, [.ref a_terms_parts_items, .int a_terms_parts_size])), (a_terms_parts_items, .inl (cs 0, a_terms_parts_items_n, .inl a_terms_parts_items_f))] := ⟨hP, hD⟩
          obtain ⟨hi9, hok⟩ := ck_some hok
          refine va_iast hx hb hK hP hD hS 1 0 rfl rfl (ixb_in hi9) d_UB_part_74 (fun H locs hP hD hS => ?_)
          obtain ⟨hP, hD⟩ : PD g A H [(a, .inr (9, [.ref a_tape, .ref a_names, .ref a_terms, .ref a_reader, .ref a_unifier, .ref a_printer, .ref a_registers, .ref a_marked, .int a_marks, .int a_place])), (a_registers, .inl (cs 0, a_registers_n, .inl (upd a_registers_f to_.toNatClampNeg r8))), (a_terms_became, .inl (cs 0, a_terms_became_n, .inl a_terms_became_f)), (a_terms_shapes, .inl (cs 0, a_terms_shapes_n, .inl a_terms_shapes_f)), (a_terms, .inr (7, [.ref a_terms_shapes, .ref a_terms_values, .ref a_terms_firstParts, .int a_terms_nodes, .ref a_terms_parts, .ref a_terms_variableNames, .ref a_terms_became, .int a_terms_variables, .int a_terms_variablesLack, .int a_terms_symbols, .int a_terms_nodesBefore, .int a_terms_partsBefore, .int a_terms_variablesBefore])), (a_terms_firstParts, .inl (cs 0, a_terms_firstParts_n, .inl a_terms_firstParts_f)), (a_terms_parts, .inr (1, [.ref a_terms_parts_items, .int a_terms_parts_size])), (a_terms_parts_items, .inl (cs 0, a_terms_parts_items_n, .inl a_terms_parts_items_f))] := ⟨hP, hD⟩
          obtain ⟨hq, hw⟩ := Prod.mk.inj (Option.some.inj hok)
          obtain ⟨hmc0, hms0⟩ := Prod.mk.inj hw
          obtain ⟨hq0, hq⟩ := Prod.mk.inj hq
          have hq1 := hq
          subst hq0
          subst hq1
          obtain ⟨hP9, hD9⟩ := sub2 (ws' := [(a, .inr (9, [.ref a_tape, .ref a_names, .ref a_terms, .ref a_reader, .ref a_unifier, .ref a_printer, .ref a_registers, .ref a_marked, .int a_marks, .int a_place])), (a_terms, .inr (7, [.ref a_terms_shapes, .ref a_terms_values, .ref a_terms_firstParts, .int a_terms_nodes, .ref a_terms_parts, .ref a_terms_variableNames, .ref a_terms_became, .int a_terms_variables, .int a_terms_variablesLack, .int a_terms_symbols, .int a_terms_nodesBefore, .int a_terms_partsBefore, .int a_terms_variablesBefore])), (a_terms_shapes, .inl (cs 0, a_terms_shapes_n, .inl a_terms_shapes_f)), (a_terms_firstParts, .inl (cs 0, a_terms_firstParts_n, .inl a_terms_firstParts_f)), (a_terms_parts, .inr (1, [.ref a_terms_parts_items, .int a_terms_parts_size])), (a_terms_parts_items, .inl (cs 0, a_terms_parts_items_n, .inl a_terms_parts_items_f)), (a_terms_became, .inl (cs 0, a_terms_became_n, .inl a_terms_became_f)), (a_registers, .inl (cs 0, a_registers_n, .inl (upd a_registers_f to_.toNatClampNeg r8)))]) hP hD [0, 4, 3, 5, 6, 7, 2, 1] rfl (by decide) rfl
          refine W.widen (k := mc) (n := ms) (by omega) (by omega) ?_
          rw [hQ]
          exact tx_ret (W.vret hx hb hr (fun t ht hW => ⟨⟨tx_O.r0, by rw [ht]; exact hP9, hD9⟩, hS.F ht⟩) hS.2.2 d_UB_part_75)
        · rw [if_neg h7] at hok
          obtain ⟨m11, s11, hok, hmc11, hms11⟩ := al_some hok
          obtain ⟨hq, hw⟩ := Prod.mk.inj (Option.some.inj hok)
          obtain ⟨hmc0, hms0⟩ := Prod.mk.inj hw
          obtain ⟨hq0, hq⟩ := Prod.mk.inj hq
          have hq1 := hq
          subst hq0
          subst hq1
          have hD9 := hD.sub (ws' := [(a, .inr (9, [.ref a_tape, .ref a_names, .ref a_terms, .ref a_reader, .ref a_unifier, .ref a_printer, .ref a_registers, .ref a_marked, .int a_marks, .int a_place])), (a_terms, .inr (7, [.ref a_terms_shapes, .ref a_terms_values, .ref a_terms_firstParts, .int a_terms_nodes, .ref a_terms_parts, .ref a_terms_variableNames, .ref a_terms_became, .int a_terms_variables, .int a_terms_variablesLack, .int a_terms_symbols, .int a_terms_nodesBefore, .int a_terms_partsBefore, .int a_terms_variablesBefore])), (a_terms_shapes, .inl (cs 0, a_terms_shapes_n, .inl a_terms_shapes_f)), (a_terms_firstParts, .inl (cs 0, a_terms_firstParts_n, .inl a_terms_firstParts_f)), (a_terms_parts, .inr (1, [.ref a_terms_parts_items, .int a_terms_parts_size])), (a_terms_parts_items, .inl (cs 0, a_terms_parts_items_n, .inl a_terms_parts_items_f)), (a_terms_became, .inl (cs 0, a_terms_became_n, .inl a_terms_became_f)), (a_registers, .inl (cs 0, a_registers_n, .inl a_registers_f))]) [0, 6, 7, 1, 2, 3, 5, 4] (by decide) rfl
          rw [hQ]
          refine tx_wid (k := 0 + mk1 + mk2 + 0 + 0 + 1) (n := 0 + sk1 + sk2 + 0 + 0 + 6) (by omega) (by omega) ?_
          exact tx_throw (X := "java/util/NoSuchElementException") hx hb (hml.trans hl.1.symm) hfl hlocks hown (by decide) (hg _ wd_653) (hg _ wd_654) (tx_before tx_at_UB_144 hg hgl hkn) hkn hP hS hA (tx_noH B hcd 56) (show 0 + mk1 + mk2 + 0 + 0 + 1 ≤ mc from by omega) (show 0 + sk1 + sk2 + 0 + 0 + 6 ≤ ms from by omega) (Nat.le_of_ble_eq_true rfl) (Nat.le_of_ble_eq_true rfl) d_UB_part_49 d_UB_part_52 d_UB_part_53 d_UB_part_56 (fun t x hPt hSt hW hX => ⟨⟨tx_O.t0 (by decide) hX, hPt.sub (ws' := [(a, .inr (9, [.ref a_tape, .ref a_names, .ref a_terms, .ref a_reader, .ref a_unifier, .ref a_printer, .ref a_registers, .ref a_marked, .int a_marks, .int a_place])), (a_terms, .inr (7, [.ref a_terms_shapes, .ref a_terms_values, .ref a_terms_firstParts, .int a_terms_nodes, .ref a_terms_parts, .ref a_terms_variableNames, .ref a_terms_became, .int a_terms_variables, .int a_terms_variablesLack, .int a_terms_symbols, .int a_terms_nodesBefore, .int a_terms_partsBefore, .int a_terms_variablesBefore])), (a_terms_shapes, .inl (cs 0, a_terms_shapes_n, .inl a_terms_shapes_f)), (a_terms_firstParts, .inl (cs 0, a_terms_firstParts_n, .inl a_terms_firstParts_f)), (a_terms_parts, .inr (1, [.ref a_terms_parts_items, .int a_terms_parts_size])), (a_terms_parts_items, .inl (cs 0, a_terms_parts_items_n, .inl a_terms_parts_items_f)), (a_terms_became, .inl (cs 0, a_terms_became_n, .inl a_terms_became_f)), (a_registers, .inl (cs 0, a_registers_n, .inl a_registers_f))]) [0, 6, 7, 1, 2, 3, 5, 4] rfl, hD9⟩, hSt.F rfl⟩) hS.2.2
      · rw [if_neg h3] at hok
        obtain ⟨m13, s13, hok, hmc13, hms13⟩ := al_some hok
        obtain ⟨hq, hw⟩ := Prod.mk.inj (Option.some.inj hok)
        obtain ⟨hmc0, hms0⟩ := Prod.mk.inj hw
        obtain ⟨hq0, hq⟩ := Prod.mk.inj hq
        have hq1 := hq
        subst hq0
        subst hq1
        have hD9 := hD.sub (ws' := [(a, .inr (9, [.ref a_tape, .ref a_names, .ref a_terms, .ref a_reader, .ref a_unifier, .ref a_printer, .ref a_registers, .ref a_marked, .int a_marks, .int a_place])), (a_terms, .inr (7, [.ref a_terms_shapes, .ref a_terms_values, .ref a_terms_firstParts, .int a_terms_nodes, .ref a_terms_parts, .ref a_terms_variableNames, .ref a_terms_became, .int a_terms_variables, .int a_terms_variablesLack, .int a_terms_symbols, .int a_terms_nodesBefore, .int a_terms_partsBefore, .int a_terms_variablesBefore])), (a_terms_shapes, .inl (cs 0, a_terms_shapes_n, .inl a_terms_shapes_f)), (a_terms_firstParts, .inl (cs 0, a_terms_firstParts_n, .inl a_terms_firstParts_f)), (a_terms_parts, .inr (1, [.ref a_terms_parts_items, .int a_terms_parts_size])), (a_terms_parts_items, .inl (cs 0, a_terms_parts_items_n, .inl a_terms_parts_items_f)), (a_terms_became, .inl (cs 0, a_terms_became_n, .inl a_terms_became_f)), (a_registers, .inl (cs 0, a_registers_n, .inl a_registers_f))]) [0, 1, 2, 3, 4, 5, 6, 7] (by decide) rfl
        rw [hQ]
        refine tx_wid (k := 0 + mk1 + mk2 + 1) (n := 0 + sk1 + sk2 + 6) (by omega) (by omega) ?_
        exact tx_throw (X := "java/lang/IllegalArgumentException") hx hb (hml.trans hl.1.symm) hfl hlocks hown (by decide) (hg _ wd_626) (hg _ wd_627) (tx_before tx_at_UB_99 hg hgl hkn) hkn hP hS hA (tx_noH B hcd 20) (show 0 + mk1 + mk2 + 1 ≤ mc from by omega) (show 0 + sk1 + sk2 + 6 ≤ ms from by omega) (Nat.le_of_ble_eq_true rfl) (Nat.le_of_ble_eq_true rfl) d_UB_part_13 d_UB_part_16 d_UB_part_17 d_UB_part_20 (fun t x hPt hSt hW hX => ⟨⟨tx_O.t0 (by decide) hX, hPt.sub (ws' := [(a, .inr (9, [.ref a_tape, .ref a_names, .ref a_terms, .ref a_reader, .ref a_unifier, .ref a_printer, .ref a_registers, .ref a_marked, .int a_marks, .int a_place])), (a_terms, .inr (7, [.ref a_terms_shapes, .ref a_terms_values, .ref a_terms_firstParts, .int a_terms_nodes, .ref a_terms_parts, .ref a_terms_variableNames, .ref a_terms_became, .int a_terms_variables, .int a_terms_variablesLack, .int a_terms_symbols, .int a_terms_nodesBefore, .int a_terms_partsBefore, .int a_terms_variablesBefore])), (a_terms_shapes, .inl (cs 0, a_terms_shapes_n, .inl a_terms_shapes_f)), (a_terms_firstParts, .inl (cs 0, a_terms_firstParts_n, .inl a_terms_firstParts_f)), (a_terms_parts, .inr (1, [.ref a_terms_parts_items, .int a_terms_parts_size])), (a_terms_parts_items, .inl (cs 0, a_terms_parts_items_n, .inl a_terms_parts_items_f)), (a_terms_became, .inl (cs 0, a_terms_became_n, .inl a_terms_became_f)), (a_registers, .inl (cs 0, a_registers_n, .inl a_registers_f))]) [0, 1, 2, 3, 4, 5, 6, 7] rfl, hD9⟩, hSt.F rfl⟩) hS.2.2
    · obtain ⟨⟨hO, hB⟩, -⟩ := hB
      obtain ⟨hx2, hX⟩ := hO.thr
      rw [if_neg hx2] at hok
      rw [ht] at hB
      obtain ⟨hP1, hD1⟩ := hB
      obtain ⟨hP, hD⟩ := jn_A hP hD [] [0, 1, 2, 3, 4, 5, 6, 7] rfl rfl (by decide) (by decide) hk1 hFc hP1 hD1
      obtain ⟨hq, hw⟩ := Prod.mk.inj (Option.some.inj hok)
      obtain ⟨hmc0, hms0⟩ := Prod.mk.inj hw
      obtain ⟨hq0, hq⟩ := Prod.mk.inj hq
      have hq1 := hq
      subst hq0
      subst hq1
      obtain ⟨hP9, hD9⟩ := sub2 (ws' := [(a, .inr (9, [.ref a_tape, .ref a_names, .ref a_terms, .ref a_reader, .ref a_unifier, .ref a_printer, .ref a_registers, .ref a_marked, .int a_marks, .int a_place])), (a_terms, .inr (7, [.ref a_terms_shapes, .ref a_terms_values, .ref a_terms_firstParts, .int a_terms_nodes, .ref a_terms_parts, .ref a_terms_variableNames, .ref a_terms_became, .int a_terms_variables, .int a_terms_variablesLack, .int a_terms_symbols, .int a_terms_nodesBefore, .int a_terms_partsBefore, .int a_terms_variablesBefore])), (a_terms_shapes, .inl (cs 0, a_terms_shapes_n, .inl a_terms_shapes_f)), (a_terms_firstParts, .inl (cs 0, a_terms_firstParts_n, .inl a_terms_firstParts_f)), (a_terms_parts, .inr (1, [.ref a_terms_parts_items, .int a_terms_parts_size])), (a_terms_parts_items, .inl (cs 0, a_terms_parts_items_n, .inl a_terms_parts_items_f)), (a_terms_became, .inl (cs 0, a_terms_became_n, .inl a_terms_became_f)), (a_registers, .inl (cs 0, a_registers_n, .inl a_registers_f))]) hP hD [0, 1, 2, 3, 4, 5, 6, 7] rfl (by decide) rfl
      exact ⟨fun t' ht' hv' hW' => ⟨⟨tx_O.t0 hx2 (hX.moved (ht.trans ht'.symm) hv'), by rw [ht']; exact hP9, hD9⟩, hS.F ht'⟩, hS.2.2, by omega, by omega⟩
  · obtain ⟨⟨hO, hB⟩, -⟩ := hB
    obtain ⟨hx1, hX⟩ := hO.thr
    rw [if_neg hx1] at hok
    rw [ht] at hB
    obtain ⟨hP1, hD1⟩ := hB
    obtain ⟨hP, hD⟩ := jn_A hP hD [] [0, 1, 2, 3, 4, 5, 6, 7] rfl rfl (by decide) (by decide) hk1 hFc hP1 hD1
    obtain ⟨hq, hw⟩ := Prod.mk.inj (Option.some.inj hok)
    obtain ⟨hmc0, hms0⟩ := Prod.mk.inj hw
    obtain ⟨hq0, hq⟩ := Prod.mk.inj hq
    have hq1 := hq
    subst hq0
    subst hq1
    obtain ⟨hP9, hD9⟩ := sub2 (ws' := [(a, .inr (9, [.ref a_tape, .ref a_names, .ref a_terms, .ref a_reader, .ref a_unifier, .ref a_printer, .ref a_registers, .ref a_marked, .int a_marks, .int a_place])), (a_terms, .inr (7, [.ref a_terms_shapes, .ref a_terms_values, .ref a_terms_firstParts, .int a_terms_nodes, .ref a_terms_parts, .ref a_terms_variableNames, .ref a_terms_became, .int a_terms_variables, .int a_terms_variablesLack, .int a_terms_symbols, .int a_terms_nodesBefore, .int a_terms_partsBefore, .int a_terms_variablesBefore])), (a_terms_shapes, .inl (cs 0, a_terms_shapes_n, .inl a_terms_shapes_f)), (a_terms_firstParts, .inl (cs 0, a_terms_firstParts_n, .inl a_terms_firstParts_f)), (a_terms_parts, .inr (1, [.ref a_terms_parts_items, .int a_terms_parts_size])), (a_terms_parts_items, .inl (cs 0, a_terms_parts_items_n, .inl a_terms_parts_items_f)), (a_terms_became, .inl (cs 0, a_terms_became_n, .inl a_terms_became_f)), (a_registers, .inl (cs 0, a_registers_n, .inl a_registers_f))]) hP hD [0, 1, 2, 3, 4, 5, 6, 7] rfl (by decide) rfl
    exact ⟨fun t' ht' hv' hW' => ⟨⟨tx_O.t0 hx1 (hX.moved (ht.trans ht'.symm) hv'), by rw [ht']; exact hP9, hD9⟩, hS.F ht'⟩, hS.2.2, by omega, by omega⟩

theorem d_UB_reset_0 : decode b_UB_reset 0 = .ok (.aload_n 0, 1) := by decide +kernel
theorem d_UB_reset_1 : decode b_UB_reset 1 = .ok (.getfield 62, 3) := by decide +kernel
theorem d_UB_reset_4 : decode b_UB_reset 4 = .ok (.sipush 200, 3) := by decide +kernel
theorem d_UB_reset_7 : decode b_UB_reset 7 = .ok (.invokestatic 80, 3) := by decide +kernel
theorem d_UB_reset_10 : decode b_UB_reset 10 = .ok (.aload_n 0, 1) := by decide +kernel
theorem d_UB_reset_11 : decode b_UB_reset 11 = .ok (.getfield 26, 3) := by decide +kernel
theorem d_UB_reset_14 : decode b_UB_reset 14 = .ok (.invokevirtual 162, 3) := by decide +kernel
theorem d_UB_reset_17 : decode b_UB_reset 17 = .ok (.aload_n 0, 1) := by decide +kernel
theorem d_UB_reset_18 : decode b_UB_reset 18 = .ok (.getfield 19, 3) := by decide +kernel
theorem d_UB_reset_21 : decode b_UB_reset 21 = .ok (.invokevirtual 165, 3) := by decide +kernel
theorem d_UB_reset_24 : decode b_UB_reset 24 = .ok (.aload_n 0, 1) := by decide +kernel
theorem d_UB_reset_25 : decode b_UB_reset 25 = .ok (.getfield 69, 3) := by decide +kernel
theorem d_UB_reset_28 : decode b_UB_reset 28 = .ok (.iconst 0, 1) := by decide +kernel
theorem d_UB_reset_29 : decode b_UB_reset 29 = .ok (.invokevirtual 166, 3) := by decide +kernel
theorem d_UB_reset_32 : decode b_UB_reset 32 = .ok (.aload_n 0, 1) := by decide +kernel
theorem d_UB_reset_33 : decode b_UB_reset 33 = .ok (.iconst 0, 1) := by decide +kernel
theorem d_UB_reset_34 : decode b_UB_reset 34 = .ok (.putfield 73, 3) := by decide +kernel
theorem d_UB_reset_37 : decode b_UB_reset 37 = .ok (.return_, 1) := by decide +kernel
def p_UB_reset (n : Nat) (a_marks : Int32) (a_place : Int32) (a_names_textsSize : Int32) (a_names_sizeBefore : Int32) (a_names_texts_n : Nat) (a_names_texts_f : Nat → Int32) (a_names_ends_size : Int32) (a_names_ends_items_n : Nat) (a_names_ends_items_f : Nat → Int32) (a_names_older_size : Int32) (a_names_older_items_n : Nat) (a_names_older_items_f : Nat → Int32) (a_names_newest_n : Nat) (a_names_newest_f : Nat → Int32) (a_terms_nodes : Int32) (a_terms_variables : Int32) (a_terms_variablesLack : Int32) (a_terms_symbols : Int32) (a_terms_nodesBefore : Int32) (a_terms_partsBefore : Int32) (a_terms_variablesBefore : Int32) (a_terms_parts_size : Int32) (a_terms_became_n : Nat) (a_terms_became_f : Nat → Int32) (a_registers_n : Nat) (a_registers_f : Nat → Int32) (a_marked_size : Int32) : Option (Int32 × Int32 × Int32 × (Nat → Int32) × Int32 × Int32 × Int32 × Int32 × (Nat → Int32) × (Nat → Int32) × Int32) := (p_Arrays_fill n (200 : Int32) a_registers_n a_registers_f).bind (fun b_f_1 => (p_Terms_forgetAll n a_terms_nodes a_terms_variables a_terms_variablesLack a_terms_symbols a_terms_nodesBefore a_terms_partsBefore a_terms_variablesBefore a_terms_parts_size a_terms_became_n a_terms_became_f).bind (fun (a_nodes_2, a_variables_2, a_symbols_2, a_parts_size_2, a_became_f_2) => (p_Names_forgetAll n a_names_textsSize a_names_sizeBefore a_names_texts_n a_names_texts_f a_names_ends_size a_names_ends_items_n a_names_ends_items_f a_names_older_size a_names_older_items_n a_names_older_items_f a_names_newest_n a_names_newest_f).bind (fun (a_ends_size_3, a_older_size_3, a_newest_f_3) => (p_Ints_cut (0 : Int32) a_marked_size).bind (fun a_size_4 => some ((0 : Int32), a_ends_size_3, a_older_size_3, a_newest_f_3, a_nodes_2, a_variables_2, a_symbols_2, a_parts_size_2, a_became_f_2, b_f_1, a_size_4)))))
set_option maxHeartbeats 4000000 in
set_option maxRecDepth 100000 in
theorem c_UB_reset (l : Launch) (g : va_G) (cs : Nat → ClassId) (ka : Nat → Nat) (a_tape : Nat) (a_reader : Nat) (a_unifier : Nat) (a_printer : Nat) (a_terms_shapes : Nat) (a_terms_values : Nat) (a_terms_firstParts : Nat) (a_terms_variableNames : Nat) (a_terms_parts_items : Nat) (a_marked_items : Nat) (a a_names a_names_texts a_names_ends a_names_ends_items a_names_older a_names_older_items a_names_newest a_terms a_terms_parts a_terms_became a_registers a_marked : Nat) (sz : Nat) (n : Nat) (a_marks : Int32) (a_place : Int32) (a_names_textsSize : Int32) (a_names_sizeBefore : Int32) (a_names_texts_n : Nat) (a_names_texts_f : Nat → Int32) (a_names_ends_size : Int32) (a_names_ends_items_n : Nat) (a_names_ends_items_f : Nat → Int32) (a_names_older_size : Int32) (a_names_older_items_n : Nat) (a_names_older_items_f : Nat → Int32) (a_names_newest_n : Nat) (a_names_newest_f : Nat → Int32) (a_terms_nodes : Int32) (a_terms_variables : Int32) (a_terms_variablesLack : Int32) (a_terms_symbols : Int32) (a_terms_nodesBefore : Int32) (a_terms_partsBefore : Int32) (a_terms_variablesBefore : Int32) (a_terms_parts_size : Int32) (a_terms_became_n : Nat) (a_terms_became_f : Nat → Int32) (a_registers_n : Nat) (a_registers_f : Nat → Int32) (a_marked_size : Int32) (o_a_marks : Int32) (o_a_names_ends_size : Int32) (o_a_names_older_size : Int32) (o_a_names_newest_f : Nat → Int32) (o_a_terms_nodes : Int32) (o_a_terms_variables : Int32) (o_a_terms_symbols : Int32) (o_a_terms_parts_size : Int32) (o_a_terms_became_f : Nat → Int32) (o_a_registers_f : Nat → Int32) (o_a_marked_size : Int32) (hok : p_UB_reset n a_marks a_place a_names_textsSize a_names_sizeBefore a_names_texts_n a_names_texts_f a_names_ends_size a_names_ends_items_n a_names_ends_items_f a_names_older_size a_names_older_items_n a_names_older_items_f a_names_newest_n a_names_newest_f a_terms_nodes a_terms_variables a_terms_variablesLack a_terms_symbols a_terms_nodesBefore a_terms_partsBefore a_terms_variablesBefore a_terms_parts_size a_terms_became_n a_terms_became_f a_registers_n a_registers_f a_marked_size = some (o_a_marks, o_a_names_ends_size, o_a_names_older_size, o_a_names_newest_f, o_a_terms_nodes, o_a_terms_variables, o_a_terms_symbols, o_a_terms_parts_size, o_a_terms_became_f, o_a_registers_f, o_a_marked_size)) : Met l y_UB_reset (.code y_UB_reset b_UB_reset 1 none :: GW) { frames := 4, cells := 0, slots := 0, locals := 87 } (va_Pc [.ref a] (gP g cs ka [(a, .inr (9, [.ref a_tape, .ref a_names, .ref a_terms, .ref a_reader, .ref a_unifier, .ref a_printer, .ref a_registers, .ref a_marked, .int a_marks, .int a_place])), (a_names, .inr (2, [.ref a_names_texts, .int a_names_textsSize, .ref a_names_ends, .ref a_names_older, .ref a_names_newest, .int a_names_sizeBefore])), (a_names_texts, .inl (cs 1, a_names_texts_n, .inl a_names_texts_f)), (a_names_ends, .inr (1, [.ref a_names_ends_items, .int a_names_ends_size])), (a_names_ends_items, .inl (cs 0, a_names_ends_items_n, .inl a_names_ends_items_f)), (a_names_older, .inr (1, [.ref a_names_older_items, .int a_names_older_size])), (a_names_older_items, .inl (cs 0, a_names_older_items_n, .inl a_names_older_items_f)), (a_names_newest, .inl (cs 0, a_names_newest_n, .inl a_names_newest_f)), (a_terms, .inr (7, [.ref a_terms_shapes, .ref a_terms_values, .ref a_terms_firstParts, .int a_terms_nodes, .ref a_terms_parts, .ref a_terms_variableNames, .ref a_terms_became, .int a_terms_variables, .int a_terms_variablesLack, .int a_terms_symbols, .int a_terms_nodesBefore, .int a_terms_partsBefore, .int a_terms_variablesBefore])), (a_terms_parts, .inr (1, [.ref a_terms_parts_items, .int a_terms_parts_size])), (a_terms_became, .inl (cs 0, a_terms_became_n, .inl a_terms_became_f)), (a_registers, .inl (cs 0, a_registers_n, .inl a_registers_f)), (a_marked, .inr (1, [.ref a_marked_items, .int a_marked_size]))] sz)) (va_Qv (fun _ : Unit => True) (fun _ t => va_P g classes [(a, .inr (9, [.ref a_tape, .ref a_names, .ref a_terms, .ref a_reader, .ref a_unifier, .ref a_printer, .ref a_registers, .ref a_marked, .int o_a_marks, .int a_place])), (a_names, .inr (2, [.ref a_names_texts, .int a_names_textsSize, .ref a_names_ends, .ref a_names_older, .ref a_names_newest, .int a_names_sizeBefore])), (a_names_texts, .inl (cs 1, a_names_texts_n, .inl a_names_texts_f)), (a_names_ends, .inr (1, [.ref a_names_ends_items, .int o_a_names_ends_size])), (a_names_ends_items, .inl (cs 0, a_names_ends_items_n, .inl a_names_ends_items_f)), (a_names_older, .inr (1, [.ref a_names_older_items, .int o_a_names_older_size])), (a_names_older_items, .inl (cs 0, a_names_older_items_n, .inl a_names_older_items_f)), (a_names_newest, .inl (cs 0, a_names_newest_n, .inl o_a_names_newest_f)), (a_terms, .inr (7, [.ref a_terms_shapes, .ref a_terms_values, .ref a_terms_firstParts, .int o_a_terms_nodes, .ref a_terms_parts, .ref a_terms_variableNames, .ref a_terms_became, .int o_a_terms_variables, .int a_terms_variablesLack, .int o_a_terms_symbols, .int a_terms_nodesBefore, .int a_terms_partsBefore, .int a_terms_variablesBefore])), (a_terms_parts, .inr (1, [.ref a_terms_parts_items, .int o_a_terms_parts_size])), (a_terms_became, .inl (cs 0, a_terms_became_n, .inl o_a_terms_became_f)), (a_registers, .inl (cs 0, a_registers_n, .inl o_a_registers_f)), (a_marked, .inr (1, [.ref a_marked_items, .int o_a_marked_size]))] t.heap ∧ va_D (va_A [(a, .inr (9, [.ref a_tape, .ref a_names, .ref a_terms, .ref a_reader, .ref a_unifier, .ref a_printer, .ref a_registers, .ref a_marked, .int a_marks, .int a_place])), (a_names, .inr (2, [.ref a_names_texts, .int a_names_textsSize, .ref a_names_ends, .ref a_names_older, .ref a_names_newest, .int a_names_sizeBefore])), (a_names_texts, .inl (cs 1, a_names_texts_n, .inl a_names_texts_f)), (a_names_ends, .inr (1, [.ref a_names_ends_items, .int a_names_ends_size])), (a_names_ends_items, .inl (cs 0, a_names_ends_items_n, .inl a_names_ends_items_f)), (a_names_older, .inr (1, [.ref a_names_older_items, .int a_names_older_size])), (a_names_older_items, .inl (cs 0, a_names_older_items_n, .inl a_names_older_items_f)), (a_names_newest, .inl (cs 0, a_names_newest_n, .inl a_names_newest_f)), (a_terms, .inr (7, [.ref a_terms_shapes, .ref a_terms_values, .ref a_terms_firstParts, .int a_terms_nodes, .ref a_terms_parts, .ref a_terms_variableNames, .ref a_terms_became, .int a_terms_variables, .int a_terms_variablesLack, .int a_terms_symbols, .int a_terms_nodesBefore, .int a_terms_partsBefore, .int a_terms_variablesBefore])), (a_terms_parts, .inr (1, [.ref a_terms_parts_items, .int a_terms_parts_size])), (a_terms_became, .inl (cs 0, a_terms_became_n, .inl a_terms_became_f)), (a_registers, .inl (cs 0, a_registers_n, .inl a_registers_f)), (a_marked, .inr (1, [.ref a_marked_items, .int a_marked_size]))] sz) [(a, .inr (9, [.ref a_tape, .ref a_names, .ref a_terms, .ref a_reader, .ref a_unifier, .ref a_printer, .ref a_registers, .ref a_marked, .int o_a_marks, .int a_place])), (a_names, .inr (2, [.ref a_names_texts, .int a_names_textsSize, .ref a_names_ends, .ref a_names_older, .ref a_names_newest, .int a_names_sizeBefore])), (a_names_texts, .inl (cs 1, a_names_texts_n, .inl a_names_texts_f)), (a_names_ends, .inr (1, [.ref a_names_ends_items, .int o_a_names_ends_size])), (a_names_ends_items, .inl (cs 0, a_names_ends_items_n, .inl a_names_ends_items_f)), (a_names_older, .inr (1, [.ref a_names_older_items, .int o_a_names_older_size])), (a_names_older_items, .inl (cs 0, a_names_older_items_n, .inl a_names_older_items_f)), (a_names_newest, .inl (cs 0, a_names_newest_n, .inl o_a_names_newest_f)), (a_terms, .inr (7, [.ref a_terms_shapes, .ref a_terms_values, .ref a_terms_firstParts, .int o_a_terms_nodes, .ref a_terms_parts, .ref a_terms_variableNames, .ref a_terms_became, .int o_a_terms_variables, .int a_terms_variablesLack, .int o_a_terms_symbols, .int a_terms_nodesBefore, .int a_terms_partsBefore, .int a_terms_variablesBefore])), (a_terms_parts, .inr (1, [.ref a_terms_parts_items, .int o_a_terms_parts_size])), (a_terms_became, .inl (cs 0, a_terms_became_n, .inl o_a_terms_became_f)), (a_registers, .inl (cs 0, a_registers_n, .inl o_a_registers_f)), (a_marked, .inr (1, [.ref a_marked_items, .int o_a_marked_size]))]) (va_A [(a, .inr (9, [.ref a_tape, .ref a_names, .ref a_terms, .ref a_reader, .ref a_unifier, .ref a_printer, .ref a_registers, .ref a_marked, .int a_marks, .int a_place])), (a_names, .inr (2, [.ref a_names_texts, .int a_names_textsSize, .ref a_names_ends, .ref a_names_older, .ref a_names_newest, .int a_names_sizeBefore])), (a_names_texts, .inl (cs 1, a_names_texts_n, .inl a_names_texts_f)), (a_names_ends, .inr (1, [.ref a_names_ends_items, .int a_names_ends_size])), (a_names_ends_items, .inl (cs 0, a_names_ends_items_n, .inl a_names_ends_items_f)), (a_names_older, .inr (1, [.ref a_names_older_items, .int a_names_older_size])), (a_names_older_items, .inl (cs 0, a_names_older_items_n, .inl a_names_older_items_f)), (a_names_newest, .inl (cs 0, a_names_newest_n, .inl a_names_newest_f)), (a_terms, .inr (7, [.ref a_terms_shapes, .ref a_terms_values, .ref a_terms_firstParts, .int a_terms_nodes, .ref a_terms_parts, .ref a_terms_variableNames, .ref a_terms_became, .int a_terms_variables, .int a_terms_variablesLack, .int a_terms_symbols, .int a_terms_nodesBefore, .int a_terms_partsBefore, .int a_terms_variablesBefore])), (a_terms_parts, .inr (1, [.ref a_terms_parts_items, .int a_terms_parts_size])), (a_terms_became, .inl (cs 0, a_terms_became_n, .inl a_terms_became_f)), (a_registers, .inl (cs 0, a_registers_n, .inl a_registers_f)), (a_marked, .inr (1, [.ref a_marked_items, .int a_marked_size]))] sz)) 0 0 (va_A [(a, .inr (9, [.ref a_tape, .ref a_names, .ref a_terms, .ref a_reader, .ref a_unifier, .ref a_printer, .ref a_registers, .ref a_marked, .int a_marks, .int a_place])), (a_names, .inr (2, [.ref a_names_texts, .int a_names_textsSize, .ref a_names_ends, .ref a_names_older, .ref a_names_newest, .int a_names_sizeBefore])), (a_names_texts, .inl (cs 1, a_names_texts_n, .inl a_names_texts_f)), (a_names_ends, .inr (1, [.ref a_names_ends_items, .int a_names_ends_size])), (a_names_ends_items, .inl (cs 0, a_names_ends_items_n, .inl a_names_ends_items_f)), (a_names_older, .inr (1, [.ref a_names_older_items, .int a_names_older_size])), (a_names_older_items, .inl (cs 0, a_names_older_items_n, .inl a_names_older_items_f)), (a_names_newest, .inl (cs 0, a_names_newest_n, .inl a_names_newest_f)), (a_terms, .inr (7, [.ref a_terms_shapes, .ref a_terms_values, .ref a_terms_firstParts, .int a_terms_nodes, .ref a_terms_parts, .ref a_terms_variableNames, .ref a_terms_became, .int a_terms_variables, .int a_terms_variablesLack, .int a_terms_symbols, .int a_terms_nodesBefore, .int a_terms_partsBefore, .int a_terms_variablesBefore])), (a_terms_parts, .inr (1, [.ref a_terms_parts_items, .int a_terms_parts_size])), (a_terms_became, .inl (cs 0, a_terms_became_n, .inl a_terms_became_f)), (a_registers, .inl (cs 0, a_registers_n, .inl a_registers_f)), (a_marked, .inr (1, [.ref a_marked_items, .int a_marked_size]))] sz) := by
  refine Met.ofW (cc := b_UB_reset) (maxL := 1) (ret := none) (by decide) rfl ?_
  intro p e s m args below meth c s₁ B hml hv
  obtain ⟨rfl, hsz, hP, hK, hD0, hgl, hkn, hkr⟩ := hv
  have hx := B.exec
  have hb := B.bytes
  have hr := B.returns
  have hg : ∀ w ∈ GW, w.before ([.ref a] : List Value).toArray s = true := fun w hw => atoms_spec (ws := .code y_UB_reset b_UB_reset 1 none :: GW) B.pre w (List.mem_cons_of_mem _ hw)
  have hown : s.vm.findClass R_UB = some m.cls := findClass_of_methodNamed B.named
  have hlocks := B.notSynchronized
  subst hsz
  have hD := hD0.self (sz := s.heap.size)
  generalize hAe : va_A [(a, .inr (9, [.ref a_tape, .ref a_names, .ref a_terms, .ref a_reader, .ref a_unifier, .ref a_printer, .ref a_registers, .ref a_marked, .int a_marks, .int a_place])), (a_names, .inr (2, [.ref a_names_texts, .int a_names_textsSize, .ref a_names_ends, .ref a_names_older, .ref a_names_newest, .int a_names_sizeBefore])), (a_names_texts, .inl (cs 1, a_names_texts_n, .inl a_names_texts_f)), (a_names_ends, .inr (1, [.ref a_names_ends_items, .int a_names_ends_size])), (a_names_ends_items, .inl (cs 0, a_names_ends_items_n, .inl a_names_ends_items_f)), (a_names_older, .inr (1, [.ref a_names_older_items, .int a_names_older_size])), (a_names_older_items, .inl (cs 0, a_names_older_items_n, .inl a_names_older_items_f)), (a_names_newest, .inl (cs 0, a_names_newest_n, .inl a_names_newest_f)), (a_terms, .inr (7, [.ref a_terms_shapes, .ref a_terms_values, .ref a_terms_firstParts, .int a_terms_nodes, .ref a_terms_parts, .ref a_terms_variableNames, .ref a_terms_became, .int a_terms_variables, .int a_terms_variablesLack, .int a_terms_symbols, .int a_terms_nodesBefore, .int a_terms_partsBefore, .int a_terms_variablesBefore])), (a_terms_parts, .inr (1, [.ref a_terms_parts_items, .int a_terms_parts_size])), (a_terms_became, .inl (cs 0, a_terms_became_n, .inl a_terms_became_f)), (a_registers, .inl (cs 0, a_registers_n, .inl a_registers_f)), (a_marked, .inr (1, [.ref a_marked_items, .int a_marked_size]))] s.heap.size = A at hD hkn ⊢
  have hA : ∀ q : Nat, s.heap.size ≤ q → A q := fun q h => by rw [← hAe]; exact Or.inr h
  have hS : va_S A s.heap s.heap [] := va_S.rf
  have hP : va_P g classes [(a, .inr (9, [.ref a_tape, .ref a_names, .ref a_terms, .ref a_reader, .ref a_unifier, .ref a_printer, .ref a_registers, .ref a_marked, .int a_marks, .int a_place])), (a_names, .inr (2, [.ref a_names_texts, .int a_names_textsSize, .ref a_names_ends, .ref a_names_older, .ref a_names_newest, .int a_names_sizeBefore])), (a_names_texts, .inl (cs 1, a_names_texts_n, .inl a_names_texts_f)), (a_names_ends, .inr (1, [.ref a_names_ends_items, .int a_names_ends_size])), (a_names_ends_items, .inl (cs 0, a_names_ends_items_n, .inl a_names_ends_items_f)), (a_names_older, .inr (1, [.ref a_names_older_items, .int a_names_older_size])), (a_names_older_items, .inl (cs 0, a_names_older_items_n, .inl a_names_older_items_f)), (a_names_newest, .inl (cs 0, a_names_newest_n, .inl a_names_newest_f)), (a_terms, .inr (7, [.ref a_terms_shapes, .ref a_terms_values, .ref a_terms_firstParts, .int a_terms_nodes, .ref a_terms_parts, .ref a_terms_variableNames, .ref a_terms_became, .int a_terms_variables, .int a_terms_variablesLack, .int a_terms_symbols, .int a_terms_nodesBefore, .int a_terms_partsBefore, .int a_terms_variablesBefore])), (a_terms_parts, .inr (1, [.ref a_terms_parts_items, .int a_terms_parts_size])), (a_terms_became, .inl (cs 0, a_terms_became_n, .inl a_terms_became_f)), (a_registers, .inl (cs 0, a_registers_n, .inl a_registers_f)), (a_marked, .inr (1, [.ref a_marked_items, .int a_marked_size]))] s.heap := hP
  have hl := lv_entry ([.ref a]) (n := 1) (Nat.le_of_ble_eq_true rfl)
  rw [lg_entry_eq]
  generalize (lg_sl ([.ref a]) ++ List.replicate (1 - (lg_sl ([.ref a])).length) Slot.unset).toArray = ls at hl ⊢
  have hl : lv_has ls 1 [(0, .ref a)] := hl
  refine gq (fun Q hQ => ?_)
  obtain ⟨H, hH⟩ : ∃ H : Heap, H = s.heap := ⟨_, rfl⟩
  rw [← hH] at hP
  have hS : va_S A s.heap H [] := by rw [hH]; exact hS
  refine W.eqH hH ?_
  obtain ⟨locs, hlc⟩ : ∃ L : List Loc, L = [] := ⟨_, rfl⟩
  rw [← hlc] at hS ⊢
  unfold p_UB_reset at hok
  refine lv_aload_n hx hb d_UB_reset_0 rfl (lv_at hl 0 rfl) ?_
  refine va_get (D := g) (ci := 9) (v := .ref a_registers) (C := R_UB) (T := F_UB) (N := 10) hx hb hg ul_UB hown hK hP 0 rfl rfl 6 (by decide) (hg _ wd_646) (fun _ h9 => h9) rfl d_UB_reset_1 ?_
  refine lv_sipush (v := 200) hx hb d_UB_reset_4 (by decide) ?_
  obtain ⟨b_f_1, hc1, hok⟩ := bd_some hok
  obtain ⟨hPc, hDc, hFc⟩ := cut0 (wc := [(a_registers, .inl (cs 0, a_registers_n, .inl a_registers_f))]) hP hD hS hA [11] (by decide) rfl
  refine va_callv (va_runS (As := [.ref a_registers, .int 200]) (rest := []) ⟨hx, hb, hml, hown, hg⟩ (c_Arrays_fill l g cs ka a_registers H.size n (200 : Int32) a_registers_n a_registers_f b_f_1 hc1) (va_cwS 2 hg (gw_S wd_670 wd_258 wd_154 wd_256) rfl rfl rfl (by decide +kernel) ⟨Nat.le_of_ble_eq_true rfl, Nat.le_of_ble_eq_true rfl⟩) ⟨gP_blind, gP_pre hPc hDc hK hgl hkn hkr hS hFc⟩ rfl rfl hl.1 rfl (lv_room (Nat.le_of_ble_eq_true rfl)) d_UB_reset_7 ⟨Nat.le_of_ble_eq_true rfl, Nat.le_of_ble_eq_true rfl⟩) hS (fun q _ h => hFc q h) hFc (fun u t H locs ht hvm hr1 hB hz1 hk1 hS => ?_)
  rw [ht] at hB
  obtain ⟨hP1, hD1⟩ := hB
  obtain ⟨hP, hD⟩ := jn_A hP hD [11] [0, 1, 2, 3, 4, 5, 6, 7, 8, 9, 10, 12] rfl rfl (by decide) (by decide) hk1 hFc hP1 hD1
  obtain ⟨hP, hD⟩ : PD g A H [(a, .inr (9, [.ref a_tape, .ref a_names, .ref a_terms, .ref a_reader, .ref a_unifier, .ref a_printer, .ref a_registers, .ref a_marked, .int a_marks, .int a_place])), (a_names, .inr (2, [.ref a_names_texts, .int a_names_textsSize, .ref a_names_ends, .ref a_names_older, .ref a_names_newest, .int a_names_sizeBefore])), (a_names_texts, .inl (cs 1, a_names_texts_n, .inl a_names_texts_f)), (a_names_ends, .inr (1, [.ref a_names_ends_items, .int a_names_ends_size])), (a_names_ends_items, .inl (cs 0, a_names_ends_items_n, .inl a_names_ends_items_f)), (a_names_older, .inr (1, [.ref a_names_older_items, .int a_names_older_size])), (a_names_older_items, .inl (cs 0, a_names_older_items_n, .inl a_names_older_items_f)), (a_names_newest, .inl (cs 0, a_names_newest_n, .inl a_names_newest_f)), (a_terms, .inr (7, [.ref a_terms_shapes, .ref a_terms_values, .ref a_terms_firstParts, .int a_terms_nodes, .ref a_terms_parts, .ref a_terms_variableNames, .ref a_terms_became, .int a_terms_variables, .int a_terms_variablesLack, .int a_terms_symbols, .int a_terms_nodesBefore, .int a_terms_partsBefore, .int a_terms_variablesBefore])), (a_terms_parts, .inr (1, [.ref a_terms_parts_items, .int a_terms_parts_size])), (a_terms_became, .inl (cs 0, a_terms_became_n, .inl a_terms_became_f)), (a_marked, .inr (1, [.ref a_marked_items, .int a_marked_size])), (a_registers, .inl (cs 0, a_registers_n, .inl b_f_1))] := ⟨hP, hD⟩
  refine lv_aload_n hx hb d_UB_reset_10 rfl (lv_at hl 0 rfl) ?_
  refine va_get (D := g) (ci := 9) (v := .ref a_terms) (C := R_UB) (T := F_UB) (N := 10) hx hb hg ul_UB hown hK hP 0 rfl rfl 2 (by decide) (hg _ wd_640) (fun _ h9 => h9) rfl d_UB_reset_11 ?_
  obtain ⟨⟨a_nodes_2, a_variables_2, a_symbols_2, a_parts_size_2, a_became_f_2⟩, hc2, hok⟩ := bd_some hok
  dsimp only at hok
  obtain ⟨hPc, hDc, hFc⟩ := cut0 (wc := [(a_terms, .inr (7, [.ref a_terms_shapes, .ref a_terms_values, .ref a_terms_firstParts, .int a_terms_nodes, .ref a_terms_parts, .ref a_terms_variableNames, .ref a_terms_became, .int a_terms_variables, .int a_terms_variablesLack, .int a_terms_symbols, .int a_terms_nodesBefore, .int a_terms_partsBefore, .int a_terms_variablesBefore])), (a_terms_parts, .inr (1, [.ref a_terms_parts_items, .int a_terms_parts_size])), (a_terms_became, .inl (cs 0, a_terms_became_n, .inl a_terms_became_f))]) hP hD hS hA [8, 9, 10] (by decide) rfl
  refine va_callv (va_runV (As := []) (rest := []) ⟨hx, hb, hml, hown, hg⟩ (c_Terms_forgetAll l g cs ka a_terms_shapes a_terms_values a_terms_firstParts a_terms_variableNames a_terms_parts_items a_terms a_terms_parts a_terms_became H.size n a_terms_nodes a_terms_variables a_terms_variablesLack a_terms_symbols a_terms_nodesBefore a_terms_partsBefore a_terms_variablesBefore a_terms_parts_size a_terms_became_n a_terms_became_f a_nodes_2 a_variables_2 a_symbols_2 a_parts_size_2 a_became_f_2 hc2) (cwV (C := R_Terms) 0 hg (gw_V wd_672 wd_673 wd_674 wd_264 wd_671) rfl rfl rfl (by decide +kernel) ⟨Nat.le_of_ble_eq_true rfl, Nat.le_of_ble_eq_true rfl⟩) ⟨gP_blind, va_recv (q0 := 8) (ci := 7) (q := (R_Terms, F_Terms, 13)) hK hP rfl rfl, gP_pre hPc hDc hK hgl hkn hkr hS hFc⟩ rfl rfl hl.1 rfl (lv_room (Nat.le_of_ble_eq_true rfl)) d_UB_reset_14 ⟨Nat.le_of_ble_eq_true rfl, Nat.le_of_ble_eq_true rfl⟩) hS (fun q _ h => hFc q h) hFc (fun u t H locs ht hvm hr2 hB hz1 hk1 hS => ?_)
  rw [ht] at hB
  obtain ⟨hP1, hD1⟩ := hB
  obtain ⟨hP, hD⟩ := jn_A hP hD [8, 9, 10] [0, 1, 2, 3, 4, 5, 6, 7, 11, 12] rfl rfl (by decide) (by decide) hk1 hFc hP1 hD1
  obtain ⟨hP, hD⟩ : PD g A H [(a, .inr (9, [.ref a_tape, .ref a_names, .ref a_terms, .ref a_reader, .ref a_unifier, .ref a_printer, .ref a_registers, .ref a_marked, .int a_marks, .int a_place])), (a_names, .inr (2, [.ref a_names_texts, .int a_names_textsSize, .ref a_names_ends, .ref a_names_older, .ref a_names_newest, .int a_names_sizeBefore])), (a_names_texts, .inl (cs 1, a_names_texts_n, .inl a_names_texts_f)), (a_names_ends, .inr (1, [.ref a_names_ends_items, .int a_names_ends_size])), (a_names_ends_items, .inl (cs 0, a_names_ends_items_n, .inl a_names_ends_items_f)), (a_names_older, .inr (1, [.ref a_names_older_items, .int a_names_older_size])), (a_names_older_items, .inl (cs 0, a_names_older_items_n, .inl a_names_older_items_f)), (a_names_newest, .inl (cs 0, a_names_newest_n, .inl a_names_newest_f)), (a_marked, .inr (1, [.ref a_marked_items, .int a_marked_size])), (a_registers, .inl (cs 0, a_registers_n, .inl b_f_1)), (a_terms, .inr (7, [.ref a_terms_shapes, .ref a_terms_values, .ref a_terms_firstParts, .int a_nodes_2, .ref a_terms_parts, .ref a_terms_variableNames, .ref a_terms_became, .int a_variables_2, .int a_terms_variablesLack, .int a_symbols_2, .int a_terms_nodesBefore, .int a_terms_partsBefore, .int a_terms_variablesBefore])), (a_terms_parts, .inr (1, [.ref a_terms_parts_items, .int a_parts_size_2])), (a_terms_became, .inl (cs 0, a_terms_became_n, .inl a_became_f_2))] := ⟨hP, hD⟩
  refine lv_aload_n hx hb d_UB_reset_17 rfl (lv_at hl 0 rfl) ?_
  refine va_get (D := g) (ci := 9) (v := .ref a_names) (C := R_UB) (T := F_UB) (N := 10) hx hb hg ul_UB hown hK hP 0 rfl rfl 1 (by decide) (hg _ wd_675) (fun _ h9 => h9) rfl d_UB_reset_18 ?_
  obtain ⟨⟨a_ends_size_3, a_older_size_3, a_newest_f_3⟩, hc3, hok⟩ := bd_some hok
  dsimp only at hok
  obtain ⟨hPc, hDc, hFc⟩ := cut0 (wc := [(a_names, .inr (2, [.ref a_names_texts, .int a_names_textsSize, .ref a_names_ends, .ref a_names_older, .ref a_names_newest, .int a_names_sizeBefore])), (a_names_texts, .inl (cs 1, a_names_texts_n, .inl a_names_texts_f)), (a_names_ends, .inr (1, [.ref a_names_ends_items, .int a_names_ends_size])), (a_names_ends_items, .inl (cs 0, a_names_ends_items_n, .inl a_names_ends_items_f)), (a_names_older, .inr (1, [.ref a_names_older_items, .int a_names_older_size])), (a_names_older_items, .inl (cs 0, a_names_older_items_n, .inl a_names_older_items_f)), (a_names_newest, .inl (cs 0, a_names_newest_n, .inl a_names_newest_f))]) hP hD hS hA [1, 2, 3, 4, 5, 6, 7] (by decide) rfl
  refine va_callv (va_runV (As := []) (rest := []) ⟨hx, hb, hml, hown, hg⟩ (c_Names_forgetAll l g cs ka a_names a_names_texts a_names_ends a_names_ends_items a_names_older a_names_older_items a_names_newest H.size n a_names_textsSize a_names_sizeBefore a_names_texts_n a_names_texts_f a_names_ends_size a_names_ends_items_n a_names_ends_items_f a_names_older_size a_names_older_items_n a_names_older_items_f a_names_newest_n a_names_newest_f a_ends_size_3 a_older_size_3 a_newest_f_3 hc3) (cwV (C := R_Names) 0 hg (gw_V wd_677 wd_678 wd_679 wd_287 wd_676) rfl rfl rfl (by decide +kernel) ⟨Nat.le_of_ble_eq_true rfl, Nat.le_of_ble_eq_true rfl⟩) ⟨gP_blind, va_recv (q0 := 1) (ci := 2) (q := (R_Names, F_Names, 6)) hK hP rfl rfl, gP_pre hPc hDc hK hgl hkn hkr hS hFc⟩ rfl rfl hl.1 rfl (lv_room (Nat.le_of_ble_eq_true rfl)) d_UB_reset_21 ⟨Nat.le_of_ble_eq_true rfl, Nat.le_of_ble_eq_true rfl⟩) hS (fun q _ h => hFc q h) hFc (fun u t H locs ht hvm hr3 hB hz1 hk1 hS => ?_)
  rw [ht] at hB
  obtain ⟨hP1, hD1⟩ := hB
  obtain ⟨hP, hD⟩ := jn_A hP hD [1, 2, 3, 4, 5, 6, 7] [0, 8, 9, 10, 11, 12] rfl rfl (by decide) (by decide) hk1 hFc hP1 hD1
  obtain ⟨hP, hD⟩ : PD g A H [(a, .inr (9, [.ref a_tape, .ref a_names, .ref a_terms, .ref a_reader, .ref a_unifier, .ref a_printer, .ref a_registers, .ref a_marked, .int a_marks, .int a_place])), (a_marked, .inr (1, [.ref a_marked_items, .int a_marked_size])), (a_registers, .inl (cs 0, a_registers_n, .inl b_f_1)), (a_terms, .inr (7, [.ref a_terms_shapes, .ref a_terms_values, .ref a_terms_firstParts, .int a_nodes_2, .ref a_terms_parts, .ref a_terms_variableNames, .ref a_terms_became, .int a_variables_2, .int a_terms_variablesLack, .int a_symbols_2, .int a_terms_nodesBefore, .int a_terms_partsBefore, .int a_terms_variablesBefore])), (a_terms_parts, .inr (1, [.ref a_terms_parts_items, .int a_parts_size_2])), (a_terms_became, .inl (cs 0, a_terms_became_n, .inl a_became_f_2)), (a_names, .inr (2, [.ref a_names_texts, .int a_names_textsSize, .ref a_names_ends, .ref a_names_older, .ref a_names_newest, .int a_names_sizeBefore])), (a_names_texts, .inl (cs 1, a_names_texts_n, .inl a_names_texts_f)), (a_names_ends, .inr (1, [.ref a_names_ends_items, .int a_ends_size_3])), (a_names_ends_items, .inl (cs 0, a_names_ends_items_n, .inl a_names_ends_items_f)), (a_names_older, .inr (1, [.ref a_names_older_items, .int a_older_size_3])), (a_names_older_items, .inl (cs 0, a_names_older_items_n, .inl a_names_older_items_f)), (a_names_newest, .inl (cs 0, a_names_newest_n, .inl a_newest_f_3))] := ⟨hP, hD⟩
  refine lv_aload_n hx hb d_UB_reset_24 rfl (lv_at hl 0 rfl) ?_
  refine va_get (D := g) (ci := 9) (v := .ref a_marked) (C := R_UB) (T := F_UB) (N := 10) hx hb hg ul_UB hown hK hP 0 rfl rfl 7 (by decide) (hg _ wd_641) (fun _ h9 => h9) rfl d_UB_reset_25 ?_
  refine lv_iconst (v := 0) hx hb d_UB_reset_28 (by decide) ?_
  obtain ⟨a_size_4, hc4, hok⟩ := bd_some hok
  obtain ⟨hPc, hDc, hFc⟩ := cut0 (wc := [(a_marked, .inr (1, [.ref a_marked_items, .int a_marked_size]))]) hP hD hS hA [1] (by decide) rfl
  refine va_callv (va_runV (As := [.int 0]) (rest := []) ⟨hx, hb, hml, hown, hg⟩ (c_Ints_cut l g cs ka a_marked_items a_marked H.size (0 : Int32) a_marked_size a_size_4 hc4) (cwV (C := R_Ints) 1 hg (gw_V wd_680 wd_253 wd_254 wd_234 wd_251) rfl rfl rfl (by decide +kernel) ⟨Nat.le_of_ble_eq_true rfl, Nat.le_of_ble_eq_true rfl⟩) ⟨gP_blind, va_recv (q0 := 1) (ci := 1) (q := (R_Ints, F_Ints, 2)) hK hP rfl rfl, gP_pre hPc hDc hK hgl hkn hkr hS hFc⟩ rfl rfl hl.1 rfl (lv_room (Nat.le_of_ble_eq_true rfl)) d_UB_reset_29 ⟨Nat.le_of_ble_eq_true rfl, Nat.le_of_ble_eq_true rfl⟩) hS (fun q _ h => hFc q h) hFc (fun u t H locs ht hvm hr4 hB hz1 hk1 hS => ?_)
  rw [ht] at hB
  obtain ⟨hP1, hD1⟩ := hB
  obtain ⟨hP, hD⟩ := jn_A hP hD [1] [0, 2, 3, 4, 5, 6, 7, 8, 9, 10, 11, 12] rfl rfl (by decide) (by decide) hk1 hFc hP1 hD1
  obtain ⟨hP, hD⟩ : PD g A H [(a, .inr (9, [.ref a_tape, .ref a_names, .ref a_terms, .ref a_reader, .ref a_unifier, .ref a_printer, .ref a_registers, .ref a_marked, .int a_marks, .int a_place])), (a_registers, .inl (cs 0, a_registers_n, .inl b_f_1)), (a_terms, .inr (7, [.ref a_terms_shapes, .ref a_terms_values, .ref a_terms_firstParts, .int a_nodes_2, .ref a_terms_parts, .ref a_terms_variableNames, .ref a_terms_became, .int a_variables_2, .int a_terms_variablesLack, .int a_symbols_2, .int a_terms_nodesBefore, .int a_terms_partsBefore, .int a_terms_variablesBefore])), (a_terms_parts, .inr (1, [.ref a_terms_parts_items, .int a_parts_size_2])), (a_terms_became, .inl (cs 0, a_terms_became_n, .inl a_became_f_2)), (a_names, .inr (2, [.ref a_names_texts, .int a_names_textsSize, .ref a_names_ends, .ref a_names_older, .ref a_names_newest, .int a_names_sizeBefore])), (a_names_texts, .inl (cs 1, a_names_texts_n, .inl a_names_texts_f)), (a_names_ends, .inr (1, [.ref a_names_ends_items, .int a_ends_size_3])), (a_names_ends_items, .inl (cs 0, a_names_ends_items_n, .inl a_names_ends_items_f)), (a_names_older, .inr (1, [.ref a_names_older_items, .int a_older_size_3])), (a_names_older_items, .inl (cs 0, a_names_older_items_n, .inl a_names_older_items_f)), (a_names_newest, .inl (cs 0, a_names_newest_n, .inl a_newest_f_3)), (a_marked, .inr (1, [.ref a_marked_items, .int a_size_4]))] := ⟨hP, hD⟩
  refine lv_aload_n hx hb d_UB_reset_32 rfl (lv_at hl 0 rfl) ?_
  refine lv_iconst (v := 0) hx hb d_UB_reset_33 (by decide) ?_
  refine va_put (D := g) (ci := 9) (v := .int 0) (ty := .int) (C := R_UB) (T := F_UB) (N := 10) hx hb hg ul_UB t_UB tk_UB n_UB hown hK hP hD hS 0 rfl rfl 8 (by decide) (hg _ wd_639) (fun _ h9 => h9) rfl (by decide +kernel) rfl rfl (Nat.le_of_ble_eq_true rfl) d_UB_reset_34 (fun H locs hP hD hS => ?_)
  obtain ⟨hP, hD⟩ : PD g A H [(a, .inr (9, [.ref a_tape, .ref a_names, .ref a_terms, .ref a_reader, .ref a_unifier, .ref a_printer, .ref a_registers, .ref a_marked, .int 0, .int a_place])), (a_registers, .inl (cs 0, a_registers_n, .inl b_f_1)), (a_terms, .inr (7, [.ref a_terms_shapes, .ref a_terms_values, .ref a_terms_firstParts, .int a_nodes_2, .ref a_terms_parts, .ref a_terms_variableNames, .ref a_terms_became, .int a_variables_2, .int a_terms_variablesLack, .int a_symbols_2, .int a_terms_nodesBefore, .int a_terms_partsBefore, .int a_terms_variablesBefore])), (a_terms_parts, .inr (1, [.ref a_terms_parts_items, .int a_parts_size_2])), (a_terms_became, .inl (cs 0, a_terms_became_n, .inl a_became_f_2)), (a_names, .inr (2, [.ref a_names_texts, .int a_names_textsSize, .ref a_names_ends, .ref a_names_older, .ref a_names_newest, .int a_names_sizeBefore])), (a_names_texts, .inl (cs 1, a_names_texts_n, .inl a_names_texts_f)), (a_names_ends, .inr (1, [.ref a_names_ends_items, .int a_ends_size_3])), (a_names_ends_items, .inl (cs 0, a_names_ends_items_n, .inl a_names_ends_items_f)), (a_names_older, .inr (1, [.ref a_names_older_items, .int a_older_size_3])), (a_names_older_items, .inl (cs 0, a_names_older_items_n, .inl a_names_older_items_f)), (a_names_newest, .inl (cs 0, a_names_newest_n, .inl a_newest_f_3)), (a_marked, .inr (1, [.ref a_marked_items, .int a_size_4]))] := ⟨hP, hD⟩
  have hq := Option.some.inj hok
  obtain ⟨hq0, hq⟩ := Prod.mk.inj hq
  obtain ⟨hq1, hq⟩ := Prod.mk.inj hq
  obtain ⟨hq2, hq⟩ := Prod.mk.inj hq
  obtain ⟨hq3, hq⟩ := Prod.mk.inj hq
  obtain ⟨hq4, hq⟩ := Prod.mk.inj hq
  obtain ⟨hq5, hq⟩ := Prod.mk.inj hq
  obtain ⟨hq6, hq⟩ := Prod.mk.inj hq
  obtain ⟨hq7, hq⟩ := Prod.mk.inj hq
  obtain ⟨hq8, hq⟩ := Prod.mk.inj hq
  obtain ⟨hq9, hq⟩ := Prod.mk.inj hq
  have hq10 := hq
  subst hq0
  subst hq1
  subst hq2
  subst hq3
  subst hq4
  subst hq5
  subst hq6
  subst hq7
  subst hq8
  subst hq9
  subst hq10
  obtain ⟨hP9, hD9⟩ := sub2 (ws' := [(a, .inr (9, [.ref a_tape, .ref a_names, .ref a_terms, .ref a_reader, .ref a_unifier, .ref a_printer, .ref a_registers, .ref a_marked, .int 0, .int a_place])), (a_names, .inr (2, [.ref a_names_texts, .int a_names_textsSize, .ref a_names_ends, .ref a_names_older, .ref a_names_newest, .int a_names_sizeBefore])), (a_names_texts, .inl (cs 1, a_names_texts_n, .inl a_names_texts_f)), (a_names_ends, .inr (1, [.ref a_names_ends_items, .int a_ends_size_3])), (a_names_ends_items, .inl (cs 0, a_names_ends_items_n, .inl a_names_ends_items_f)), (a_names_older, .inr (1, [.ref a_names_older_items, .int a_older_size_3])), (a_names_older_items, .inl (cs 0, a_names_older_items_n, .inl a_names_older_items_f)), (a_names_newest, .inl (cs 0, a_names_newest_n, .inl a_newest_f_3)), (a_terms, .inr (7, [.ref a_terms_shapes, .ref a_terms_values, .ref a_terms_firstParts, .int a_nodes_2, .ref a_terms_parts, .ref a_terms_variableNames, .ref a_terms_became, .int a_variables_2, .int a_terms_variablesLack, .int a_symbols_2, .int a_terms_nodesBefore, .int a_terms_partsBefore, .int a_terms_variablesBefore])), (a_terms_parts, .inr (1, [.ref a_terms_parts_items, .int a_parts_size_2])), (a_terms_became, .inl (cs 0, a_terms_became_n, .inl a_became_f_2)), (a_registers, .inl (cs 0, a_registers_n, .inl b_f_1)), (a_marked, .inr (1, [.ref a_marked_items, .int a_size_4]))]) hP hD [0, 5, 6, 7, 8, 9, 10, 11, 2, 3, 4, 1, 12] rfl (by decide) rfl
  rw [hQ]
  exact W.vret hx hb hr (fun t ht hW => ⟨⟨(), rfl, trivial, by rw [ht]; exact hP9, hD9⟩, hS.F ht⟩) hS.2.2 d_UB_reset_37

theorem d_UB_print_0 : decode b_UB_print 0 = .ok (.iload_n 1, 1) := by decide +kernel
theorem d_UB_print_1 : decode b_UB_print 1 = .ok (.invokestatic 103, 3) := by decide +kernel
theorem d_UB_print_4 : decode b_UB_print 4 = .ok (.aload_n 0, 1) := by decide +kernel
theorem d_UB_print_5 : decode b_UB_print 5 = .ok (.getfield 58, 3) := by decide +kernel
theorem d_UB_print_8 : decode b_UB_print 8 = .ok (.aload_n 0, 1) := by decide +kernel
theorem d_UB_print_9 : decode b_UB_print 9 = .ok (.getfield 62, 3) := by decide +kernel
theorem d_UB_print_12 : decode b_UB_print 12 = .ok (.iload_n 1, 1) := by decide +kernel
theorem d_UB_print_13 : decode b_UB_print 13 = .ok (.iaload, 1) := by decide +kernel
theorem d_UB_print_14 : decode b_UB_print 14 = .ok (.invokevirtual 167, 3) := by decide +kernel
theorem d_UB_print_17 : decode b_UB_print 17 = .ok (.ifCond .ne 11, 3) := by decide +kernel
theorem d_UB_print_20 : decode b_UB_print 20 = .ok (.new 90, 3) := by decide +kernel
theorem d_UB_print_23 : decode b_UB_print 23 = .ok (.dup, 1) := by decide +kernel
theorem d_UB_print_24 : decode b_UB_print 24 = .ok (.invokespecial 92, 3) := by decide +kernel
theorem d_UB_print_27 : decode b_UB_print 27 = .ok (.athrow, 1) := by decide +kernel
theorem d_UB_print_28 : decode b_UB_print 28 = .ok (.aload_n 0, 1) := by decide +kernel
theorem d_UB_print_29 : decode b_UB_print 29 = .ok (.getfield 58, 3) := by decide +kernel
theorem d_UB_print_32 : decode b_UB_print 32 = .ok (.invokevirtual 171, 3) := by decide +kernel
theorem d_UB_print_35 : decode b_UB_print 35 = .ok (.invokevirtual 86, 3) := by decide +kernel
theorem d_UB_print_38 : decode b_UB_print 38 = .ok (.ireturn, 1) := by decide +kernel
def p_UB_print (n : Nat) (rr : Int32) (a_marks : Int32) (a_place : Int32) (a_names_textsSize : Int32) (a_names_sizeBefore : Int32) (a_names_texts_n : Nat) (a_names_texts_f : Nat → Int32) (a_names_ends_size : Int32) (a_names_ends_items_n : Nat) (a_names_ends_items_f : Nat → Int32) (a_terms_nodes : Int32) (a_terms_variables : Int32) (a_terms_variablesLack : Int32) (a_terms_symbols : Int32) (a_terms_nodesBefore : Int32) (a_terms_partsBefore : Int32) (a_terms_variablesBefore : Int32) (a_terms_shapes_n : Nat) (a_terms_shapes_f : Nat → Int32) (a_terms_values_n : Nat) (a_terms_values_f : Nat → Int64) (a_terms_firstParts_n : Nat) (a_terms_firstParts_f : Nat → Int32) (a_terms_parts_size : Int32) (a_terms_parts_items_n : Nat) (a_terms_parts_items_f : Nat → Int32) (a_terms_became_n : Nat) (a_terms_became_f : Nat → Int32) (a_printer_numbered : Int32) (a_printer_result_size : Int32) (a_printer_result_items_n : Nat) (a_printer_result_items_f : Nat → Int32) (a_printer_draft_size : Int32) (a_printer_draft_items_n : Nat) (a_printer_draft_items_f : Nat → Int32) (a_printer_path_size : Int32) (a_printer_path_items_n : Nat) (a_printer_path_items_f : Nat → Int32) (a_printer_numbers_n : Nat) (a_printer_numbers_f : Nat → Int32) (a_registers_n : Nat) (a_registers_f : Nat → Int32) : Option ((Nat × Int32 × Int32 × Int32 × Nat × (Nat → Int32) × Int32 × Nat × (Nat → Int32) × Int32 × Nat × (Nat → Int32) × (Nat → Int32)) × Nat × Nat) := (p_UB_checkRegister rr).bind (fun (xc1, mk1, sk1) => al mk1 sk1 (if xc1 = 0 then (ck (ixb rr a_registers_n) ((p_Printer_show n (a_registers_f rr.toNatClampNeg) a_printer_numbered a_names_textsSize a_names_sizeBefore a_names_texts_n a_names_texts_f a_names_ends_size a_names_ends_items_n a_names_ends_items_f a_terms_nodes a_terms_variables a_terms_variablesLack a_terms_symbols a_terms_nodesBefore a_terms_partsBefore a_terms_variablesBefore a_terms_shapes_n a_terms_shapes_f a_terms_values_n a_terms_values_f a_terms_firstParts_n a_terms_firstParts_f a_terms_parts_size a_terms_parts_items_n a_terms_parts_items_f a_terms_became_n a_terms_became_f a_printer_result_size a_printer_result_items_n a_printer_result_items_f a_printer_draft_size a_printer_draft_items_n a_printer_draft_items_f a_printer_path_size a_printer_path_items_n a_printer_path_items_f a_printer_numbers_n a_printer_numbers_f).bind (fun ((r3, a_numbered_3, a_result_size_3, a_result_items_n_3, a_result_items_f_3, a_draft_size_3, a_draft_items_n_3, a_draft_items_f_3, a_path_size_3, a_path_items_n_3, a_path_items_f_3, a_numbers_f_3), mk3, sk3) => al mk3 sk3 (if r3 = 0 then (al 1 6 (some ((3, (0 : Int32), a_numbered_3, a_result_size_3, a_result_items_n_3, a_result_items_f_3, a_draft_size_3, a_draft_items_n_3, a_draft_items_f_3, a_path_size_3, a_path_items_n_3, a_path_items_f_3, a_numbers_f_3), 0, 0))) else ((p_Printer_result a_numbered_3 a_result_size_3).bind (fun _ => (p_Bytes_size a_result_size_3).bind (fun r6 => some ((0, r6, a_numbered_3, a_result_size_3, a_result_items_n_3, a_result_items_f_3, a_draft_size_3, a_draft_items_n_3, a_draft_items_f_3, a_path_size_3, a_path_items_n_3, a_path_items_f_3, a_numbers_f_3), 0, 0)))))))) else (some ((xc1, (0 : Int32), a_printer_numbered, a_printer_result_size, a_printer_result_items_n, a_printer_result_items_f, a_printer_draft_size, a_printer_draft_items_n, a_printer_draft_items_f, a_printer_path_size, a_printer_path_items_n, a_printer_path_items_f, a_printer_numbers_f), 0, 0))))
set_option maxHeartbeats 4000000 in
set_option maxRecDepth 100000 in
theorem c_UB_print (l : Launch) (g : va_G) (cs : Nat → ClassId) (ka : Nat → Nat) (hfl : l.flags = pinnedFlags ++ [noTraceFlag]) (a_tape : Nat) (a_reader : Nat) (a_unifier : Nat) (a_marked : Nat) (a_names_older : Nat) (a_names_newest : Nat) (a_terms_variableNames : Nat) (a a_names a_names_texts a_names_ends a_names_ends_items a_terms a_terms_shapes a_terms_values a_terms_firstParts a_terms_parts a_terms_parts_items a_terms_became a_printer a_printer_result a_printer_result_items a_printer_draft a_printer_draft_items a_printer_path a_printer_path_items a_printer_numbers a_registers : Nat) (sz : Nat) (n : Nat) (rr : Int32) (a_marks : Int32) (a_place : Int32) (a_names_textsSize : Int32) (a_names_sizeBefore : Int32) (a_names_texts_n : Nat) (a_names_texts_f : Nat → Int32) (a_names_ends_size : Int32) (a_names_ends_items_n : Nat) (a_names_ends_items_f : Nat → Int32) (a_terms_nodes : Int32) (a_terms_variables : Int32) (a_terms_variablesLack : Int32) (a_terms_symbols : Int32) (a_terms_nodesBefore : Int32) (a_terms_partsBefore : Int32) (a_terms_variablesBefore : Int32) (a_terms_shapes_n : Nat) (a_terms_shapes_f : Nat → Int32) (a_terms_values_n : Nat) (a_terms_values_f : Nat → Int64) (a_terms_firstParts_n : Nat) (a_terms_firstParts_f : Nat → Int32) (a_terms_parts_size : Int32) (a_terms_parts_items_n : Nat) (a_terms_parts_items_f : Nat → Int32) (a_terms_became_n : Nat) (a_terms_became_f : Nat → Int32) (a_printer_numbered : Int32) (a_printer_result_size : Int32) (a_printer_result_items_n : Nat) (a_printer_result_items_f : Nat → Int32) (a_printer_draft_size : Int32) (a_printer_draft_items_n : Nat) (a_printer_draft_items_f : Nat → Int32) (a_printer_path_size : Int32) (a_printer_path_items_n : Nat) (a_printer_path_items_f : Nat → Int32) (a_printer_numbers_n : Nat) (a_printer_numbers_f : Nat → Int32) (a_registers_n : Nat) (a_registers_f : Nat → Int32) (xc : Nat) (r : Int32) (o_a_printer_numbered : Int32) (o_a_printer_result_size : Int32) (o_a_printer_result_items_n : Nat) (o_a_printer_result_items_f : Nat → Int32) (o_a_printer_draft_size : Int32) (o_a_printer_draft_items_n : Nat) (o_a_printer_draft_items_f : Nat → Int32) (o_a_printer_path_size : Int32) (o_a_printer_path_items_n : Nat) (o_a_printer_path_items_f : Nat → Int32) (o_a_printer_numbers_f : Nat → Int32) (mc ms : Nat) (hok : p_UB_print n rr a_marks a_place a_names_textsSize a_names_sizeBefore a_names_texts_n a_names_texts_f a_names_ends_size a_names_ends_items_n a_names_ends_items_f a_terms_nodes a_terms_variables a_terms_variablesLack a_terms_symbols a_terms_nodesBefore a_terms_partsBefore a_terms_variablesBefore a_terms_shapes_n a_terms_shapes_f a_terms_values_n a_terms_values_f a_terms_firstParts_n a_terms_firstParts_f a_terms_parts_size a_terms_parts_items_n a_terms_parts_items_f a_terms_became_n a_terms_became_f a_printer_numbered a_printer_result_size a_printer_result_items_n a_printer_result_items_f a_printer_draft_size a_printer_draft_items_n a_printer_draft_items_f a_printer_path_size a_printer_path_items_n a_printer_path_items_f a_printer_numbers_n a_printer_numbers_f a_registers_n a_registers_f = some ((xc, r, o_a_printer_numbered, o_a_printer_result_size, o_a_printer_result_items_n, o_a_printer_result_items_f, o_a_printer_draft_size, o_a_printer_draft_items_n, o_a_printer_draft_items_f, o_a_printer_path_size, o_a_printer_path_items_n, o_a_printer_path_items_f, o_a_printer_numbers_f), mc, ms)) : tx_Met l y_UB_print (.code y_UB_print b_UB_print 2 (some .int) :: GW) { frames := 10, cells := mc, slots := ms, locals := 259 } (va_Pc [.ref a, .int rr] (gP g cs ka [(a, .inr (9, [.ref a_tape, .ref a_names, .ref a_terms, .ref a_reader, .ref a_unifier, .ref a_printer, .ref a_registers, .ref a_marked, .int a_marks, .int a_place])), (a_names, .inr (2, [.ref a_names_texts, .int a_names_textsSize, .ref a_names_ends, .ref a_names_older, .ref a_names_newest, .int a_names_sizeBefore])), (a_names_texts, .inl (cs 1, a_names_texts_n, .inl a_names_texts_f)), (a_names_ends, .inr (1, [.ref a_names_ends_items, .int a_names_ends_size])), (a_names_ends_items, .inl (cs 0, a_names_ends_items_n, .inl a_names_ends_items_f)), (a_terms, .inr (7, [.ref a_terms_shapes, .ref a_terms_values, .ref a_terms_firstParts, .int a_terms_nodes, .ref a_terms_parts, .ref a_terms_variableNames, .ref a_terms_became, .int a_terms_variables, .int a_terms_variablesLack, .int a_terms_symbols, .int a_terms_nodesBefore, .int a_terms_partsBefore, .int a_terms_variablesBefore])), (a_terms_shapes, .inl (cs 0, a_terms_shapes_n, .inl a_terms_shapes_f)), (a_terms_values, .inl (cs 2, a_terms_values_n, .inr (.inl a_terms_values_f))), (a_terms_firstParts, .inl (cs 0, a_terms_firstParts_n, .inl a_terms_firstParts_f)), (a_terms_parts, .inr (1, [.ref a_terms_parts_items, .int a_terms_parts_size])), (a_terms_parts_items, .inl (cs 0, a_terms_parts_items_n, .inl a_terms_parts_items_f)), (a_terms_became, .inl (cs 0, a_terms_became_n, .inl a_terms_became_f)), (a_printer, .inr (4, [.ref a_names, .ref a_terms, .ref a_printer_result, .ref a_printer_draft, .ref a_printer_path, .ref a_printer_numbers, .int a_printer_numbered])), (a_printer_result, .inr (0, [.ref a_printer_result_items, .int a_printer_result_size])), (a_printer_result_items, .inl (cs 1, a_printer_result_items_n, .inl a_printer_result_items_f)), (a_printer_draft, .inr (0, [.ref a_printer_draft_items, .int a_printer_draft_size])), (a_printer_draft_items, .inl (cs 1, a_printer_draft_items_n, .inl a_printer_draft_items_f)), (a_printer_path, .inr (1, [.ref a_printer_path_items, .int a_printer_path_size])), (a_printer_path_items, .inl (cs 0, a_printer_path_items_n, .inl a_printer_path_items_f)), (a_printer_numbers, .inl (cs 0, a_printer_numbers_n, .inl a_printer_numbers_f)), (a_registers, .inl (cs 0, a_registers_n, .inl a_registers_f))] sz)) (fun _ st oc t => (tx_O xc (some (.int r)) oc t ∧ ∃ b_a_printer_result b_a_printer_result_items b_a_printer_draft b_a_printer_draft_items b_a_printer_path_items : Nat, va_P g classes [(a, .inr (9, [.ref a_tape, .ref a_names, .ref a_terms, .ref a_reader, .ref a_unifier, .ref a_printer, .ref a_registers, .ref a_marked, .int a_marks, .int a_place])), (a_names, .inr (2, [.ref a_names_texts, .int a_names_textsSize, .ref a_names_ends, .ref a_names_older, .ref a_names_newest, .int a_names_sizeBefore])), (a_names_texts, .inl (cs 1, a_names_texts_n, .inl a_names_texts_f)), (a_names_ends, .inr (1, [.ref a_names_ends_items, .int a_names_ends_size])), (a_names_ends_items, .inl (cs 0, a_names_ends_items_n, .inl a_names_ends_items_f)), (a_terms, .inr (7, [.ref a_terms_shapes, .ref a_terms_values, .ref a_terms_firstParts, .int a_terms_nodes, .ref a_terms_parts, .ref a_terms_variableNames, .ref a_terms_became, .int a_terms_variables, .int a_terms_variablesLack, .int a_terms_symbols, .int a_terms_nodesBefore, .int a_terms_partsBefore, .int a_terms_variablesBefore])), (a_terms_shapes, .inl (cs 0, a_terms_shapes_n, .inl a_terms_shapes_f)), (a_terms_values, .inl (cs 2, a_terms_values_n, .inr (.inl a_terms_values_f))), (a_terms_firstParts, .inl (cs 0, a_terms_firstParts_n, .inl a_terms_firstParts_f)), (a_terms_parts, .inr (1, [.ref a_terms_parts_items, .int a_terms_parts_size])), (a_terms_parts_items, .inl (cs 0, a_terms_parts_items_n, .inl a_terms_parts_items_f)), (a_terms_became, .inl (cs 0, a_terms_became_n, .inl a_terms_became_f)), (a_printer, .inr (4, [.ref a_names, .ref a_terms, .ref b_a_printer_result, .ref b_a_printer_draft, .ref a_printer_path, .ref a_printer_numbers, .int o_a_printer_numbered])), (b_a_printer_result, .inr (0, [.ref b_a_printer_result_items, .int o_a_printer_result_size])), (b_a_printer_result_items, .inl (cs 1, o_a_printer_result_items_n, .inl o_a_printer_result_items_f)), (b_a_printer_draft, .inr (0, [.ref b_a_printer_draft_items, .int o_a_printer_draft_size])), (b_a_printer_draft_items, .inl (cs 1, o_a_printer_draft_items_n, .inl o_a_printer_draft_items_f)), (a_printer_path, .inr (1, [.ref b_a_printer_path_items, .int o_a_printer_path_size])), (b_a_printer_path_items, .inl (cs 0, o_a_printer_path_items_n, .inl o_a_printer_path_items_f)), (a_printer_numbers, .inl (cs 0, a_printer_numbers_n, .inl o_a_printer_numbers_f)), (a_registers, .inl (cs 0, a_registers_n, .inl a_registers_f))] t.heap ∧ va_D (va_A [(a, .inr (9, [.ref a_tape, .ref a_names, .ref a_terms, .ref a_reader, .ref a_unifier, .ref a_printer, .ref a_registers, .ref a_marked, .int a_marks, .int a_place])), (a_names, .inr (2, [.ref a_names_texts, .int a_names_textsSize, .ref a_names_ends, .ref a_names_older, .ref a_names_newest, .int a_names_sizeBefore])), (a_names_texts, .inl (cs 1, a_names_texts_n, .inl a_names_texts_f)), (a_names_ends, .inr (1, [.ref a_names_ends_items, .int a_names_ends_size])), (a_names_ends_items, .inl (cs 0, a_names_ends_items_n, .inl a_names_ends_items_f)), (a_terms, .inr (7, [.ref a_terms_shapes, .ref a_terms_values, .ref a_terms_firstParts, .int a_terms_nodes, .ref a_terms_parts, .ref a_terms_variableNames, .ref a_terms_became, .int a_terms_variables, .int a_terms_variablesLack, .int a_terms_symbols, .int a_terms_nodesBefore, .int a_terms_partsBefore, .int a_terms_variablesBefore])), (a_terms_shapes, .inl (cs 0, a_terms_shapes_n, .inl a_terms_shapes_f)), (a_terms_values, .inl (cs 2, a_terms_values_n, .inr (.inl a_terms_values_f))), (a_terms_firstParts, .inl (cs 0, a_terms_firstParts_n, .inl a_terms_firstParts_f)), (a_terms_parts, .inr (1, [.ref a_terms_parts_items, .int a_terms_parts_size])), (a_terms_parts_items, .inl (cs 0, a_terms_parts_items_n, .inl a_terms_parts_items_f)), (a_terms_became, .inl (cs 0, a_terms_became_n, .inl a_terms_became_f)), (a_printer, .inr (4, [.ref a_names, .ref a_terms, .ref a_printer_result, .ref a_printer_draft, .ref a_printer_path, .ref a_printer_numbers, .int a_printer_numbered])), (a_printer_result, .inr (0, [.ref a_printer_result_items, .int a_printer_result_size])), (a_printer_result_items, .inl (cs 1, a_printer_result_items_n, .inl a_printer_result_items_f)), (a_printer_draft, .inr (0, [.ref a_printer_draft_items, .int a_printer_draft_size])), (a_printer_draft_items, .inl (cs 1, a_printer_draft_items_n, .inl a_printer_draft_items_f)), (a_printer_path, .inr (1, [.ref a_printer_path_items, .int a_printer_path_size])), (a_printer_path_items, .inl (cs 0, a_printer_path_items_n, .inl a_printer_path_items_f)), (a_printer_numbers, .inl (cs 0, a_printer_numbers_n, .inl a_printer_numbers_f)), (a_registers, .inl (cs 0, a_registers_n, .inl a_registers_f))] sz) [(a, .inr (9, [.ref a_tape, .ref a_names, .ref a_terms, .ref a_reader, .ref a_unifier, .ref a_printer, .ref a_registers, .ref a_marked, .int a_marks, .int a_place])), (a_names, .inr (2, [.ref a_names_texts, .int a_names_textsSize, .ref a_names_ends, .ref a_names_older, .ref a_names_newest, .int a_names_sizeBefore])), (a_names_texts, .inl (cs 1, a_names_texts_n, .inl a_names_texts_f)), (a_names_ends, .inr (1, [.ref a_names_ends_items, .int a_names_ends_size])), (a_names_ends_items, .inl (cs 0, a_names_ends_items_n, .inl a_names_ends_items_f)), (a_terms, .inr (7, [.ref a_terms_shapes, .ref a_terms_values, .ref a_terms_firstParts, .int a_terms_nodes, .ref a_terms_parts, .ref a_terms_variableNames, .ref a_terms_became, .int a_terms_variables, .int a_terms_variablesLack, .int a_terms_symbols, .int a_terms_nodesBefore, .int a_terms_partsBefore, .int a_terms_variablesBefore])), (a_terms_shapes, .inl (cs 0, a_terms_shapes_n, .inl a_terms_shapes_f)), (a_terms_values, .inl (cs 2, a_terms_values_n, .inr (.inl a_terms_values_f))), (a_terms_firstParts, .inl (cs 0, a_terms_firstParts_n, .inl a_terms_firstParts_f)), (a_terms_parts, .inr (1, [.ref a_terms_parts_items, .int a_terms_parts_size])), (a_terms_parts_items, .inl (cs 0, a_terms_parts_items_n, .inl a_terms_parts_items_f)), (a_terms_became, .inl (cs 0, a_terms_became_n, .inl a_terms_became_f)), (a_printer, .inr (4, [.ref a_names, .ref a_terms, .ref b_a_printer_result, .ref b_a_printer_draft, .ref a_printer_path, .ref a_printer_numbers, .int o_a_printer_numbered])), (b_a_printer_result, .inr (0, [.ref b_a_printer_result_items, .int o_a_printer_result_size])), (b_a_printer_result_items, .inl (cs 1, o_a_printer_result_items_n, .inl o_a_printer_result_items_f)), (b_a_printer_draft, .inr (0, [.ref b_a_printer_draft_items, .int o_a_printer_draft_size])), (b_a_printer_draft_items, .inl (cs 1, o_a_printer_draft_items_n, .inl o_a_printer_draft_items_f)), (a_printer_path, .inr (1, [.ref b_a_printer_path_items, .int o_a_printer_path_size])), (b_a_printer_path_items, .inl (cs 0, o_a_printer_path_items_n, .inl o_a_printer_path_items_f)), (a_printer_numbers, .inl (cs 0, a_printer_numbers_n, .inl o_a_printer_numbers_f)), (a_registers, .inl (cs 0, a_registers_n, .inl a_registers_f))]) ∧ va_F (va_A [(a, .inr (9, [.ref a_tape, .ref a_names, .ref a_terms, .ref a_reader, .ref a_unifier, .ref a_printer, .ref a_registers, .ref a_marked, .int a_marks, .int a_place])), (a_names, .inr (2, [.ref a_names_texts, .int a_names_textsSize, .ref a_names_ends, .ref a_names_older, .ref a_names_newest, .int a_names_sizeBefore])), (a_names_texts, .inl (cs 1, a_names_texts_n, .inl a_names_texts_f)), (a_names_ends, .inr (1, [.ref a_names_ends_items, .int a_names_ends_size])), (a_names_ends_items, .inl (cs 0, a_names_ends_items_n, .inl a_names_ends_items_f)), (a_terms, .inr (7, [.ref a_terms_shapes, .ref a_terms_values, .ref a_terms_firstParts, .int a_terms_nodes, .ref a_terms_parts, .ref a_terms_variableNames, .ref a_terms_became, .int a_terms_variables, .int a_terms_variablesLack, .int a_terms_symbols, .int a_terms_nodesBefore, .int a_terms_partsBefore, .int a_terms_variablesBefore])), (a_terms_shapes, .inl (cs 0, a_terms_shapes_n, .inl a_terms_shapes_f)), (a_terms_values, .inl (cs 2, a_terms_values_n, .inr (.inl a_terms_values_f))), (a_terms_firstParts, .inl (cs 0, a_terms_firstParts_n, .inl a_terms_firstParts_f)), (a_terms_parts, .inr (1, [.ref a_terms_parts_items, .int a_terms_parts_size])), (a_terms_parts_items, .inl (cs 0, a_terms_parts_items_n, .inl a_terms_parts_items_f)), (a_terms_became, .inl (cs 0, a_terms_became_n, .inl a_terms_became_f)), (a_printer, .inr (4, [.ref a_names, .ref a_terms, .ref a_printer_result, .ref a_printer_draft, .ref a_printer_path, .ref a_printer_numbers, .int a_printer_numbered])), (a_printer_result, .inr (0, [.ref a_printer_result_items, .int a_printer_result_size])), (a_printer_result_items, .inl (cs 1, a_printer_result_items_n, .inl a_printer_result_items_f)), (a_printer_draft, .inr (0, [.ref a_printer_draft_items, .int a_printer_draft_size])), (a_printer_draft_items, .inl (cs 1, a_printer_draft_items_n, .inl a_printer_draft_items_f)), (a_printer_path, .inr (1, [.ref a_printer_path_items, .int a_printer_path_size])), (a_printer_path_items, .inl (cs 0, a_printer_path_items_n, .inl a_printer_path_items_f)), (a_printer_numbers, .inl (cs 0, a_printer_numbers_n, .inl a_printer_numbers_f)), (a_registers, .inl (cs 0, a_registers_n, .inl a_registers_f))] sz) st t) mc ms (va_A [(a, .inr (9, [.ref a_tape, .ref a_names, .ref a_terms, .ref a_reader, .ref a_unifier, .ref a_printer, .ref a_registers, .ref a_marked, .int a_marks, .int a_place])), (a_names, .inr (2, [.ref a_names_texts, .int a_names_textsSize, .ref a_names_ends, .ref a_names_older, .ref a_names_newest, .int a_names_sizeBefore])), (a_names_texts, .inl (cs 1, a_names_texts_n, .inl a_names_texts_f)), (a_names_ends, .inr (1, [.ref a_names_ends_items, .int a_names_ends_size])), (a_names_ends_items, .inl (cs 0, a_names_ends_items_n, .inl a_names_ends_items_f)), (a_terms, .inr (7, [.ref a_terms_shapes, .ref a_terms_values, .ref a_terms_firstParts, .int a_terms_nodes, .ref a_terms_parts, .ref a_terms_variableNames, .ref a_terms_became, .int a_terms_variables, .int a_terms_variablesLack, .int a_terms_symbols, .int a_terms_nodesBefore, .int a_terms_partsBefore, .int a_terms_variablesBefore])), (a_terms_shapes, .inl (cs 0, a_terms_shapes_n, .inl a_terms_shapes_f)), (a_terms_values, .inl (cs 2, a_terms_values_n, .inr (.inl a_terms_values_f))), (a_terms_firstParts, .inl (cs 0, a_terms_firstParts_n, .inl a_terms_firstParts_f)), (a_terms_parts, .inr (1, [.ref a_terms_parts_items, .int a_terms_parts_size])), (a_terms_parts_items, .inl (cs 0, a_terms_parts_items_n, .inl a_terms_parts_items_f)), (a_terms_became, .inl (cs 0, a_terms_became_n, .inl a_terms_became_f)), (a_printer, .inr (4, [.ref a_names, .ref a_terms, .ref a_printer_result, .ref a_printer_draft, .ref a_printer_path, .ref a_printer_numbers, .int a_printer_numbered])), (a_printer_result, .inr (0, [.ref a_printer_result_items, .int a_printer_result_size])), (a_printer_result_items, .inl (cs 1, a_printer_result_items_n, .inl a_printer_result_items_f)), (a_printer_draft, .inr (0, [.ref a_printer_draft_items, .int a_printer_draft_size])), (a_printer_draft_items, .inl (cs 1, a_printer_draft_items_n, .inl a_printer_draft_items_f)), (a_printer_path, .inr (1, [.ref a_printer_path_items, .int a_printer_path_size])), (a_printer_path_items, .inl (cs 0, a_printer_path_items_n, .inl a_printer_path_items_f)), (a_printer_numbers, .inl (cs 0, a_printer_numbers_n, .inl a_printer_numbers_f)), (a_registers, .inl (cs 0, a_registers_n, .inl a_registers_f))] sz) := by
  refine tx_ofW (cc := b_UB_print) (maxL := 2) (ret := (some .int)) (by decide) rfl ?_
  intro p e s m args below meth c s₁ B hml hv
  obtain ⟨rfl, hsz, hP, hK, hD0, hgl, hkn, hkr⟩ := hv
  have hx := B.exec
  have hb := B.bytes
  have hr := B.returns
  have hg : ∀ w ∈ GW, w.before ([.ref a, .int rr] : List Value).toArray s = true := fun w hw => atoms_spec (ws := .code y_UB_print b_UB_print 2 (some .int) :: GW) B.pre w (List.mem_cons_of_mem _ hw)
  have hown : s.vm.findClass R_UB = some m.cls := findClass_of_methodNamed B.named
  have hlocks := B.notSynchronized
  have hcd : (Cond.code y_UB_print b_UB_print 2 (some .int)).before ([.ref a, .int rr] : List Value).toArray s = true := atoms_spec (ws := .code y_UB_print b_UB_print 2 (some .int) :: GW) B.pre _ List.mem_cons_self
  subst hsz
  have hD := hD0.self (sz := s.heap.size)
  generalize hAe : va_A [(a, .inr (9, [.ref a_tape, .ref a_names, .ref a_terms, .ref a_reader, .ref a_unifier, .ref a_printer, .ref a_registers, .ref a_marked, .int a_marks, .int a_place])), (a_names, .inr (2, [.ref a_names_texts, .int a_names_textsSize, .ref a_names_ends, .ref a_names_older, .ref a_names_newest, .int a_names_sizeBefore])), (a_names_texts, .inl (cs 1, a_names_texts_n, .inl a_names_texts_f)), (a_names_ends, .inr (1, [.ref a_names_ends_items, .int a_names_ends_size])), (a_names_ends_items, .inl (cs 0, a_names_ends_items_n, .inl a_names_ends_items_f)), (a_terms, .inr (7, [.ref a_terms_shapes, .ref a_terms_values, .ref a_terms_firstParts, .int a_terms_nodes, .ref a_terms_parts, .ref a_terms_variableNames, .ref a_terms_became, .int a_terms_variables, .int a_terms_variablesLack, .int a_terms_symbols, .int a_terms_nodesBefore, .int a_terms_partsBefore, .int a_terms_variablesBefore])), (a_terms_shapes, .inl (cs 0, a_terms_shapes_n, .inl a_terms_shapes_f)), (a_terms_values, .inl (cs 2, a_terms_values_n, .inr (.inl a_terms_values_f))), (a_terms_firstParts, .inl (cs 0, a_terms_firstParts_n, .inl a_terms_firstParts_f)), (a_terms_parts, .inr (1, [.ref a_terms_parts_items, .int a_terms_parts_size])), (a_terms_parts_items, .inl (cs 0, a_terms_parts_items_n, .inl a_terms_parts_items_f)), (a_terms_became, .inl (cs 0, a_terms_became_n, .inl a_terms_became_f)), (a_printer, .inr (4, [.ref a_names, .ref a_terms, .ref a_printer_result, .ref a_printer_draft, .ref a_printer_path, .ref a_printer_numbers, .int a_printer_numbered])), (a_printer_result, .inr (0, [.ref a_printer_result_items, .int a_printer_result_size])), (a_printer_result_items, .inl (cs 1, a_printer_result_items_n, .inl a_printer_result_items_f)), (a_printer_draft, .inr (0, [.ref a_printer_draft_items, .int a_printer_draft_size])), (a_printer_draft_items, .inl (cs 1, a_printer_draft_items_n, .inl a_printer_draft_items_f)), (a_printer_path, .inr (1, [.ref a_printer_path_items, .int a_printer_path_size])), (a_printer_path_items, .inl (cs 0, a_printer_path_items_n, .inl a_printer_path_items_f)), (a_printer_numbers, .inl (cs 0, a_printer_numbers_n, .inl a_printer_numbers_f)), (a_registers, .inl (cs 0, a_registers_n, .inl a_registers_f))] s.heap.size = A at hD hkn ⊢
  have hA : ∀ q : Nat, s.heap.size ≤ q → A q := fun q h => by rw [← hAe]; exact Or.inr h
  have hS : va_S A s.heap s.heap [] := va_S.rf
  have hP : va_P g classes [(a, .inr (9, [.ref a_tape, .ref a_names, .ref a_terms, .ref a_reader, .ref a_unifier, .ref a_printer, .ref a_registers, .ref a_marked, .int a_marks, .int a_place])), (a_names, .inr (2, [.ref a_names_texts, .int a_names_textsSize, .ref a_names_ends, .ref a_names_older, .ref a_names_newest, .int a_names_sizeBefore])), (a_names_texts, .inl (cs 1, a_names_texts_n, .inl a_names_texts_f)), (a_names_ends, .inr (1, [.ref a_names_ends_items, .int a_names_ends_size])), (a_names_ends_items, .inl (cs 0, a_names_ends_items_n, .inl a_names_ends_items_f)), (a_terms, .inr (7, [.ref a_terms_shapes, .ref a_terms_values, .ref a_terms_firstParts, .int a_terms_nodes, .ref a_terms_parts, .ref a_terms_variableNames, .ref a_terms_became, .int a_terms_variables, .int a_terms_variablesLack, .int a_terms_symbols, .int a_terms_nodesBefore, .int a_terms_partsBefore, .int a_terms_variablesBefore])), (a_terms_shapes, .inl (cs 0, a_terms_shapes_n, .inl a_terms_shapes_f)), (a_terms_values, .inl (cs 2, a_terms_values_n, .inr (.inl a_terms_values_f))), (a_terms_firstParts, .inl (cs 0, a_terms_firstParts_n, .inl a_terms_firstParts_f)), (a_terms_parts, .inr (1, [.ref a_terms_parts_items, .int a_terms_parts_size])), (a_terms_parts_items, .inl (cs 0, a_terms_parts_items_n, .inl a_terms_parts_items_f)), (a_terms_became, .inl (cs 0, a_terms_became_n, .inl a_terms_became_f)), (a_printer, .inr (4, [.ref a_names, .ref a_terms, .ref a_printer_result, .ref a_printer_draft, .ref a_printer_path, .ref a_printer_numbers, .int a_printer_numbered])), (a_printer_result, .inr (0, [.ref a_printer_result_items, .int a_printer_result_size])), (a_printer_result_items, .inl (cs 1, a_printer_result_items_n, .inl a_printer_result_items_f)), (a_printer_draft, .inr (0, [.ref a_printer_draft_items, .int a_printer_draft_size])), (a_printer_draft_items, .inl (cs 1, a_printer_draft_items_n, .inl a_printer_draft_items_f)), (a_printer_path, .inr (1, [.ref a_printer_path_items, .int a_printer_path_size])), (a_printer_path_items, .inl (cs 0, a_printer_path_items_n, .inl a_printer_path_items_f)), (a_printer_numbers, .inl (cs 0, a_printer_numbers_n, .inl a_printer_numbers_f)), (a_registers, .inl (cs 0, a_registers_n, .inl a_registers_f))] s.heap := hP
  have hl := lv_entry ([.ref a, .int rr]) (n := 2) (Nat.le_of_ble_eq_true rfl)
  rw [lg_entry_eq]
  generalize (lg_sl ([.ref a, .int rr]) ++ List.replicate (2 - (lg_sl ([.ref a, .int rr])).length) Slot.unset).toArray = ls at hl ⊢
  have hl : lv_has ls 2 [(0, .ref a), (1, .int rr)] := hl
  refine gq (fun Q hQ => ?_)
  obtain ⟨H, hH⟩ : ∃ H : Heap, H = s.heap := ⟨_, rfl⟩
  rw [← hH] at hP
  have hS : va_S A s.heap H [] := by rw [hH]; exact hS
  refine W.eqH hH ?_
  obtain ⟨locs, hlc⟩ : ∃ L : List Loc, L = [] := ⟨_, rfl⟩
  rw [← hlc] at hS ⊢
  unfold p_UB_print at hok
  refine lv_iload_n hx hb d_UB_print_0 rfl (lv_at hl 1 rfl) ?_
  obtain ⟨⟨xc1, mk1, sk1⟩, hc1, hok⟩ := bd_some hok
  dsimp only at hok
  obtain ⟨m1, s1, hok, hmc1, hms1⟩ := al_some hok
  obtain ⟨hPc, hDc, hFc⟩ := cut0 (wc := []) hP hD hS hA [] (by decide) rfl
  rw [hQ]
  refine tx_call (A1 := va_A [] H.size) (tx_runS (As := [.int rr]) (rest := []) ⟨hx, hb, hml, hown, hg⟩ (c_UB_checkRegister l g cs ka hfl H.size rr xc1 mk1 sk1 hc1) (va_cwS 1 hg (gw_S wd_656 wd_657 wd_632 wd_655) rfl rfl rfl (by decide +kernel) ⟨Nat.le_of_ble_eq_true rfl, Nat.le_of_ble_eq_true rfl⟩) ⟨gP_blind, gP_pre hPc hDc hK hgl hkn hkr hS hFc⟩ rfl rfl hl.1 rfl (lv_room (Nat.le_of_ble_eq_true rfl)) d_UB_print_1 ⟨show 0 + mk1 ≤ mc from by omega, show 0 + sk1 ≤ ms from by omega⟩) hS (fun st o t h0 hq => hq.2) (fun q _ h => hFc q h) hFc hlocks (tx_noH B hcd 1) (fun v1 st₀ t H locs h0 ht hW hB hz1 hk1 hS => ?_) (fun x1 st₀ t H locs h0 ht hB hz1 hk1 hS => ?_)
  · obtain ⟨⟨hO, hB⟩, -⟩ := hB
    obtain ⟨hx1, hv1⟩ := hO.ret
    subst hv1
    rw [if_pos hx1] at hok
    rw [ht] at hB
    obtain ⟨hP1, hD1⟩ := hB
    obtain ⟨hP, hD⟩ := jn_A hP hD [] [0, 1, 2, 3, 4, 5, 6, 7, 8, 9, 10, 11, 12, 13, 14, 15, 16, 17, 18, 19, 20] rfl rfl (by decide) (by decide) hk1 hFc hP1 hD1
    obtain ⟨hP, hD⟩ : PD g A H [(a, .inr (9, [.ref a_tape, .ref a_names, .ref a_terms, .ref a_reader, .ref a_unifier, .ref a_printer, .ref a_registers, .ref a_marked, .int a_marks, .int a_place])), (a_names, .inr (2, [.ref a_names_texts, .int a_names_textsSize, .ref a_names_ends, .ref a_names_older, .ref a_names_newest, .int a_names_sizeBefore])), (a_names_texts, .inl (cs 1, a_names_texts_n, .inl a_names_texts_f)), (a_names_ends, .inr (1, [.ref a_names_ends_items, .int a_names_ends_size])), (a_names_ends_items, .inl (cs 0, a_names_ends_items_n, .inl a_names_ends_items_f)), (a_terms, .inr (7, [.ref a_terms_shapes, .ref a_terms_values, .ref a_terms_firstParts, .int a_terms_nodes, .ref a_terms_parts, .ref a_terms_variableNames, .ref a_terms_became, .int a_terms_variables, .int a_terms_variablesLack, .int a_terms_symbols, .int a_terms_nodesBefore, .int a_terms_partsBefore, .int a_terms_variablesBefore])), (a_terms_shapes, .inl (cs 0, a_terms_shapes_n, .inl a_terms_shapes_f)), (a_terms_values, .inl (cs 2, a_terms_values_n, .inr (.inl a_terms_values_f))), (a_terms_firstParts, .inl (cs 0, a_terms_firstParts_n, .inl a_terms_firstParts_f)), (a_terms_parts, .inr (1, [.ref a_terms_parts_items, .int a_terms_parts_size])), (a_terms_parts_items, .inl (cs 0, a_terms_parts_items_n, .inl a_terms_parts_items_f)), (a_terms_became, .inl (cs 0, a_terms_became_n, .inl a_terms_became_f)), (a_printer, .inr (4, [.ref a_names, .ref a_terms, .ref a_printer_result, .ref a_printer_draft, .ref a_printer_path, .ref a_printer_numbers, .int a_printer_numbered])), (a_printer_result, .inr (0, [.ref a_printer_result_items, .int a_printer_result_size])), (a_printer_result_items, .inl (cs 1, a_printer_result_items_n, .inl a_printer_result_items_f)), (a_printer_draft, .inr (0, [.ref a_printer_draft_items, .int a_printer_draft_size])), (a_printer_draft_items, .inl (cs 1, a_printer_draft_items_n, .inl a_printer_draft_items_f)), (a_printer_path, .inr (1, [.ref a_printer_path_items, .int a_printer_path_size])), (a_printer_path_items, .inl (cs 0, a_printer_path_items_n, .inl a_printer_path_items_f)), (a_printer_numbers, .inl (cs 0, a_printer_numbers_n, .inl a_printer_numbers_f)), (a_registers, .inl (cs 0, a_registers_n, .inl a_registers_f))] := ⟨hP, hD⟩
    rw [← hQ]
    refine W.eq (g2 := F0 m 4 ls []) rfl ?_
    refine lv_aload_n hx hb d_UB_print_4 rfl (lv_at hl 0 rfl) ?_
    refine va_get (D := g) (ci := 9) (v := .ref a_printer) (C := R_UB) (T := F_UB) (N := 10) hx hb hg ul_UB hown hK hP 0 rfl rfl 5 (by decide) (hg _ wd_681) (fun _ h9 => h9) rfl d_UB_print_5 ?_
    refine lv_aload_n hx hb d_UB_print_8 rfl (lv_at hl 0 rfl) ?_
    refine va_get (D := g) (ci := 9) (v := .ref a_registers) (C := R_UB) (T := F_UB) (N := 10) hx hb hg ul_UB hown hK hP 0 rfl rfl 6 (by decide) (hg _ wd_646) (fun _ h9 => h9) rfl d_UB_print_9 ?_
    refine lv_iload_n hx hb d_UB_print_12 rfl (lv_at hl 1 rfl) ?_
    obtain ⟨hi2, hok⟩ := ck_some hok
    refine va_iald hx hb hK hP 20 0 rfl rfl (ixb_in hi2) d_UB_print_13 ?_
    obtain ⟨⟨⟨r3, a_numbered_3, a_result_size_3, a_result_items_n_3, a_result_items_f_3, a_draft_size_3, a_draft_items_n_3, a_draft_items_f_3, a_path_size_3, a_path_items_n_3, a_path_items_f_3, a_numbers_f_3⟩, mk3, sk3⟩, hc3, hok⟩ := bd_some hok
    dsimp only at hok
    obtain ⟨m3, s3, hok, hmc3, hms3⟩ := al_some hok
    obtain ⟨hPc, hDc, hFc⟩ := cut0 (wc := [(a_printer, .inr (4, [.ref a_names, .ref a_terms, .ref a_printer_result, .ref a_printer_draft, .ref a_printer_path, .ref a_printer_numbers, .int a_printer_numbered])), (a_names, .inr (2, [.ref a_names_texts, .int a_names_textsSize, .ref a_names_ends, .ref a_names_older, .ref a_names_newest, .int a_names_sizeBefore])), (a_names_texts, .inl (cs 1, a_names_texts_n, .inl a_names_texts_f)), (a_names_ends, .inr (1, [.ref a_names_ends_items, .int a_names_ends_size])), (a_names_ends_items, .inl (cs 0, a_names_ends_items_n, .inl a_names_ends_items_f)), (a_terms, .inr (7, [.ref a_terms_shapes, .ref a_terms_values, .ref a_terms_firstParts, .int a_terms_nodes, .ref a_terms_parts, .ref a_terms_variableNames, .ref a_terms_became, .int a_terms_variables, .int a_terms_variablesLack, .int a_terms_symbols, .int a_terms_nodesBefore, .int a_terms_partsBefore, .int a_terms_variablesBefore])), (a_terms_shapes, .inl (cs 0, a_terms_shapes_n, .inl a_terms_shapes_f)), (a_terms_values, .inl (cs 2, a_terms_values_n, .inr (.inl a_terms_values_f))), (a_terms_firstParts, .inl (cs 0, a_terms_firstParts_n, .inl a_terms_firstParts_f)), (a_terms_parts, .inr (1, [.ref a_terms_parts_items, .int a_terms_parts_size])), (a_terms_parts_items, .inl (cs 0, a_terms_parts_items_n, .inl a_terms_parts_items_f)), (a_terms_became, .inl (cs 0, a_terms_became_n, .inl a_terms_became_f)), (a_printer_result, .inr (0, [.ref a_printer_result_items, .int a_printer_result_size])), (a_printer_result_items, .inl (cs 1, a_printer_result_items_n, .inl a_printer_result_items_f)), (a_printer_draft, .inr (0, [.ref a_printer_draft_items, .int a_printer_draft_size])), (a_printer_draft_items, .inl (cs 1, a_printer_draft_items_n, .inl a_printer_draft_items_f)), (a_printer_path, .inr (1, [.ref a_printer_path_items, .int a_printer_path_size])), (a_printer_path_items, .inl (cs 0, a_printer_path_items_n, .inl a_printer_path_items_f)), (a_printer_numbers, .inl (cs 0, a_printer_numbers_n, .inl a_printer_numbers_f))]) hP hD hS hA [12, 1, 2, 3, 4, 5, 6, 7, 8, 9, 10, 11, 13, 14, 15, 16, 17, 18, 19] (by decide) rfl
    refine va_calli (va_runV (As := [.int (a_registers_f rr.toNatClampNeg)]) (rest := []) ⟨hx, hb, hml, hown, hg⟩ (c_Printer_show l g cs ka a_names_older a_names_newest a_terms_variableNames a_printer a_names a_names_texts a_names_ends a_names_ends_items a_terms a_terms_shapes a_terms_values a_terms_firstParts a_terms_parts a_terms_parts_items a_terms_became a_printer_result a_printer_result_items a_printer_draft a_printer_draft_items a_printer_path a_printer_path_items a_printer_numbers H.size n (a_registers_f rr.toNatClampNeg) a_printer_numbered a_names_textsSize a_names_sizeBefore a_names_texts_n a_names_texts_f a_names_ends_size a_names_ends_items_n a_names_ends_items_f a_terms_nodes a_terms_variables a_terms_variablesLack a_terms_symbols a_terms_nodesBefore a_terms_partsBefore a_terms_variablesBefore a_terms_shapes_n a_terms_shapes_f a_terms_values_n a_terms_values_f a_terms_firstParts_n a_terms_firstParts_f a_terms_parts_size a_terms_parts_items_n a_terms_parts_items_f a_terms_became_n a_terms_became_f a_printer_result_size a_printer_result_items_n a_printer_result_items_f a_printer_draft_size a_printer_draft_items_n a_printer_draft_items_f a_printer_path_size a_printer_path_items_n a_printer_path_items_f a_printer_numbers_n a_printer_numbers_f r3 a_numbered_3 a_result_size_3 a_result_items_n_3 a_result_items_f_3 a_draft_size_3 a_draft_items_n_3 a_draft_items_f_3 a_path_size_3 a_path_items_n_3 a_path_items_f_3 a_numbers_f_3 mk3 sk3 hc3) (cwV (C := R_Printer) 1 hg (gw_V wd_683 wd_684 wd_685 wd_550 wd_682) rfl rfl rfl (by decide +kernel) ⟨Nat.le_of_ble_eq_true rfl, Nat.le_of_ble_eq_true rfl⟩) ⟨gP_blind, va_recv (q0 := 12) (ci := 4) (q := (R_Printer, F_Printer, 7)) hK hP rfl rfl, gP_pre hPc hDc hK hgl hkn hkr hS hFc⟩ rfl rfl hl.1 rfl (lv_room (Nat.le_of_ble_eq_true rfl)) d_UB_print_14 ⟨show 0 + mk1 + mk3 ≤ mc from by omega, show 0 + sk1 + sk3 ≤ ms from by omega⟩) hS (fun q _ h => hFc q h) hFc (fun r3' u t H locs ht hvm hr3 hB hz1 hk1 hS => ?_)
    subst hr3
    rw [ht] at hB
    obtain ⟨a_result_3, a_result_items_3, a_draft_3, a_draft_items_3, a_path_items_3, hP1, hD1⟩ := hB
    obtain ⟨hP, hD⟩ := jn_A hP hD [12, 1, 2, 3, 4, 5, 6, 7, 8, 9, 10, 11, 13, 14, 15, 16, 17, 18, 19] [0, 20] rfl rfl (by decide) (by decide) hk1 hFc hP1 hD1
    obtain ⟨hP, hD⟩ : PD g A H [(a, .inr (9, [.ref a_tape, .ref a_names, .ref a_terms, .ref a_reader, .ref a_unifier, .ref a_printer, .ref a_registers, .ref a_marked, .int a_marks, .int a_place])), (a_registers, .inl (cs 0, a_registers_n, .inl a_registers_f)), (a_printer, .inr (4, [.ref a_names, .ref a_terms, .ref a_result_3, .ref a_draft_3, .ref a_printer_path, .ref a_printer_numbers, .int a_numbered_3])), (a_names, .inr (2, [.ref a_names_texts, .int a_names_textsSize, .ref a_names_ends, .ref a_names_older, .ref a_names_newest, .int a_names_sizeBefore])), (a_names_texts, .inl (cs 1, a_names_texts_n, .inl a_names_texts_f)), (a_names_ends, .inr (1, [.ref a_names_ends_items, .int a_names_ends_size])), (a_names_ends_items, .inl (cs 0, a_names_ends_items_n, .inl a_names_ends_items_f)), (a_terms, .inr (7, [.ref a_terms_shapes, .ref a_terms_values, .ref a_terms_firstParts, .int a_terms_nodes, .ref a_terms_parts, .ref a_terms_variableNames, .ref a_terms_became, .int a_terms_variables, .int a_terms_variablesLack, .int a_terms_symbols, .int a_terms_nodesBefore, .int a_terms_partsBefore, .int a_terms_variablesBefore])), (a_terms_shapes, .inl (cs 0, a_terms_shapes_n, .inl a_terms_shapes_f)), (a_terms_values, .inl (cs 2, a_terms_values_n, .inr (.inl a_terms_values_f))), (a_terms_firstParts, .inl (cs 0, a_terms_firstParts_n, .inl a_terms_firstParts_f)), (a_terms_parts, .inr (1, [.ref a_terms_parts_items, .int a_terms_parts_size])), (a_terms_parts_items, .inl (cs 0, a_terms_parts_items_n, .inl a_terms_parts_items_f)), (a_terms_became, .inl (cs 0, a_terms_became_n, .inl a_terms_became_f)), (a_result_3, .inr (0, [.ref a_result_items_3, .int a_result_size_3])), (a_result_items_3, .inl (cs 1, a_result_items_n_3, .inl a_result_items_f_3)), (a_draft_3, .inr (0, [.ref a_draft_items_3, .int a_draft_size_3])), (a_draft_items_3, .inl (cs 1, a_draft_items_n_3, .inl a_draft_items_f_3)), (a_printer_path, .inr (1, [.ref a_path_items_3, .int a_path_size_3])), (a_path_items_3, .inl (cs 0, a_path_items_n_3, .inl a_path_items_f_3)), (a_printer_numbers, .inl (cs 0, a_printer_numbers_n, .inl a_numbers_f_3))] := ⟨hP, hD⟩
    refine lv_if_ne hx hb d_UB_print_17 rfl (fun h4 => ?_) (fun h4 => ?_)
    · rw [if_neg h4] at hok
      refine lv_aload_n hx hb d_UB_print_28 rfl (lv_at hl 0 rfl) ?_
      refine va_get (D := g) (ci := 9) (v := .ref a_printer) (C := R_UB) (T := F_UB) (N := 10) hx hb hg ul_UB hown hK hP 0 rfl rfl 5 (by decide) (hg _ wd_681) (fun _ h9 => h9) rfl d_UB_print_29 ?_
      obtain ⟨u5, hc5, hok⟩ := bd_some hok
      obtain ⟨hPc, hDc, hFc⟩ := cut0 (wc := [(a_printer, .inr (4, [.ref a_names, .ref a_terms, .ref a_result_3, .ref a_draft_3, .ref a_printer_path, .ref a_printer_numbers, .int a_numbered_3])), (a_result_3, .inr (0, [.ref a_result_items_3, .int a_result_size_3]))]) hP hD hS hA [2, 14] (by decide) rfl
      refine va_callr (va_runV (As := []) (rest := []) ⟨hx, hb, hml, hown, hg⟩ (c_Printer_result l g cs ka a_names a_terms a_draft_3 a_printer_path a_printer_numbers a_result_items_3 a_printer a_result_3 H.size a_numbered_3 a_result_size_3 hc5) (cwV (C := R_Printer) 0 hg (gw_V wd_687 wd_688 wd_689 wd_550 wd_686) rfl rfl rfl (by decide +kernel) ⟨Nat.le_of_ble_eq_true rfl, Nat.le_of_ble_eq_true rfl⟩) ⟨gP_blind, va_recv (q0 := 2) (ci := 4) (q := (R_Printer, F_Printer, 7)) hK hP rfl rfl, gP_pre hPc hDc hK hgl hkn hkr hS hFc⟩ rfl rfl hl.1 rfl (lv_room (Nat.le_of_ble_eq_true rfl)) d_UB_print_32 ⟨show 0 + mk1 + mk3 + 0 ≤ mc from by omega, show 0 + sk1 + sk3 + 0 ≤ ms from by omega⟩) hS (fun q _ h => hFc q h) hFc (fun u ra5 t H locs ht hvm hr5 hB hz1 hk1 hS => ?_)
      rw [ht] at hB
      obtain ⟨hra5, hP1, hD1⟩ := hB
      subst hra5
      obtain ⟨hP, hD⟩ := jn_A hP hD [2, 14] [0, 1, 3, 4, 5, 6, 7, 8, 9, 10, 11, 12, 13, 15, 16, 17, 18, 19, 20] rfl rfl (by decide) (by decide) hk1 hFc hP1 hD1
      obtain ⟨hP, hD⟩ : PD g A H [(a, .inr (9, [.ref a_tape, .ref a_names, .ref a_terms, .ref a_reader, .ref a_unifier, .ref a_printer, .ref a_registers, .ref a_marked, .int a_marks, .int a_place])), (a_registers, .inl (cs 0, a_registers_n, .inl a_registers_f)), (a_names, .inr (2, [.ref a_names_texts, .int a_names_textsSize, .ref a_names_ends, .ref a_names_older, .ref a_names_newest, .int a_names_sizeBefore])), (a_names_texts, .inl (cs 1, a_names_texts_n, .inl a_names_texts_f)), (a_names_ends, .inr (1, [.ref a_names_ends_items, .int a_names_ends_size])), (a_names_ends_items, .inl (cs 0, a_names_ends_items_n, .inl a_names_ends_items_f)), (a_terms, .inr (7, [.ref a_terms_shapes, .ref a_terms_values, .ref a_terms_firstParts, .int a_terms_nodes, .ref a_terms_parts, .ref a_terms_variableNames, .ref a_terms_became, .int a_terms_variables, .int a_terms_variablesLack, .int a_terms_symbols, .int a_terms_nodesBefore, .int a_terms_partsBefore, .int a_terms_variablesBefore])), (a_terms_shapes, .inl (cs 0, a_terms_shapes_n, .inl a_terms_shapes_f)), (a_terms_values, .inl (cs 2, a_terms_values_n, .inr (.inl a_terms_values_f))), (a_terms_firstParts, .inl (cs 0, a_terms_firstParts_n, .inl a_terms_firstParts_f)), (a_terms_parts, .inr (1, [.ref a_terms_parts_items, .int a_terms_parts_size])), (a_terms_parts_items, .inl (cs 0, a_terms_parts_items_n, .inl a_terms_parts_items_f)), (a_terms_became, .inl (cs 0, a_terms_became_n, .inl a_terms_became_f)), (a_result_items_3, .inl (cs 1, a_result_items_n_3, .inl a_result_items_f_3)), (a_draft_3, .inr (0, [.ref a_draft_items_3, .int a_draft_size_3])), (a_draft_items_3, .inl (cs 1, a_draft_items_n_3, .inl a_draft_items_f_3)), (a_printer_path, .inr (1, [.ref a_path_items_3, .int a_path_size_3])), (a_path_items_3, .inl (cs 0, a_path_items_n_3, .inl a_path_items_f_3)), (a_printer_numbers, .inl (cs 0, a_printer_numbers_n, .inl a_numbers_f_3)), (a_printer, .inr (4, [.ref a_names, .ref a_terms, .ref a_result_3, .ref a_draft_3, .ref a_printer_path, .ref a_printer_numbers, .int a_numbered_3])), (a_result_3, .inr (0, [.ref a_result_items_3, .int a_result_size_3]))] := ⟨hP, hD⟩
      obtain ⟨r6, hc6, hok⟩ := bd_some hok
      obtain ⟨hPc, hDc, hFc⟩ := cut0 (wc := [(a_result_3, .inr (0, [.ref a_result_items_3, .int a_result_size_3]))]) hP hD hS hA [20] (by decide) rfl
      refine va_calli (va_runV (As := []) (rest := []) ⟨hx, hb, hml, hown, hg⟩ (c_Bytes_size l g cs ka a_result_items_3 a_result_3 H.size a_result_size_3 r6 hc6) (cwV (C := R_Bytes) 0 hg (gw_V wd_630 wd_452 wd_453 wd_450 wd_449) rfl rfl rfl (by decide +kernel) ⟨Nat.le_of_ble_eq_true rfl, Nat.le_of_ble_eq_true rfl⟩) ⟨gP_blind, va_recv (q0 := 20) (ci := 0) (q := (R_Bytes, F_Bytes, 2)) hK hP rfl rfl, gP_pre hPc hDc hK hgl hkn hkr hS hFc⟩ rfl rfl hl.1 rfl (lv_room (Nat.le_of_ble_eq_true rfl)) d_UB_print_35 ⟨show 0 + mk1 + mk3 + 0 + 0 ≤ mc from by omega, show 0 + sk1 + sk3 + 0 + 0 ≤ ms from by omega⟩) hS (fun q _ h => hFc q h) hFc (fun r6' u t H locs ht hvm hr6 hB hz1 hk1 hS => ?_)
      subst hr6
      rw [ht] at hB
      obtain ⟨hP1, hD1⟩ := hB
      obtain ⟨hP, hD⟩ := jn_A hP hD [20] [0, 1, 2, 3, 4, 5, 6, 7, 8, 9, 10, 11, 12, 13, 14, 15, 16, 17, 18, 19] rfl rfl (by decide) (by decide) hk1 hFc hP1 hD1
      obtain ⟨hP, hD⟩ : PD g A H [(a, .inr (9, [.ref a_tape, .ref a_names, .ref a_terms, .ref a_reader, .ref a_unifier, .ref a_printer, .ref a_registers, .ref a_marked, .int a_marks, .int a_place])), (a_registers, .inl (cs 0, a_registers_n, .inl a_registers_f)), (a_names, .inr (2, [.ref a_names_texts, .int a_names_textsSize, .ref a_names_ends, .ref a_names_older, .ref a_names_newest, .int a_names_sizeBefore])), (a_names_texts, .inl (cs 1, a_names_texts_n, .inl a_names_texts_f)), (a_names_ends, .inr (1, [.ref a_names_ends_items, .int a_names_ends_size])), (a_names_ends_items, .inl (cs 0, a_names_ends_items_n, .inl a_names_ends_items_f)), (a_terms, .inr (7, [.ref a_terms_shapes, .ref a_terms_values, .ref a_terms_firstParts, .int a_terms_nodes, .ref a_terms_parts, .ref a_terms_variableNames, .ref a_terms_became, .int a_terms_variables, .int a_terms_variablesLack, .int a_terms_symbols, .int a_terms_nodesBefore, .int a_terms_partsBefore, .int a_terms_variablesBefore])), (a_terms_shapes, .inl (cs 0, a_terms_shapes_n, .inl a_terms_shapes_f)), (a_terms_values, .inl (cs 2, a_terms_values_n, .inr (.inl a_terms_values_f))), (a_terms_firstParts, .inl (cs 0, a_terms_firstParts_n, .inl a_terms_firstParts_f)), (a_terms_parts, .inr (1, [.ref a_terms_parts_items, .int a_terms_parts_size])), (a_terms_parts_items, .inl (cs 0, a_terms_parts_items_n, .inl a_terms_parts_items_f)), (a_terms_became, .inl (cs 0, a_terms_became_n, .inl a_terms_became_f)), (a_result_items_3, .inl (cs 1, a_result_items_n_3, .inl a_result_items_f_3)), (a_draft_3, .inr (0, [.ref a_draft_items_3, .int a_draft_size_3])), (a_draft_items_3, .inl (cs 1, a_draft_items_n_3, .inl a_draft_items_f_3)), (a_printer_path, .inr (1, [.ref a_path_items_3, .int a_path_size_3])), (a_path_items_3, .inl (cs 0, a_path_items_n_3, .inl a_path_items_f_3)), (a_printer_numbers, .inl (cs 0, a_printer_numbers_n, .inl a_numbers_f_3)), (a_printer, .inr (4, [.ref a_names, .ref a_terms, .ref a_result_3, .ref a_draft_3, .ref a_printer_path, .ref a_printer_numbers, .int a_numbered_3])), (a_result_3, .inr (0, [.ref a_result_items_3, .int a_result_size_3]))] := ⟨hP, hD⟩
      obtain ⟨hq, hw⟩ := Prod.mk.inj (Option.some.inj hok)
      obtain ⟨hmc0, hms0⟩ := Prod.mk.inj hw
      obtain ⟨hq0, hq⟩ := Prod.mk.inj hq
      obtain ⟨hq1, hq⟩ := Prod.mk.inj hq
      obtain ⟨hq2, hq⟩ := Prod.mk.inj hq
      obtain ⟨hq3, hq⟩ := Prod.mk.inj hq
      obtain ⟨hq4, hq⟩ := Prod.mk.inj hq
      obtain ⟨hq5, hq⟩ := Prod.mk.inj hq
      obtain ⟨hq6, hq⟩ := Prod.mk.inj hq
      obtain ⟨hq7, hq⟩ := Prod.mk.inj hq
      obtain ⟨hq8, hq⟩ := Prod.mk.inj hq
      obtain ⟨hq9, hq⟩ := Prod.mk.inj hq
      obtain ⟨hq10, hq⟩ := Prod.mk.inj hq
      obtain ⟨hq11, hq⟩ := Prod.mk.inj hq
      have hq12 := hq
      subst hq0
      subst hq1
      subst hq2
      subst hq3
      subst hq4
      subst hq5
      subst hq6
      subst hq7
      subst hq8
      subst hq9
      subst hq10
      subst hq11
      subst hq12
      obtain ⟨hP9, hD9⟩ := sub2 (ws' := [(a, .inr (9, [.ref a_tape, .ref a_names, .ref a_terms, .ref a_reader, .ref a_unifier, .ref a_printer, .ref a_registers, .ref a_marked, .int a_marks, .int a_place])), (a_names, .inr (2, [.ref a_names_texts, .int a_names_textsSize, .ref a_names_ends, .ref a_names_older, .ref a_names_newest, .int a_names_sizeBefore])), (a_names_texts, .inl (cs 1, a_names_texts_n, .inl a_names_texts_f)), (a_names_ends, .inr (1, [.ref a_names_ends_items, .int a_names_ends_size])), (a_names_ends_items, .inl (cs 0, a_names_ends_items_n, .inl a_names_ends_items_f)), (a_terms, .inr (7, [.ref a_terms_shapes, .ref a_terms_values, .ref a_terms_firstParts, .int a_terms_nodes, .ref a_terms_parts, .ref a_terms_variableNames, .ref a_terms_became, .int a_terms_variables, .int a_terms_variablesLack, .int a_terms_symbols, .int a_terms_nodesBefore, .int a_terms_partsBefore, .int a_terms_variablesBefore])), (a_terms_shapes, .inl (cs 0, a_terms_shapes_n, .inl a_terms_shapes_f)), (a_terms_values, .inl (cs 2, a_terms_values_n, .inr (.inl a_terms_values_f))), (a_terms_firstParts, .inl (cs 0, a_terms_firstParts_n, .inl a_terms_firstParts_f)), (a_terms_parts, .inr (1, [.ref a_terms_parts_items, .int a_terms_parts_size])), (a_terms_parts_items, .inl (cs 0, a_terms_parts_items_n, .inl a_terms_parts_items_f)), (a_terms_became, .inl (cs 0, a_terms_became_n, .inl a_terms_became_f)), (a_printer, .inr (4, [.ref a_names, .ref a_terms, .ref a_result_3, .ref a_draft_3, .ref a_printer_path, .ref a_printer_numbers, .int a_numbered_3])), (a_result_3, .inr (0, [.ref a_result_items_3, .int a_result_size_3])), (a_result_items_3, .inl (cs 1, a_result_items_n_3, .inl a_result_items_f_3)), (a_draft_3, .inr (0, [.ref a_draft_items_3, .int a_draft_size_3])), (a_draft_items_3, .inl (cs 1, a_draft_items_n_3, .inl a_draft_items_f_3)), (a_printer_path, .inr (1, [.ref a_path_items_3, .int a_path_size_3])), (a_path_items_3, .inl (cs 0, a_path_items_n_3, .inl a_path_items_f_3)), (a_printer_numbers, .inl (cs 0, a_printer_numbers_n, .inl a_numbers_f_3)), (a_registers, .inl (cs 0, a_registers_n, .inl a_registers_f))]) hP hD [0, 2, 3, 4, 5, 6, 7, 8, 9, 10, 11, 12, 19, 20, 13, 14, 15, 16, 17, 18, 1] rfl (by decide) rfl
      refine W.widen (k := mc) (n := ms) (by omega) (by omega) ?_
      rw [hQ]
      exact tx_ret (W.iret (v := r6) hx hb hr (fun t ht hW => ⟨⟨tx_O.r0, a_result_3, a_result_items_3, a_draft_3, a_draft_items_3, a_path_items_3, by rw [ht]; exact hP9, hD9⟩, hS.F ht⟩) hS.2.2 d_UB_print_38)
    · rw [if_pos h4] at hok
      obtain ⟨m8, s8, hok, hmc8, hms8⟩ := al_some hok
      obtain ⟨hq, hw⟩ := Prod.mk.inj (Option.some.inj hok)
      obtain ⟨hmc0, hms0⟩ := Prod.mk.inj hw
      obtain ⟨hq0, hq⟩ := Prod.mk.inj hq
      obtain ⟨hq1, hq⟩ := Prod.mk.inj hq
      obtain ⟨hq2, hq⟩ := Prod.mk.inj hq
      obtain ⟨hq3, hq⟩ := Prod.mk.inj hq
      obtain ⟨hq4, hq⟩ := Prod.mk.inj hq
      obtain ⟨hq5, hq⟩ := Prod.mk.inj hq
      obtain ⟨hq6, hq⟩ := Prod.mk.inj hq
      obtain ⟨hq7, hq⟩ := Prod.mk.inj hq
      obtain ⟨hq8, hq⟩ := Prod.mk.inj hq
      obtain ⟨hq9, hq⟩ := Prod.mk.inj hq
      obtain ⟨hq10, hq⟩ := Prod.mk.inj hq
      obtain ⟨hq11, hq⟩ := Prod.mk.inj hq
      have hq12 := hq
      subst hq0
      subst hq1
      subst hq2
      subst hq3
      subst hq4
      subst hq5
      subst hq6
      subst hq7
      subst hq8
      subst hq9
      subst hq10
      subst hq11
      subst hq12
      have hD9 := hD.sub (ws' := [(a, .inr (9, [.ref a_tape, .ref a_names, .ref a_terms, .ref a_reader, .ref a_unifier, .ref a_printer, .ref a_registers, .ref a_marked, .int a_marks, .int a_place])), (a_names, .inr (2, [.ref a_names_texts, .int a_names_textsSize, .ref a_names_ends, .ref a_names_older, .ref a_names_newest, .int a_names_sizeBefore])), (a_names_texts, .inl (cs 1, a_names_texts_n, .inl a_names_texts_f)), (a_names_ends, .inr (1, [.ref a_names_ends_items, .int a_names_ends_size])), (a_names_ends_items, .inl (cs 0, a_names_ends_items_n, .inl a_names_ends_items_f)), (a_terms, .inr (7, [.ref a_terms_shapes, .ref a_terms_values, .ref a_terms_firstParts, .int a_terms_nodes, .ref a_terms_parts, .ref a_terms_variableNames, .ref a_terms_became, .int a_terms_variables, .int a_terms_variablesLack, .int a_terms_symbols, .int a_terms_nodesBefore, .int a_terms_partsBefore, .int a_terms_variablesBefore])), (a_terms_shapes, .inl (cs 0, a_terms_shapes_n, .inl a_terms_shapes_f)), (a_terms_values, .inl (cs 2, a_terms_values_n, .inr (.inl a_terms_values_f))), (a_terms_firstParts, .inl (cs 0, a_terms_firstParts_n, .inl a_terms_firstParts_f)), (a_terms_parts, .inr (1, [.ref a_terms_parts_items, .int a_terms_parts_size])), (a_terms_parts_items, .inl (cs 0, a_terms_parts_items_n, .inl a_terms_parts_items_f)), (a_terms_became, .inl (cs 0, a_terms_became_n, .inl a_terms_became_f)), (a_printer, .inr (4, [.ref a_names, .ref a_terms, .ref a_result_3, .ref a_draft_3, .ref a_printer_path, .ref a_printer_numbers, .int a_numbered_3])), (a_result_3, .inr (0, [.ref a_result_items_3, .int a_result_size_3])), (a_result_items_3, .inl (cs 1, a_result_items_n_3, .inl a_result_items_f_3)), (a_draft_3, .inr (0, [.ref a_draft_items_3, .int a_draft_size_3])), (a_draft_items_3, .inl (cs 1, a_draft_items_n_3, .inl a_draft_items_f_3)), (a_printer_path, .inr (1, [.ref a_path_items_3, .int a_path_size_3])), (a_path_items_3, .inl (cs 0, a_path_items_n_3, .inl a_path_items_f_3)), (a_printer_numbers, .inl (cs 0, a_printer_numbers_n, .inl a_numbers_f_3)), (a_registers, .inl (cs 0, a_registers_n, .inl a_registers_f))]) [0, 3, 4, 5, 6, 7, 8, 9, 10, 11, 12, 13, 2, 14, 15, 16, 17, 18, 19, 20, 1] (by decide) rfl
      rw [hQ]
      refine tx_wid (k := 0 + mk1 + mk3 + 1) (n := 0 + sk1 + sk3 + 6) (by omega) (by omega) ?_
      exact tx_throw (X := "java/lang/IndexOutOfBoundsException") hx hb (hml.trans hl.1.symm) hfl hlocks hown (by decide) (hg _ wd_636) (hg _ wd_637) (tx_before tx_at_UB_92 hg hgl hkn) hkn hP hS hA (tx_noH B hcd 27) (show 0 + mk1 + mk3 + 1 ≤ mc from by omega) (show 0 + sk1 + sk3 + 6 ≤ ms from by omega) (Nat.le_of_ble_eq_true rfl) (Nat.le_of_ble_eq_true rfl) d_UB_print_20 d_UB_print_23 d_UB_print_24 d_UB_print_27 (fun t x hPt hSt hW hX => ⟨⟨tx_O.t0 (by decide) hX, a_result_3, a_result_items_3, a_draft_3, a_draft_items_3, a_path_items_3, hPt.sub (ws' := [(a, .inr (9, [.ref a_tape, .ref a_names, .ref a_terms, .ref a_reader, .ref a_unifier, .ref a_printer, .ref a_registers, .ref a_marked, .int a_marks, .int a_place])), (a_names, .inr (2, [.ref a_names_texts, .int a_names_textsSize, .ref a_names_ends, .ref a_names_older, .ref a_names_newest, .int a_names_sizeBefore])), (a_names_texts, .inl (cs 1, a_names_texts_n, .inl a_names_texts_f)), (a_names_ends, .inr (1, [.ref a_names_ends_items, .int a_names_ends_size])), (a_names_ends_items, .inl (cs 0, a_names_ends_items_n, .inl a_names_ends_items_f)), (a_terms, .inr (7, [.ref a_terms_shapes, .ref a_terms_values, .ref a_terms_firstParts, .int a_terms_nodes, .ref a_terms_parts, .ref a_terms_variableNames, .ref a_terms_became, .int a_terms_variables, .int a_terms_variablesLack, .int a_terms_symbols, .int a_terms_nodesBefore, .int a_terms_partsBefore, .int a_terms_variablesBefore])), (a_terms_shapes, .inl (cs 0, a_terms_shapes_n, .inl a_terms_shapes_f)), (a_terms_values, .inl (cs 2, a_terms_values_n, .inr (.inl a_terms_values_f))), (a_terms_firstParts, .inl (cs 0, a_terms_firstParts_n, .inl a_terms_firstParts_f)), (a_terms_parts, .inr (1, [.ref a_terms_parts_items, .int a_terms_parts_size])), (a_terms_parts_items, .inl (cs 0, a_terms_parts_items_n, .inl a_terms_parts_items_f)), (a_terms_became, .inl (cs 0, a_terms_became_n, .inl a_terms_became_f)), (a_printer, .inr (4, [.ref a_names, .ref a_terms, .ref a_result_3, .ref a_draft_3, .ref a_printer_path, .ref a_printer_numbers, .int a_numbered_3])), (a_result_3, .inr (0, [.ref a_result_items_3, .int a_result_size_3])), (a_result_items_3, .inl (cs 1, a_result_items_n_3, .inl a_result_items_f_3)), (a_draft_3, .inr (0, [.ref a_draft_items_3, .int a_draft_size_3])), (a_draft_items_3, .inl (cs 1, a_draft_items_n_3, .inl a_draft_items_f_3)), (a_printer_path, .inr (1, [.ref a_path_items_3, .int a_path_size_3])), (a_path_items_3, .inl (cs 0, a_path_items_n_3, .inl a_path_items_f_3)), (a_printer_numbers, .inl (cs 0, a_printer_numbers_n, .inl a_numbers_f_3)), (a_registers, .inl (cs 0, a_registers_n, .inl a_registers_f))]) [0, 3, 4, 5, 6, 7, 8, 9, 10, 11, 12, 13, 2, 14, 15, 16, 17, 18, 19, 20, 1] rfl, hD9⟩, hSt.F rfl⟩) hS.2.2
  · obtain ⟨⟨hO, hB⟩, -⟩ := hB
    obtain ⟨hx1, hX⟩ := hO.thr
    rw [if_neg hx1] at hok
    rw [ht] at hB
    obtain ⟨hP1, hD1⟩ := hB
    obtain ⟨hP, hD⟩ := jn_A hP hD [] [0, 1, 2, 3, 4, 5, 6, 7, 8, 9, 10, 11, 12, 13, 14, 15, 16, 17, 18, 19, 20] rfl rfl (by decide) (by decide) hk1 hFc hP1 hD1
    obtain ⟨hq, hw⟩ := Prod.mk.inj (Option.some.inj hok)
    obtain ⟨hmc0, hms0⟩ := Prod.mk.inj hw
    obtain ⟨hq0, hq⟩ := Prod.mk.inj hq
    obtain ⟨hq1, hq⟩ := Prod.mk.inj hq
    obtain ⟨hq2, hq⟩ := Prod.mk.inj hq
    obtain ⟨hq3, hq⟩ := Prod.mk.inj hq
    obtain ⟨hq4, hq⟩ := Prod.mk.inj hq
    obtain ⟨hq5, hq⟩ := Prod.mk.inj hq
    obtain ⟨hq6, hq⟩ := Prod.mk.inj hq
    obtain ⟨hq7, hq⟩ := Prod.mk.inj hq
    obtain ⟨hq8, hq⟩ := Prod.mk.inj hq
    obtain ⟨hq9, hq⟩ := Prod.mk.inj hq
    obtain ⟨hq10, hq⟩ := Prod.mk.inj hq
    obtain ⟨hq11, hq⟩ := Prod.mk.inj hq
    have hq12 := hq
    subst hq0
    subst hq1
    subst hq2
    subst hq3
    subst hq4
    subst hq5
    subst hq6
    subst hq7
    subst hq8
    subst hq9
    subst hq10
    subst hq11
    subst hq12
    obtain ⟨hP9, hD9⟩ := sub2 (ws' := [(a, .inr (9, [.ref a_tape, .ref a_names, .ref a_terms, .ref a_reader, .ref a_unifier, .ref a_printer, .ref a_registers, .ref a_marked, .int a_marks, .int a_place])), (a_names, .inr (2, [.ref a_names_texts, .int a_names_textsSize, .ref a_names_ends, .ref a_names_older, .ref a_names_newest, .int a_names_sizeBefore])), (a_names_texts, .inl (cs 1, a_names_texts_n, .inl a_names_texts_f)), (a_names_ends, .inr (1, [.ref a_names_ends_items, .int a_names_ends_size])), (a_names_ends_items, .inl (cs 0, a_names_ends_items_n, .inl a_names_ends_items_f)), (a_terms, .inr (7, [.ref a_terms_shapes, .ref a_terms_values, .ref a_terms_firstParts, .int a_terms_nodes, .ref a_terms_parts, .ref a_terms_variableNames, .ref a_terms_became, .int a_terms_variables, .int a_terms_variablesLack, .int a_terms_symbols, .int a_terms_nodesBefore, .int a_terms_partsBefore, .int a_terms_variablesBefore])), (a_terms_shapes, .inl (cs 0, a_terms_shapes_n, .inl a_terms_shapes_f)), (a_terms_values, .inl (cs 2, a_terms_values_n, .inr (.inl a_terms_values_f))), (a_terms_firstParts, .inl (cs 0, a_terms_firstParts_n, .inl a_terms_firstParts_f)), (a_terms_parts, .inr (1, [.ref a_terms_parts_items, .int a_terms_parts_size])), (a_terms_parts_items, .inl (cs 0, a_terms_parts_items_n, .inl a_terms_parts_items_f)), (a_terms_became, .inl (cs 0, a_terms_became_n, .inl a_terms_became_f)), (a_printer, .inr (4, [.ref a_names, .ref a_terms, .ref a_printer_result, .ref a_printer_draft, .ref a_printer_path, .ref a_printer_numbers, .int a_printer_numbered])), (a_printer_result, .inr (0, [.ref a_printer_result_items, .int a_printer_result_size])), (a_printer_result_items, .inl (cs 1, a_printer_result_items_n, .inl a_printer_result_items_f)), (a_printer_draft, .inr (0, [.ref a_printer_draft_items, .int a_printer_draft_size])), (a_printer_draft_items, .inl (cs 1, a_printer_draft_items_n, .inl a_printer_draft_items_f)), (a_printer_path, .inr (1, [.ref a_printer_path_items, .int a_printer_path_size])), (a_printer_path_items, .inl (cs 0, a_printer_path_items_n, .inl a_printer_path_items_f)), (a_printer_numbers, .inl (cs 0, a_printer_numbers_n, .inl a_printer_numbers_f)), (a_registers, .inl (cs 0, a_registers_n, .inl a_registers_f))]) hP hD [0, 1, 2, 3, 4, 5, 6, 7, 8, 9, 10, 11, 12, 13, 14, 15, 16, 17, 18, 19, 20] rfl (by decide) rfl
    exact ⟨fun t' ht' hv' hW' => ⟨⟨tx_O.t0 hx1 (hX.moved (ht.trans ht'.symm) hv'), a_printer_result, a_printer_result_items, a_printer_draft, a_printer_draft_items, a_printer_path_items, by rw [ht']; exact hP9, hD9⟩, hS.F ht'⟩, hS.2.2, by omega, by omega⟩

theorem d_UB_word_0 : decode b_UB_word 0 = .ok (.aload_n 0, 1) := by decide +kernel
theorem d_UB_word_1 : decode b_UB_word 1 = .ok (.getfield 58, 3) := by decide +kernel
theorem d_UB_word_4 : decode b_UB_word 4 = .ok (.invokevirtual 171, 3) := by decide +kernel
theorem d_UB_word_7 : decode b_UB_word 7 = .ok (.astore_n 2, 1) := by decide +kernel
theorem d_UB_word_8 : decode b_UB_word 8 = .ok (.iload_n 1, 1) := by decide +kernel
theorem d_UB_word_9 : decode b_UB_word 9 = .ok (.ifCond .lt 11, 3) := by decide +kernel
theorem d_UB_word_12 : decode b_UB_word 12 = .ok (.iload_n 1, 1) := by decide +kernel
theorem d_UB_word_13 : decode b_UB_word 13 = .ok (.aload_n 2, 1) := by decide +kernel
theorem d_UB_word_14 : decode b_UB_word 14 = .ok (.invokevirtual 86, 3) := by decide +kernel
theorem d_UB_word_17 : decode b_UB_word 17 = .ok (.if_icmp .lt 11, 3) := by decide +kernel
theorem d_UB_word_20 : decode b_UB_word 20 = .ok (.new 90, 3) := by decide +kernel
theorem d_UB_word_23 : decode b_UB_word 23 = .ok (.dup, 1) := by decide +kernel
theorem d_UB_word_24 : decode b_UB_word 24 = .ok (.invokespecial 92, 3) := by decide +kernel
theorem d_UB_word_27 : decode b_UB_word 27 = .ok (.athrow, 1) := by decide +kernel
theorem d_UB_word_28 : decode b_UB_word 28 = .ok (.lconst 0, 1) := by decide +kernel
theorem d_UB_word_29 : decode b_UB_word 29 = .ok (.lstore_n 3, 1) := by decide +kernel
theorem d_UB_word_30 : decode b_UB_word 30 = .ok (.iconst 0, 1) := by decide +kernel
theorem d_UB_word_31 : decode b_UB_word 31 = .ok (.istore 5, 2) := by decide +kernel
theorem d_UB_word_33 : decode b_UB_word 33 = .ok (.iload 5, 2) := by decide +kernel
theorem d_UB_word_35 : decode b_UB_word 35 = .ok (.bipush 8, 2) := by decide +kernel
theorem d_UB_word_37 : decode b_UB_word 37 = .ok (.if_icmp .ge 24, 3) := by decide +kernel
theorem d_UB_word_40 : decode b_UB_word 40 = .ok (.lload_n 3, 1) := by decide +kernel
theorem d_UB_word_41 : decode b_UB_word 41 = .ok (.bipush 8, 2) := by decide +kernel
theorem d_UB_word_43 : decode b_UB_word 43 = .ok (.lshl, 1) := by decide +kernel
theorem d_UB_word_44 : decode b_UB_word 44 = .ok (.aload_n 2, 1) := by decide +kernel
theorem d_UB_word_45 : decode b_UB_word 45 = .ok (.iload_n 1, 1) := by decide +kernel
theorem d_UB_word_46 : decode b_UB_word 46 = .ok (.iload 5, 2) := by decide +kernel
theorem d_UB_word_48 : decode b_UB_word 48 = .ok (.iadd, 1) := by decide +kernel
theorem d_UB_word_49 : decode b_UB_word 49 = .ok (.invokevirtual 175, 3) := by decide +kernel
theorem d_UB_word_52 : decode b_UB_word 52 = .ok (.i2l, 1) := by decide +kernel
theorem d_UB_word_53 : decode b_UB_word 53 = .ok (.lor, 1) := by decide +kernel
theorem d_UB_word_54 : decode b_UB_word 54 = .ok (.lstore_n 3, 1) := by decide +kernel
theorem d_UB_word_55 : decode b_UB_word 55 = .ok (.iinc 5 1, 3) := by decide +kernel
theorem d_UB_word_58 : decode b_UB_word 58 = .ok (.goto (-25), 3) := by decide +kernel
theorem d_UB_word_61 : decode b_UB_word 61 = .ok (.lload_n 3, 1) := by decide +kernel
theorem d_UB_word_62 : decode b_UB_word 62 = .ok (.lreturn, 1) := by decide +kernel
def p_UB_word_33 (n : Nat) (i : Int32) (a_printer_result_size : Int32) (a_printer_result_items_n : Nat) (a_printer_result_items_f : Nat → Int32) (kf7 : Nat) (x5_7 : Int32) (x3_7 : Int64) : Option ((Nat × Int64) × Nat × Nat) := match kf7 with
  | 0 => none
  | kf7 + 1 => if 8 ≤ x5_7 then (some ((0, x3_7), 0, 0)) else ((p_Bytes_at (i + x5_7) a_printer_result_size a_printer_result_items_n a_printer_result_items_f).bind (fun r9 => p_UB_word_33 n i a_printer_result_size a_printer_result_items_n a_printer_result_items_f kf7 (x5_7 + 1) ((x3_7 <<< ((8 : Int32).toInt64 &&& 63)) ||| r9.toInt64)))
def p_UB_word (n : Nat) (i : Int32) (a_marks : Int32) (a_place : Int32) (a_printer_numbered : Int32) (a_printer_result_size : Int32) (a_printer_result_items_n : Nat) (a_printer_result_items_f : Nat → Int32) : Option ((Nat × Int64) × Nat × Nat) := (p_Printer_result a_printer_numbered a_printer_result_size).bind (fun _ => if i < 0 then (al 1 6 (some ((3, (0 : Int64)), 0, 0))) else ((p_Bytes_size a_printer_result_size).bind (fun r5 => if i < r5 then (p_UB_word_33 n i a_printer_result_size a_printer_result_items_n a_printer_result_items_f n (0 : Int32) (0 : Int64)) else (al 1 6 (some ((3, (0 : Int64)), 0, 0))))))
set_option maxHeartbeats 4000000 in
set_option maxRecDepth 100000 in
theorem c_UB_word (l : Launch) (g : va_G) (cs : Nat → ClassId) (ka : Nat → Nat) (hfl : l.flags = pinnedFlags ++ [noTraceFlag]) (a_tape : Nat) (a_names : Nat) (a_terms : Nat) (a_reader : Nat) (a_unifier : Nat) (a_registers : Nat) (a_marked : Nat) (a_printer_names : Nat) (a_printer_terms : Nat) (a_printer_draft : Nat) (a_printer_path : Nat) (a_printer_numbers : Nat) (a a_printer a_printer_result a_printer_result_items : Nat) (sz : Nat) (n : Nat) (i : Int32) (a_marks : Int32) (a_place : Int32) (a_printer_numbered : Int32) (a_printer_result_size : Int32) (a_printer_result_items_n : Nat) (a_printer_result_items_f : Nat → Int32) (xc : Nat) (r : Int64) (mc ms : Nat) (hok : p_UB_word n i a_marks a_place a_printer_numbered a_printer_result_size a_printer_result_items_n a_printer_result_items_f = some ((xc, r), mc, ms)) : tx_Met l y_UB_word (.code y_UB_word b_UB_word 6 (some .long) :: GW) { frames := 6, cells := mc, slots := ms, locals := 90 } (va_Pc [.ref a, .int i] (gP g cs ka [(a, .inr (9, [.ref a_tape, .ref a_names, .ref a_terms, .ref a_reader, .ref a_unifier, .ref a_printer, .ref a_registers, .ref a_marked, .int a_marks, .int a_place])), (a_printer, .inr (4, [.ref a_printer_names, .ref a_printer_terms, .ref a_printer_result, .ref a_printer_draft, .ref a_printer_path, .ref a_printer_numbers, .int a_printer_numbered])), (a_printer_result, .inr (0, [.ref a_printer_result_items, .int a_printer_result_size])), (a_printer_result_items, .inl (cs 1, a_printer_result_items_n, .inl a_printer_result_items_f))] sz)) (fun _ st oc t => (tx_O xc (some (.long r)) oc t ∧ va_P g classes [(a, .inr (9, [.ref a_tape, .ref a_names, .ref a_terms, .ref a_reader, .ref a_unifier, .ref a_printer, .ref a_registers, .ref a_marked, .int a_marks, .int a_place])), (a_printer, .inr (4, [.ref a_printer_names, .ref a_printer_terms, .ref a_printer_result, .ref a_printer_draft, .ref a_printer_path, .ref a_printer_numbers, .int a_printer_numbered])), (a_printer_result, .inr (0, [.ref a_printer_result_items, .int a_printer_result_size])), (a_printer_result_items, .inl (cs 1, a_printer_result_items_n, .inl a_printer_result_items_f))] t.heap ∧ va_D (va_A [(a, .inr (9, [.ref a_tape, .ref a_names, .ref a_terms, .ref a_reader, .ref a_unifier, .ref a_printer, .ref a_registers, .ref a_marked, .int a_marks, .int a_place])), (a_printer, .inr (4, [.ref a_printer_names, .ref a_printer_terms, .ref a_printer_result, .ref a_printer_draft, .ref a_printer_path, .ref a_printer_numbers, .int a_printer_numbered])), (a_printer_result, .inr (0, [.ref a_printer_result_items, .int a_printer_result_size])), (a_printer_result_items, .inl (cs 1, a_printer_result_items_n, .inl a_printer_result_items_f))] sz) [(a, .inr (9, [.ref a_tape, .ref a_names, .ref a_terms, .ref a_reader, .ref a_unifier, .ref a_printer, .ref a_registers, .ref a_marked, .int a_marks, .int a_place])), (a_printer, .inr (4, [.ref a_printer_names, .ref a_printer_terms, .ref a_printer_result, .ref a_printer_draft, .ref a_printer_path, .ref a_printer_numbers, .int a_printer_numbered])), (a_printer_result, .inr (0, [.ref a_printer_result_items, .int a_printer_result_size])), (a_printer_result_items, .inl (cs 1, a_printer_result_items_n, .inl a_printer_result_items_f))]) ∧ va_F (va_A [(a, .inr (9, [.ref a_tape, .ref a_names, .ref a_terms, .ref a_reader, .ref a_unifier, .ref a_printer, .ref a_registers, .ref a_marked, .int a_marks, .int a_place])), (a_printer, .inr (4, [.ref a_printer_names, .ref a_printer_terms, .ref a_printer_result, .ref a_printer_draft, .ref a_printer_path, .ref a_printer_numbers, .int a_printer_numbered])), (a_printer_result, .inr (0, [.ref a_printer_result_items, .int a_printer_result_size])), (a_printer_result_items, .inl (cs 1, a_printer_result_items_n, .inl a_printer_result_items_f))] sz) st t) mc ms (va_A [(a, .inr (9, [.ref a_tape, .ref a_names, .ref a_terms, .ref a_reader, .ref a_unifier, .ref a_printer, .ref a_registers, .ref a_marked, .int a_marks, .int a_place])), (a_printer, .inr (4, [.ref a_printer_names, .ref a_printer_terms, .ref a_printer_result, .ref a_printer_draft, .ref a_printer_path, .ref a_printer_numbers, .int a_printer_numbered])), (a_printer_result, .inr (0, [.ref a_printer_result_items, .int a_printer_result_size])), (a_printer_result_items, .inl (cs 1, a_printer_result_items_n, .inl a_printer_result_items_f))] sz) := by
  refine tx_ofW (cc := b_UB_word) (maxL := 6) (ret := (some .long)) (by decide) rfl ?_
  intro p e s m args below meth c s₁ B hml hv
  obtain ⟨rfl, hsz, hP, hK, hD0, hgl, hkn, hkr⟩ := hv
  have hx := B.exec
  have hb := B.bytes
  have hr := B.returns
  have hg : ∀ w ∈ GW, w.before ([.ref a, .int i] : List Value).toArray s = true := fun w hw => atoms_spec (ws := .code y_UB_word b_UB_word 6 (some .long) :: GW) B.pre w (List.mem_cons_of_mem _ hw)
  have hown : s.vm.findClass R_UB = some m.cls := findClass_of_methodNamed B.named
  have hlocks := B.notSynchronized
  have hcd : (Cond.code y_UB_word b_UB_word 6 (some .long)).before ([.ref a, .int i] : List Value).toArray s = true := atoms_spec (ws := .code y_UB_word b_UB_word 6 (some .long) :: GW) B.pre _ List.mem_cons_self
  subst hsz
  have hD := hD0.self (sz := s.heap.size)
  generalize hAe : va_A [(a, .inr (9, [.ref a_tape, .ref a_names, .ref a_terms, .ref a_reader, .ref a_unifier, .ref a_printer, .ref a_registers, .ref a_marked, .int a_marks, .int a_place])), (a_printer, .inr (4, [.ref a_printer_names, .ref a_printer_terms, .ref a_printer_result, .ref a_printer_draft, .ref a_printer_path, .ref a_printer_numbers, .int a_printer_numbered])), (a_printer_result, .inr (0, [.ref a_printer_result_items, .int a_printer_result_size])), (a_printer_result_items, .inl (cs 1, a_printer_result_items_n, .inl a_printer_result_items_f))] s.heap.size = A at hD hkn ⊢
  have hA : ∀ q : Nat, s.heap.size ≤ q → A q := fun q h => by rw [← hAe]; exact Or.inr h
  have hS : va_S A s.heap s.heap [] := va_S.rf
  have hP : va_P g classes [(a, .inr (9, [.ref a_tape, .ref a_names, .ref a_terms, .ref a_reader, .ref a_unifier, .ref a_printer, .ref a_registers, .ref a_marked, .int a_marks, .int a_place])), (a_printer, .inr (4, [.ref a_printer_names, .ref a_printer_terms, .ref a_printer_result, .ref a_printer_draft, .ref a_printer_path, .ref a_printer_numbers, .int a_printer_numbered])), (a_printer_result, .inr (0, [.ref a_printer_result_items, .int a_printer_result_size])), (a_printer_result_items, .inl (cs 1, a_printer_result_items_n, .inl a_printer_result_items_f))] s.heap := hP
  have hl := lv_entry ([.ref a, .int i]) (n := 6) (Nat.le_of_ble_eq_true rfl)
  rw [lg_entry_eq]
  generalize (lg_sl ([.ref a, .int i]) ++ List.replicate (6 - (lg_sl ([.ref a, .int i])).length) Slot.unset).toArray = ls at hl ⊢
  have hl : lv_has ls 6 [(0, .ref a), (1, .int i)] := hl
  refine gq (fun Q hQ => ?_)
  obtain ⟨H, hH⟩ : ∃ H : Heap, H = s.heap := ⟨_, rfl⟩
  rw [← hH] at hP
  have hS : va_S A s.heap H [] := by rw [hH]; exact hS
  refine W.eqH hH ?_
  obtain ⟨locs, hlc⟩ : ∃ L : List Loc, L = [] := ⟨_, rfl⟩
  rw [← hlc] at hS ⊢
  unfold p_UB_word at hok
  refine lv_aload_n hx hb d_UB_word_0 rfl (lv_at hl 0 rfl) ?_
  refine va_get (D := g) (ci := 9) (v := .ref a_printer) (C := R_UB) (T := F_UB) (N := 10) hx hb hg ul_UB hown hK hP 0 rfl rfl 5 (by decide) (hg _ wd_681) (fun _ h9 => h9) rfl d_UB_word_1 ?_
  obtain ⟨u1, hc1, hok⟩ := bd_some hok
  obtain ⟨hPc, hDc, hFc⟩ := cut0 (wc := [(a_printer, .inr (4, [.ref a_printer_names, .ref a_printer_terms, .ref a_printer_result, .ref a_printer_draft, .ref a_printer_path, .ref a_printer_numbers, .int a_printer_numbered])), (a_printer_result, .inr (0, [.ref a_printer_result_items, .int a_printer_result_size]))]) hP hD hS hA [1, 2] (by decide) rfl
  refine va_callr (va_runV (As := []) (rest := []) ⟨hx, hb, hml, hown, hg⟩ (c_Printer_result l g cs ka a_printer_names a_printer_terms a_printer_draft a_printer_path a_printer_numbers a_printer_result_items a_printer a_printer_result H.size a_printer_numbered a_printer_result_size hc1) (cwV (C := R_Printer) 0 hg (gw_V wd_687 wd_688 wd_689 wd_550 wd_686) rfl rfl rfl (by decide +kernel) ⟨Nat.le_of_ble_eq_true rfl, Nat.le_of_ble_eq_true rfl⟩) ⟨gP_blind, va_recv (q0 := 1) (ci := 4) (q := (R_Printer, F_Printer, 7)) hK hP rfl rfl, gP_pre hPc hDc hK hgl hkn hkr hS hFc⟩ rfl rfl hl.1 rfl (lv_room (Nat.le_of_ble_eq_true rfl)) d_UB_word_4 ⟨show 0 + 0 ≤ mc from by omega, show 0 + 0 ≤ ms from by omega⟩) hS (fun q _ h => hFc q h) hFc (fun u ra1 t H locs ht hvm hr1 hB hz1 hk1 hS => ?_)
  rw [ht] at hB
  obtain ⟨hra1, hP1, hD1⟩ := hB
  subst hra1
  obtain ⟨hP, hD⟩ := jn_A hP hD [1, 2] [0, 3] rfl rfl (by decide) (by decide) hk1 hFc hP1 hD1
  obtain ⟨hP, hD⟩ : PD g A H [(a, .inr (9, [.ref a_tape, .ref a_names, .ref a_terms, .ref a_reader, .ref a_unifier, .ref a_printer, .ref a_registers, .ref a_marked, .int a_marks, .int a_place])), (a_printer_result_items, .inl (cs 1, a_printer_result_items_n, .inl a_printer_result_items_f)), (a_printer, .inr (4, [.ref a_printer_names, .ref a_printer_terms, .ref a_printer_result, .ref a_printer_draft, .ref a_printer_path, .ref a_printer_numbers, .int a_printer_numbered])), (a_printer_result, .inr (0, [.ref a_printer_result_items, .int a_printer_result_size]))] := ⟨hP, hD⟩
  refine lv_astore_n hx hb d_UB_word_7 rfl hl (by decide) rfl (fun ls hl => ?_)
  have hl : lv_has ls 6 [(2, .ref a_printer_result), (0, .ref a), (1, .int i)] := hl
  refine lv_iload_n hx hb d_UB_word_8 rfl (lv_at hl 2 rfl) ?_
  refine lv_if_lt hx hb d_UB_word_9 rfl (fun h2 => ?_) (fun h2 => ?_)
  · rw [if_pos h2] at hok
    obtain ⟨m4, s4, hok, hmc4, hms4⟩ := al_some hok
    obtain ⟨hq, hw⟩ := Prod.mk.inj (Option.some.inj hok)
    obtain ⟨hmc0, hms0⟩ := Prod.mk.inj hw
    obtain ⟨hq0, hq⟩ := Prod.mk.inj hq
    have hq1 := hq
    subst hq0
    subst hq1
    have hD9 := hD.sub (ws' := [(a, .inr (9, [.ref a_tape, .ref a_names, .ref a_terms, .ref a_reader, .ref a_unifier, .ref a_printer, .ref a_registers, .ref a_marked, .int a_marks, .int a_place])), (a_printer, .inr (4, [.ref a_printer_names, .ref a_printer_terms, .ref a_printer_result, .ref a_printer_draft, .ref a_printer_path, .ref a_printer_numbers, .int a_printer_numbered])), (a_printer_result, .inr (0, [.ref a_printer_result_items, .int a_printer_result_size])), (a_printer_result_items, .inl (cs 1, a_printer_result_items_n, .inl a_printer_result_items_f))]) [0, 2, 3, 1] (by decide) rfl
    rw [hQ]
    refine tx_wid (k := 0 + 0 + 1) (n := 0 + 0 + 6) (by omega) (by omega) ?_
    exact tx_throw (X := "java/lang/IndexOutOfBoundsException") hx hb (hml.trans hl.1.symm) hfl hlocks hown (by decide) (hg _ wd_636) (hg _ wd_637) (tx_before tx_at_UB_92 hg hgl hkn) hkn hP hS hA (tx_noH B hcd 27) (show 0 + 0 + 1 ≤ mc from by omega) (show 0 + 0 + 6 ≤ ms from by omega) (Nat.le_of_ble_eq_true rfl) (Nat.le_of_ble_eq_true rfl) d_UB_word_20 d_UB_word_23 d_UB_word_24 d_UB_word_27 (fun t x hPt hSt hW hX => ⟨⟨tx_O.t0 (by decide) hX, hPt.sub (ws' := [(a, .inr (9, [.ref a_tape, .ref a_names, .ref a_terms, .ref a_reader, .ref a_unifier, .ref a_printer, .ref a_registers, .ref a_marked, .int a_marks, .int a_place])), (a_printer, .inr (4, [.ref a_printer_names, .ref a_printer_terms, .ref a_printer_result, .ref a_printer_draft, .ref a_printer_path, .ref a_printer_numbers, .int a_printer_numbered])), (a_printer_result, .inr (0, [.ref a_printer_result_items, .int a_printer_result_size])), (a_printer_result_items, .inl (cs 1, a_printer_result_items_n, .inl a_printer_result_items_f))]) [0, 2, 3, 1] rfl, hD9⟩, hSt.F rfl⟩) hS.2.2
  · rw [if_neg h2] at hok
    refine lv_iload_n hx hb d_UB_word_12 rfl (lv_at hl 2 rfl) ?_
    refine lv_aload_n hx hb d_UB_word_13 rfl (lv_at hl 0 rfl) ?_
    obtain ⟨r5, hc5, hok⟩ := bd_some hok
    obtain ⟨hPc, hDc, hFc⟩ := cut0 (wc := [(a_printer_result, .inr (0, [.ref a_printer_result_items, .int a_printer_result_size]))]) hP hD hS hA [3] (by decide) rfl
    refine va_calli (va_runV (As := []) (rest := [.int i]) ⟨hx, hb, hml, hown, hg⟩ (c_Bytes_size l g cs ka a_printer_result_items a_printer_result H.size a_printer_result_size r5 hc5) (cwV (C := R_Bytes) 0 hg (gw_V wd_630 wd_452 wd_453 wd_450 wd_449) rfl rfl rfl (by decide +kernel) ⟨Nat.le_of_ble_eq_true rfl, Nat.le_of_ble_eq_true rfl⟩) ⟨gP_blind, va_recv (q0 := 3) (ci := 0) (q := (R_Bytes, F_Bytes, 2)) hK hP rfl rfl, gP_pre hPc hDc hK hgl hkn hkr hS hFc⟩ rfl rfl hl.1 rfl (lv_room (Nat.le_of_ble_eq_true rfl)) d_UB_word_14 ⟨show 0 + 0 + 0 ≤ mc from by omega, show 0 + 0 + 0 ≤ ms from by omega⟩) hS (fun q _ h => hFc q h) hFc (fun r5' u t H locs ht hvm hr5 hB hz1 hk1 hS => ?_)
    subst hr5
    rw [ht] at hB
    obtain ⟨hP1, hD1⟩ := hB
    obtain ⟨hP, hD⟩ := jn_A hP hD [3] [0, 1, 2] rfl rfl (by decide) (by decide) hk1 hFc hP1 hD1
    obtain ⟨hP, hD⟩ : PD g A H [(a, .inr (9, [.ref a_tape, .ref a_names, .ref a_terms, .ref a_reader, .ref a_unifier, .ref a_printer, .ref a_registers, .ref a_marked, .int a_marks, .int a_place])), (a_printer_result_items, .inl (cs 1, a_printer_result_items_n, .inl a_printer_result_items_f)), (a_printer, .inr (4, [.ref a_printer_names, .ref a_printer_terms, .ref a_printer_result, .ref a_printer_draft, .ref a_printer_path, .ref a_printer_numbers, .int a_printer_numbered])), (a_printer_result, .inr (0, [.ref a_printer_result_items, .int a_printer_result_size]))] := ⟨hP, hD⟩
    refine lv_icmp_lt hx hb d_UB_word_17 rfl (fun h6 => ?_) (fun h6 => ?_)
    · rw [if_pos h6] at hok
      refine lv_lconst (v := 0) hx hb d_UB_word_28 (by decide) ?_
      refine lv_lstore_n hx hb d_UB_word_29 rfl hl (by decide) rfl (fun ls hl => ?_)
      have hl : lv_has ls 6 [(3, .long 0), (2, .ref a_printer_result), (0, .ref a), (1, .int i)] := hl
      refine lv_iconst (v := 0) hx hb d_UB_word_30 (by decide) ?_
      refine lv_istore hx hb d_UB_word_31 hl (by decide) rfl (fun ls hl => ?_)
      have hl : lv_has ls 6 [(5, .int 0), (3, .long 0), (2, .ref a_printer_result), (0, .ref a), (1, .int i)] := hl
      have J7 : ∀ (kf7 : Nat) (H : Heap) (locs : List Loc) (ls : Array Slot) (cells7 slots7 mr7 sr7 : Nat) (x5_7 : Int32) (x3_7 : Int64), lv_has ls 6 [(5, .int x5_7), (3, .long x3_7), (2, .ref a_printer_result), (0, .ref a), (1, .int i)] → PD g A H [(a, .inr (9, [.ref a_tape, .ref a_names, .ref a_terms, .ref a_reader, .ref a_unifier, .ref a_printer, .ref a_registers, .ref a_marked, .int a_marks, .int a_place])), (a_printer_result_items, .inl (cs 1, a_printer_result_items_n, .inl a_printer_result_items_f)), (a_printer, .inr (4, [.ref a_printer_names, .ref a_printer_terms, .ref a_printer_result, .ref a_printer_draft, .ref a_printer_path, .ref a_printer_numbers, .int a_printer_numbered])), (a_printer_result, .inr (0, [.ref a_printer_result_items, .int a_printer_result_size]))] → va_S A s.heap H locs → cells7 + mr7 = mc → slots7 + sr7 = ms → p_UB_word_33 n i a_printer_result_size a_printer_result_items_n a_printer_result_items_f kf7 x5_7 x3_7 = some ((xc, r), mr7, sr7) → W p l e (headSpec (.code y_UB_word b_UB_word 6 (some .long) :: GW) { frames := 6, cells := mc, slots := ms, locals := 90 }).room s m ([.ref a, .int i] : List Value).toArray below meth c H locs cells7 slots7 Q (F0 m 33 ls []) := by
        intro kf7
        induction kf7 with
        | zero => intro H locs ls cells7 slots7 mr7 sr7 x5_7 x3_7 hl ⟨hP, hD⟩ hS hmr7 hsr7 hok; rw [p_UB_word_33] at hok; cases hok
        | succ kf7 ih7 =>
          intro H locs ls cells7 slots7 mr7 sr7 x5_7 x3_7 hl ⟨hP, hD⟩ hS hmr7 hsr7 hok
          rw [p_UB_word_33] at hok
          refine lv_iload hx hb d_UB_word_33 (lv_at hl 0 rfl) ?_
          refine lv_bipush (v := 8) hx hb d_UB_word_35 (by decide) ?_
          refine lv_icmp_ge hx hb d_UB_word_37 rfl (fun h8 => ?_) (fun h8 => ?_)
          · rw [if_pos h8] at hok
            refine lv_lload_n hx hb d_UB_word_61 rfl (lv_at hl 1 rfl) ?_
            obtain ⟨hq, hw⟩ := Prod.mk.inj (Option.some.inj hok)
            obtain ⟨hmc0, hms0⟩ := Prod.mk.inj hw
            obtain ⟨hq0, hq⟩ := Prod.mk.inj hq
            have hq1 := hq
            subst hq0
            subst hq1
            obtain ⟨hP9, hD9⟩ := sub2 (ws' := [(a, .inr (9, [.ref a_tape, .ref a_names, .ref a_terms, .ref a_reader, .ref a_unifier, .ref a_printer, .ref a_registers, .ref a_marked, .int a_marks, .int a_place])), (a_printer, .inr (4, [.ref a_printer_names, .ref a_printer_terms, .ref a_printer_result, .ref a_printer_draft, .ref a_printer_path, .ref a_printer_numbers, .int a_printer_numbered])), (a_printer_result, .inr (0, [.ref a_printer_result_items, .int a_printer_result_size])), (a_printer_result_items, .inl (cs 1, a_printer_result_items_n, .inl a_printer_result_items_f))]) hP hD [0, 2, 3, 1] rfl (by decide) rfl
            refine W.widen (k := mc) (n := ms) (by omega) (by omega) ?_
            rw [hQ]
            exact tx_ret (W.lret (v := x3_7) hx hb hr (fun t ht hW => ⟨⟨tx_O.r0, by rw [ht]; exact hP9, hD9⟩, hS.F ht⟩) hS.2.2 d_UB_word_62)
          · rw [if_neg h8] at hok
            refine lv_lload_n hx hb d_UB_word_40 rfl (lv_at hl 1 rfl) ?_
            refine lv_bipush (v := 8) hx hb d_UB_word_41 (by decide) ?_
            refine lv_lshl hx hb d_UB_word_43 rfl ?_
            refine lv_aload_n hx hb d_UB_word_44 rfl (lv_at hl 2 rfl) ?_
            refine lv_iload_n hx hb d_UB_word_45 rfl (lv_at hl 4 rfl) ?_
            refine lv_iload hx hb d_UB_word_46 (lv_at hl 0 rfl) ?_
            refine lv_iadd hx hb d_UB_word_48 ?_
            obtain ⟨r9, hc9, hok⟩ := bd_some hok
            obtain ⟨hPc, hDc, hFc⟩ := cut0 (wc := [(a_printer_result, .inr (0, [.ref a_printer_result_items, .int a_printer_result_size])), (a_printer_result_items, .inl (cs 1, a_printer_result_items_n, .inl a_printer_result_items_f))]) hP hD hS hA [3, 1] (by decide) rfl
            refine va_calli (va_runV (As := [.int (i + x5_7)]) (rest := [.long (x3_7 <<< ((8 : Int32).toInt64 &&& 63))]) ⟨hx, hb, hml, hown, hg⟩ (c_Bytes_at l g cs ka a_printer_result a_printer_result_items H.size (i + x5_7) a_printer_result_size a_printer_result_items_n a_printer_result_items_f r9 hc9) (cwV (C := R_Bytes) 1 hg (gw_V wd_690 wd_456 wd_457 wd_450 wd_454) rfl rfl rfl (by decide +kernel) ⟨Nat.le_of_ble_eq_true rfl, Nat.le_of_ble_eq_true rfl⟩) ⟨gP_blind, va_recv (q0 := 3) (ci := 0) (q := (R_Bytes, F_Bytes, 2)) hK hP rfl rfl, gP_pre hPc hDc hK hgl hkn hkr hS hFc⟩ rfl rfl hl.1 rfl (lv_room (Nat.le_of_ble_eq_true rfl)) d_UB_word_49 ⟨show cells7 + 0 ≤ mc from by omega, show slots7 + 0 ≤ ms from by omega⟩) hS (fun q _ h => hFc q h) hFc (fun r9' u t H locs ht hvm hr9 hB hz1 hk1 hS => ?_)
            subst hr9
            rw [ht] at hB
            obtain ⟨hP1, hD1⟩ := hB
            obtain ⟨hP, hD⟩ := jn_A hP hD [3, 1] [0, 2] rfl rfl (by decide) (by decide) hk1 hFc hP1 hD1
            obtain ⟨hP, hD⟩ : PD g A H [(a, .inr (9, [.ref a_tape, .ref a_names, .ref a_terms, .ref a_reader, .ref a_unifier, .ref a_printer, .ref a_registers, .ref a_marked, .int a_marks, .int a_place])), (a_printer, .inr (4, [.ref a_printer_names, .ref a_printer_terms, .ref a_printer_result, .ref a_printer_draft, .ref a_printer_path, .ref a_printer_numbers, .int a_printer_numbered])), (a_printer_result, .inr (0, [.ref a_printer_result_items, .int a_printer_result_size])), (a_printer_result_items, .inl (cs 1, a_printer_result_items_n, .inl a_printer_result_items_f))] := ⟨hP, hD⟩
            refine lv_i2l hx hb d_UB_word_52 rfl ?_
            refine lv_lor hx hb d_UB_word_53 ?_
            refine lv_lstore_n hx hb d_UB_word_54 rfl hl (by decide) rfl (fun ls hl => ?_)
            have hl : lv_has ls 6 [(3, .long ((x3_7 <<< ((8 : Int32).toInt64 &&& 63)) ||| r9.toInt64)), (5, .int x5_7), (2, .ref a_printer_result), (0, .ref a), (1, .int i)] := hl
            refine lv_iinc (k := 1) (v := x5_7 + 1) hx hb d_UB_word_55 hl rfl rfl (by decide) rfl (fun ls hl => ?_)
            have hl : lv_has ls 6 [(5, .int (x5_7 + 1)), (3, .long ((x3_7 <<< ((8 : Int32).toInt64 &&& 63)) ||| r9.toInt64)), (2, .ref a_printer_result), (0, .ref a), (1, .int i)] := hl
            refine lv_goto hx hb d_UB_word_58 rfl ?_
            exact ih7 _ _ _ _ _ _ _ (x5_7 + 1) ((x3_7 <<< ((8 : Int32).toInt64 &&& 63)) ||| r9.toInt64) (lv_sub hl [0, 1, 2, 3, 4] rfl) (sub3 hP hD [0, 3, 1, 2] (by decide)) hS (by omega) (by omega) hok
      exact J7 n H locs ls _ _ _ _ (0 : Int32) (0 : Int64) hl ⟨hP, hD⟩ hS (by omega) (by omega) hok
    · rw [if_neg h6] at hok
      obtain ⟨m11, s11, hok, hmc11, hms11⟩ := al_some hok
      obtain ⟨hq, hw⟩ := Prod.mk.inj (Option.some.inj hok)
      obtain ⟨hmc0, hms0⟩ := Prod.mk.inj hw
      obtain ⟨hq0, hq⟩ := Prod.mk.inj hq
      have hq1 := hq
      subst hq0
      subst hq1
      have hD9 := hD.sub (ws' := [(a, .inr (9, [.ref a_tape, .ref a_names, .ref a_terms, .ref a_reader, .ref a_unifier, .ref a_printer, .ref a_registers, .ref a_marked, .int a_marks, .int a_place])), (a_printer, .inr (4, [.ref a_printer_names, .ref a_printer_terms, .ref a_printer_result, .ref a_printer_draft, .ref a_printer_path, .ref a_printer_numbers, .int a_printer_numbered])), (a_printer_result, .inr (0, [.ref a_printer_result_items, .int a_printer_result_size])), (a_printer_result_items, .inl (cs 1, a_printer_result_items_n, .inl a_printer_result_items_f))]) [0, 2, 3, 1] (by decide) rfl
      rw [hQ]
      refine tx_wid (k := 0 + 0 + 0 + 1) (n := 0 + 0 + 0 + 6) (by omega) (by omega) ?_
      exact tx_throw (X := "java/lang/IndexOutOfBoundsException") hx hb (hml.trans hl.1.symm) hfl hlocks hown (by decide) (hg _ wd_636) (hg _ wd_637) (tx_before tx_at_UB_92 hg hgl hkn) hkn hP hS hA (tx_noH B hcd 27) (show 0 + 0 + 0 + 1 ≤ mc from by omega) (show 0 + 0 + 0 + 6 ≤ ms from by omega) (Nat.le_of_ble_eq_true rfl) (Nat.le_of_ble_eq_true rfl) d_UB_word_20 d_UB_word_23 d_UB_word_24 d_UB_word_27 (fun t x hPt hSt hW hX => ⟨⟨tx_O.t0 (by decide) hX, hPt.sub (ws' := [(a, .inr (9, [.ref a_tape, .ref a_names, .ref a_terms, .ref a_reader, .ref a_unifier, .ref a_printer, .ref a_registers, .ref a_marked, .int a_marks, .int a_place])), (a_printer, .inr (4, [.ref a_printer_names, .ref a_printer_terms, .ref a_printer_result, .ref a_printer_draft, .ref a_printer_path, .ref a_printer_numbers, .int a_printer_numbered])), (a_printer_result, .inr (0, [.ref a_printer_result_items, .int a_printer_result_size])), (a_printer_result_items, .inl (cs 1, a_printer_result_items_n, .inl a_printer_result_items_f))]) [0, 2, 3, 1] rfl, hD9⟩, hSt.F rfl⟩) hS.2.2

theorem d_UB_count_0 : decode b_UB_count 0 = .ok (.iload_n 1, 1) := by decide +kernel
theorem d_UB_count_1 : decode b_UB_count 1 = .ok (.tableswitch 63 0 3 #[31, 39, 50, 55], 31) := by decide +kernel
theorem d_UB_count_32 : decode b_UB_count 32 = .ok (.aload_n 0, 1) := by decide +kernel
theorem d_UB_count_33 : decode b_UB_count 33 = .ok (.getfield 10, 3) := by decide +kernel
theorem d_UB_count_36 : decode b_UB_count 36 = .ok (.invokevirtual 86, 3) := by decide +kernel
theorem d_UB_count_39 : decode b_UB_count 39 = .ok (.ireturn, 1) := by decide +kernel
theorem d_UB_count_40 : decode b_UB_count 40 = .ok (.aload_n 0, 1) := by decide +kernel
theorem d_UB_count_41 : decode b_UB_count 41 = .ok (.getfield 58, 3) := by decide +kernel
theorem d_UB_count_44 : decode b_UB_count 44 = .ok (.invokevirtual 171, 3) := by decide +kernel
theorem d_UB_count_47 : decode b_UB_count 47 = .ok (.invokevirtual 86, 3) := by decide +kernel
theorem d_UB_count_50 : decode b_UB_count 50 = .ok (.ireturn, 1) := by decide +kernel
theorem d_UB_count_51 : decode b_UB_count 51 = .ok (.aload_n 0, 1) := by decide +kernel
theorem d_UB_count_52 : decode b_UB_count 52 = .ok (.getfield 77, 3) := by decide +kernel
theorem d_UB_count_55 : decode b_UB_count 55 = .ok (.ireturn, 1) := by decide +kernel
theorem d_UB_count_56 : decode b_UB_count 56 = .ok (.aload_n 0, 1) := by decide +kernel
theorem d_UB_count_57 : decode b_UB_count 57 = .ok (.getfield 26, 3) := by decide +kernel
theorem d_UB_count_60 : decode b_UB_count 60 = .ok (.invokevirtual 178, 3) := by decide +kernel
theorem d_UB_count_63 : decode b_UB_count 63 = .ok (.ireturn, 1) := by decide +kernel
theorem d_UB_count_64 : decode b_UB_count 64 = .ok (.new 97, 3) := by decide +kernel
theorem d_UB_count_67 : decode b_UB_count 67 = .ok (.dup, 1) := by decide +kernel
theorem d_UB_count_68 : decode b_UB_count 68 = .ok (.invokespecial 99, 3) := by decide +kernel
theorem d_UB_count_71 : decode b_UB_count 71 = .ok (.athrow, 1) := by decide +kernel
def p_UB_count (n : Nat) (what : Int32) (a_marks : Int32) (a_place : Int32) (a_tape_size : Int32) (a_terms_nodes : Int32) (a_terms_variables : Int32) (a_terms_variablesLack : Int32) (a_terms_symbols : Int32) (a_terms_nodesBefore : Int32) (a_terms_partsBefore : Int32) (a_terms_variablesBefore : Int32) (a_terms_became_n : Nat) (a_terms_became_f : Nat → Int32) (a_printer_numbered : Int32) (a_printer_result_size : Int32) : Option ((Nat × Int32) × Nat × Nat) := if what = 0 then ((p_Bytes_size a_tape_size).bind (fun r2 => some ((0, r2), 0, 0))) else (if what = 1 then ((p_Printer_result a_printer_numbered a_printer_result_size).bind (fun _ => (p_Bytes_size a_printer_result_size).bind (fun r4 => some ((0, r4), 0, 0)))) else (if what = 2 then (some ((0, a_place), 0, 0)) else (if what = 3 then ((p_Terms_boundVariables n a_terms_nodes a_terms_variables a_terms_variablesLack a_terms_symbols a_terms_nodesBefore a_terms_partsBefore a_terms_variablesBefore a_terms_became_n a_terms_became_f).bind (fun r5 => some ((0, r5), 0, 0))) else (al 1 6 (some ((1, (0 : Int32)), 0, 0))))))
set_option maxHeartbeats 4000000 in
set_option maxRecDepth 100000 in
theorem c_UB_count (l : Launch) (g : va_G) (cs : Nat → ClassId) (ka : Nat → Nat) (hfl : l.flags = pinnedFlags ++ [noTraceFlag]) (a_names : Nat) (a_reader : Nat) (a_unifier : Nat) (a_registers : Nat) (a_marked : Nat) (a_tape_items : Nat) (a_terms_shapes : Nat) (a_terms_values : Nat) (a_terms_firstParts : Nat) (a_terms_parts : Nat) (a_terms_variableNames : Nat) (a_printer_names : Nat) (a_printer_draft : Nat) (a_printer_path : Nat) (a_printer_numbers : Nat) (a_printer_result_items : Nat) (a a_tape a_terms a_terms_became a_printer a_printer_result : Nat) (sz : Nat) (n : Nat) (what : Int32) (a_marks : Int32) (a_place : Int32) (a_tape_size : Int32) (a_terms_nodes : Int32) (a_terms_variables : Int32) (a_terms_variablesLack : Int32) (a_terms_symbols : Int32) (a_terms_nodesBefore : Int32) (a_terms_partsBefore : Int32) (a_terms_variablesBefore : Int32) (a_terms_became_n : Nat) (a_terms_became_f : Nat → Int32) (a_printer_numbered : Int32) (a_printer_result_size : Int32) (xc : Nat) (r : Int32) (mc ms : Nat) (hok : p_UB_count n what a_marks a_place a_tape_size a_terms_nodes a_terms_variables a_terms_variablesLack a_terms_symbols a_terms_nodesBefore a_terms_partsBefore a_terms_variablesBefore a_terms_became_n a_terms_became_f a_printer_numbered a_printer_result_size = some ((xc, r), mc, ms)) : tx_Met l y_UB_count (.code y_UB_count b_UB_count 2 (some .int) :: GW) { frames := 6, cells := mc, slots := ms, locals := 90 } (va_Pc [.ref a, .int what] (gP g cs ka [(a, .inr (9, [.ref a_tape, .ref a_names, .ref a_terms, .ref a_reader, .ref a_unifier, .ref a_printer, .ref a_registers, .ref a_marked, .int a_marks, .int a_place])), (a_tape, .inr (0, [.ref a_tape_items, .int a_tape_size])), (a_terms, .inr (7, [.ref a_terms_shapes, .ref a_terms_values, .ref a_terms_firstParts, .int a_terms_nodes, .ref a_terms_parts, .ref a_terms_variableNames, .ref a_terms_became, .int a_terms_variables, .int a_terms_variablesLack, .int a_terms_symbols, .int a_terms_nodesBefore, .int a_terms_partsBefore, .int a_terms_variablesBefore])), (a_terms_became, .inl (cs 0, a_terms_became_n, .inl a_terms_became_f)), (a_printer, .inr (4, [.ref a_printer_names, .ref a_terms, .ref a_printer_result, .ref a_printer_draft, .ref a_printer_path, .ref a_printer_numbers, .int a_printer_numbered])), (a_printer_result, .inr (0, [.ref a_printer_result_items, .int a_printer_result_size]))] sz)) (fun _ st oc t => (tx_O xc (some (.int r)) oc t ∧ va_P g classes [(a, .inr (9, [.ref a_tape, .ref a_names, .ref a_terms, .ref a_reader, .ref a_unifier, .ref a_printer, .ref a_registers, .ref a_marked, .int a_marks, .int a_place])), (a_tape, .inr (0, [.ref a_tape_items, .int a_tape_size])), (a_terms, .inr (7, [.ref a_terms_shapes, .ref a_terms_values, .ref a_terms_firstParts, .int a_terms_nodes, .ref a_terms_parts, .ref a_terms_variableNames, .ref a_terms_became, .int a_terms_variables, .int a_terms_variablesLack, .int a_terms_symbols, .int a_terms_nodesBefore, .int a_terms_partsBefore, .int a_terms_variablesBefore])), (a_terms_became, .inl (cs 0, a_terms_became_n, .inl a_terms_became_f)), (a_printer, .inr (4, [.ref a_printer_names, .ref a_terms, .ref a_printer_result, .ref a_printer_draft, .ref a_printer_path, .ref a_printer_numbers, .int a_printer_numbered])), (a_printer_result, .inr (0, [.ref a_printer_result_items, .int a_printer_result_size]))] t.heap ∧ va_D (va_A [(a, .inr (9, [.ref a_tape, .ref a_names, .ref a_terms, .ref a_reader, .ref a_unifier, .ref a_printer, .ref a_registers, .ref a_marked, .int a_marks, .int a_place])), (a_tape, .inr (0, [.ref a_tape_items, .int a_tape_size])), (a_terms, .inr (7, [.ref a_terms_shapes, .ref a_terms_values, .ref a_terms_firstParts, .int a_terms_nodes, .ref a_terms_parts, .ref a_terms_variableNames, .ref a_terms_became, .int a_terms_variables, .int a_terms_variablesLack, .int a_terms_symbols, .int a_terms_nodesBefore, .int a_terms_partsBefore, .int a_terms_variablesBefore])), (a_terms_became, .inl (cs 0, a_terms_became_n, .inl a_terms_became_f)), (a_printer, .inr (4, [.ref a_printer_names, .ref a_terms, .ref a_printer_result, .ref a_printer_draft, .ref a_printer_path, .ref a_printer_numbers, .int a_printer_numbered])), (a_printer_result, .inr (0, [.ref a_printer_result_items, .int a_printer_result_size]))] sz) [(a, .inr (9, [.ref a_tape, .ref a_names, .ref a_terms, .ref a_reader, .ref a_unifier, .ref a_printer, .ref a_registers, .ref a_marked, .int a_marks, .int a_place])), (a_tape, .inr (0, [.ref a_tape_items, .int a_tape_size])), (a_terms, .inr (7, [.ref a_terms_shapes, .ref a_terms_values, .ref a_terms_firstParts, .int a_terms_nodes, .ref a_terms_parts, .ref a_terms_variableNames, .ref a_terms_became, .int a_terms_variables, .int a_terms_variablesLack, .int a_terms_symbols, .int a_terms_nodesBefore, .int a_terms_partsBefore, .int a_terms_variablesBefore])), (a_terms_became, .inl (cs 0, a_terms_became_n, .inl a_terms_became_f)), (a_printer, .inr (4, [.ref a_printer_names, .ref a_terms, .ref a_printer_result, .ref a_printer_draft, .ref a_printer_path, .ref a_printer_numbers, .int a_printer_numbered])), (a_printer_result, .inr (0, [.ref a_printer_result_items, .int a_printer_result_size]))]) ∧ va_F (va_A [(a, .inr (9, [.ref a_tape, .ref a_names, .ref a_terms, .ref a_reader, .ref a_unifier, .ref a_printer, .ref a_registers, .ref a_marked, .int a_marks, .int a_place])), (a_tape, .inr (0, [.ref a_tape_items, .int a_tape_size])), (a_terms, .inr (7, [.ref a_terms_shapes, .ref a_terms_values, .ref a_terms_firstParts, .int a_terms_nodes, .ref a_terms_parts, .ref a_terms_variableNames, .ref a_terms_became, .int a_terms_variables, .int a_terms_variablesLack, .int a_terms_symbols, .int a_terms_nodesBefore, .int a_terms_partsBefore, .int a_terms_variablesBefore])), (a_terms_became, .inl (cs 0, a_terms_became_n, .inl a_terms_became_f)), (a_printer, .inr (4, [.ref a_printer_names, .ref a_terms, .ref a_printer_result, .ref a_printer_draft, .ref a_printer_path, .ref a_printer_numbers, .int a_printer_numbered])), (a_printer_result, .inr (0, [.ref a_printer_result_items, .int a_printer_result_size]))] sz) st t) mc ms (va_A [(a, .inr (9, [.ref a_tape, .ref a_names, .ref a_terms, .ref a_reader, .ref a_unifier, .ref a_printer, .ref a_registers, .ref a_marked, .int a_marks, .int a_place])), (a_tape, .inr (0, [.ref a_tape_items, .int a_tape_size])), (a_terms, .inr (7, [.ref a_terms_shapes, .ref a_terms_values, .ref a_terms_firstParts, .int a_terms_nodes, .ref a_terms_parts, .ref a_terms_variableNames, .ref a_terms_became, .int a_terms_variables, .int a_terms_variablesLack, .int a_terms_symbols, .int a_terms_nodesBefore, .int a_terms_partsBefore, .int a_terms_variablesBefore])), (a_terms_became, .inl (cs 0, a_terms_became_n, .inl a_terms_became_f)), (a_printer, .inr (4, [.ref a_printer_names, .ref a_terms, .ref a_printer_result, .ref a_printer_draft, .ref a_printer_path, .ref a_printer_numbers, .int a_printer_numbered])), (a_printer_result, .inr (0, [.ref a_printer_result_items, .int a_printer_result_size]))] sz) := by
  refine tx_ofW (cc := b_UB_count) (maxL := 2) (ret := (some .int)) (by decide) rfl ?_
  intro p e s m args below meth c s₁ B hml hv
  obtain ⟨rfl, hsz, hP, hK, hD0, hgl, hkn, hkr⟩ := hv
  have hx := B.exec
  have hb := B.bytes
  have hr := B.returns
  have hg : ∀ w ∈ GW, w.before ([.ref a, .int what] : List Value).toArray s = true := fun w hw => atoms_spec (ws := .code y_UB_count b_UB_count 2 (some .int) :: GW) B.pre w (List.mem_cons_of_mem _ hw)
  have hown : s.vm.findClass R_UB = some m.cls := findClass_of_methodNamed B.named
  have hlocks := B.notSynchronized
  have hcd : (Cond.code y_UB_count b_UB_count 2 (some .int)).before ([.ref a, .int what] : List Value).toArray s = true := atoms_spec (ws := .code y_UB_count b_UB_count 2 (some .int) :: GW) B.pre _ List.mem_cons_self
  subst hsz
  have hD := hD0.self (sz := s.heap.size)
  generalize hAe : va_A [(a, .inr (9, [.ref a_tape, .ref a_names, .ref a_terms, .ref a_reader, .ref a_unifier, .ref a_printer, .ref a_registers, .ref a_marked, .int a_marks, .int a_place])), (a_tape, .inr (0, [.ref a_tape_items, .int a_tape_size])), (a_terms, .inr (7, [.ref a_terms_shapes, .ref a_terms_values, .ref a_terms_firstParts, .int a_terms_nodes, .ref a_terms_parts, .ref a_terms_variableNames, .ref a_terms_became, .int a_terms_variables, .int a_terms_variablesLack, .int a_terms_symbols, .int a_terms_nodesBefore, .int a_terms_partsBefore, .int a_terms_variablesBefore])), (a_terms_became, .inl (cs 0, a_terms_became_n, .inl a_terms_became_f)), (a_printer, .inr (4, [.ref a_printer_names, .ref a_terms, .ref a_printer_result, .ref a_printer_draft, .ref a_printer_path, .ref a_printer_numbers, .int a_printer_numbered])), (a_printer_result, .inr (0, [.ref a_printer_result_items, .int a_printer_result_size]))] s.heap.size = A at hD hkn ⊢
  have hA : ∀ q : Nat, s.heap.size ≤ q → A q := fun q h => by rw [← hAe]; exact Or.inr h
  have hS : va_S A s.heap s.heap [] := va_S.rf
  have hP : va_P g classes [(a, .inr (9, [.ref a_tape, .ref a_names, .ref a_terms, .ref a_reader, .ref a_unifier, .ref a_printer, .ref a_registers, .ref a_marked, .int a_marks, .int a_place])), (a_tape, .inr (0, [.ref a_tape_items, .int a_tape_size])), (a_terms, .inr (7, [.ref a_terms_shapes, .ref a_terms_values, .ref a_terms_firstParts, .int a_terms_nodes, .ref a_terms_parts, .ref a_terms_variableNames, .ref a_terms_became, .int a_terms_variables, .int a_terms_variablesLack, .int a_terms_symbols, .int a_terms_nodesBefore, .int a_terms_partsBefore, .int a_terms_variablesBefore])), (a_terms_became, .inl (cs 0, a_terms_became_n, .inl a_terms_became_f)), (a_printer, .inr (4, [.ref a_printer_names, .ref a_terms, .ref a_printer_result, .ref a_printer_draft, .ref a_printer_path, .ref a_printer_numbers, .int a_printer_numbered])), (a_printer_result, .inr (0, [.ref a_printer_result_items, .int a_printer_result_size]))] s.heap := hP
  have hl := lv_entry ([.ref a, .int what]) (n := 2) (Nat.le_of_ble_eq_true rfl)
  rw [lg_entry_eq]
  generalize (lg_sl ([.ref a, .int what]) ++ List.replicate (2 - (lg_sl ([.ref a, .int what])).length) Slot.unset).toArray = ls at hl ⊢
  have hl : lv_has ls 2 [(0, .ref a), (1, .int what)] := hl
  refine gq (fun Q hQ => ?_)
  obtain ⟨H, hH⟩ : ∃ H : Heap, H = s.heap := ⟨_, rfl⟩
  rw [← hH] at hP
  have hS : va_S A s.heap H [] := by rw [hH]; exact hS
  refine W.eqH hH ?_
  obtain ⟨locs, hlc⟩ : ∃ L : List Loc, L = [] := ⟨_, rfl⟩
  rw [← hlc] at hS ⊢
  unfold p_UB_count at hok
  refine lv_iload_n hx hb d_UB_count_0 rfl (lv_at hl 1 rfl) ?_
  by_cases hw1_0 : what = 0
  · rw [if_pos hw1_0] at hok
    refine lv_tableIn hx hb d_UB_count_1 (by rw [hw1_0]; decide) (by rw [hw1_0]; decide) (by rw [hw1_0]; rfl) rfl ?_
    refine lv_aload_n hx hb d_UB_count_32 rfl (lv_at hl 0 rfl) ?_
    refine va_get (D := g) (ci := 9) (v := .ref a_tape) (C := R_UB) (T := F_UB) (N := 10) hx hb hg ul_UB hown hK hP 0 rfl rfl 0 (by decide) (hg _ wd_628) (fun _ h9 => h9) rfl d_UB_count_33 ?_
    obtain ⟨r2, hc2, hok⟩ := bd_some hok
    obtain ⟨hPc, hDc, hFc⟩ := cut0 (wc := [(a_tape, .inr (0, [.ref a_tape_items, .int a_tape_size]))]) hP hD hS hA [1] (by decide) rfl
    refine va_calli (va_runV (As := []) (rest := []) ⟨hx, hb, hml, hown, hg⟩ (c_Bytes_size l g cs ka a_tape_items a_tape H.size a_tape_size r2 hc2) (cwV (C := R_Bytes) 0 hg (gw_V wd_630 wd_452 wd_453 wd_450 wd_449) rfl rfl rfl (by decide +kernel) ⟨Nat.le_of_ble_eq_true rfl, Nat.le_of_ble_eq_true rfl⟩) ⟨gP_blind, va_recv (q0 := 1) (ci := 0) (q := (R_Bytes, F_Bytes, 2)) hK hP rfl rfl, gP_pre hPc hDc hK hgl hkn hkr hS hFc⟩ rfl rfl hl.1 rfl (lv_room (Nat.le_of_ble_eq_true rfl)) d_UB_count_36 ⟨show 0 + 0 ≤ mc from by omega, show 0 + 0 ≤ ms from by omega⟩) hS (fun q _ h => hFc q h) hFc (fun r2' u t H locs ht hvm hr2 hB hz1 hk1 hS => ?_)
    subst hr2
    rw [ht] at hB
    obtain ⟨hP1, hD1⟩ := hB
    obtain ⟨hP, hD⟩ := jn_A hP hD [1] [0, 2, 3, 4, 5] rfl rfl (by decide) (by decide) hk1 hFc hP1 hD1
    obtain ⟨hP, hD⟩ : PD g A H [(a, .inr (9, [.ref a_tape, .ref a_names, .ref a_terms, .ref a_reader, .ref a_unifier, .ref a_printer, .ref a_registers, .ref a_marked, .int a_marks, .int a_place])), (a_terms, .inr (7, [.ref a_terms_shapes, .ref a_terms_values, .ref a_terms_firstParts, .int a_terms_nodes, .ref a_terms_parts, .ref a_terms_variableNames, .ref a_terms_became, .int a_terms_variables, .int a_terms_variablesLack, .int a_terms_symbols, .int a_terms_nodesBefore, .int a_terms_partsBefore, .int a_terms_variablesBefore])), (a_terms_became, .inl (cs 0, a_terms_became_n, .inl a_terms_became_f)), (a_printer, .inr (4, [.ref a_printer_names, .ref a_terms, .ref a_printer_result, .ref a_printer_draft, .ref a_printer_path, .ref a_printer_numbers, .int a_printer_numbered])), (a_printer_result, .inr (0, [.ref a_printer_result_items, .int a_printer_result_size])), (a_tape, .inr (0, [.ref a_tape_items, .int a_tape_size]))] := ⟨hP, hD⟩
    obtain ⟨hq, hw⟩ := Prod.mk.inj (Option.some.inj hok)
    obtain ⟨hmc0, hms0⟩ := Prod.mk.inj hw
    obtain ⟨hq0, hq⟩ := Prod.mk.inj hq
    have hq1 := hq
    subst hq0
    subst hq1
    obtain ⟨hP9, hD9⟩ := sub2 (ws' := [(a, .inr (9, [.ref a_tape, .ref a_names, .ref a_terms, .ref a_reader, .ref a_unifier, .ref a_printer, .ref a_registers, .ref a_marked, .int a_marks, .int a_place])), (a_tape, .inr (0, [.ref a_tape_items, .int a_tape_size])), (a_terms, .inr (7, [.ref a_terms_shapes, .ref a_terms_values, .ref a_terms_firstParts, .int a_terms_nodes, .ref a_terms_parts, .ref a_terms_variableNames, .ref a_terms_became, .int a_terms_variables, .int a_terms_variablesLack, .int a_terms_symbols, .int a_terms_nodesBefore, .int a_terms_partsBefore, .int a_terms_variablesBefore])), (a_terms_became, .inl (cs 0, a_terms_became_n, .inl a_terms_became_f)), (a_printer, .inr (4, [.ref a_printer_names, .ref a_terms, .ref a_printer_result, .ref a_printer_draft, .ref a_printer_path, .ref a_printer_numbers, .int a_printer_numbered])), (a_printer_result, .inr (0, [.ref a_printer_result_items, .int a_printer_result_size]))]) hP hD [0, 5, 1, 2, 3, 4] rfl (by decide) rfl
    refine W.widen (k := mc) (n := ms) (by omega) (by omega) ?_
    rw [hQ]
    exact tx_ret (W.iret (v := r2) hx hb hr (fun t ht hW => ⟨⟨tx_O.r0, by rw [ht]; exact hP9, hD9⟩, hS.F ht⟩) hS.2.2 d_UB_count_39)
  · rw [if_neg hw1_0] at hok
    by_cases hw1_1 : what = 1
    · rw [if_pos hw1_1] at hok
      refine lv_tableIn hx hb d_UB_count_1 (by rw [hw1_1]; decide) (by rw [hw1_1]; decide) (by rw [hw1_1]; rfl) rfl ?_
      refine lv_aload_n hx hb d_UB_count_40 rfl (lv_at hl 0 rfl) ?_
      refine va_get (D := g) (ci := 9) (v := .ref a_printer) (C := R_UB) (T := F_UB) (N := 10) hx hb hg ul_UB hown hK hP 0 rfl rfl 5 (by decide) (hg _ wd_681) (fun _ h9 => h9) rfl d_UB_count_41 ?_
      obtain ⟨u3, hc3, hok⟩ := bd_some hok
      obtain ⟨hPc, hDc, hFc⟩ := cut0 (wc := [(a_printer, .inr (4, [.ref a_printer_names, .ref a_terms, .ref a_printer_result, .ref a_printer_draft, .ref a_printer_path, .ref a_printer_numbers, .int a_printer_numbered])), (a_printer_result, .inr (0, [.ref a_printer_result_items, .int a_printer_result_size]))]) hP hD hS hA [4, 5] (by decide) rfl
      refine va_callr (va_runV (As := []) (rest := []) ⟨hx, hb, hml, hown, hg⟩ (c_Printer_result l g cs ka a_printer_names a_terms a_printer_draft a_printer_path a_printer_numbers a_printer_result_items a_printer a_printer_result H.size a_printer_numbered a_printer_result_size hc3) (cwV (C := R_Printer) 0 hg (gw_V wd_687 wd_688 wd_689 wd_550 wd_686) rfl rfl rfl (by decide +kernel) ⟨Nat.le_of_ble_eq_true rfl, Nat.le_of_ble_eq_true rfl⟩) ⟨gP_blind, va_recv (q0 := 4) (ci := 4) (q := (R_Printer, F_Printer, 7)) hK hP rfl rfl, gP_pre hPc hDc hK hgl hkn hkr hS hFc⟩ rfl rfl hl.1 rfl (lv_room (Nat.le_of_ble_eq_true rfl)) d_UB_count_44 ⟨show 0 + 0 ≤ mc from by omega, show 0 + 0 ≤ ms from by omega⟩) hS (fun q _ h => hFc q h) hFc (fun u ra3 t H locs ht hvm hr3 hB hz1 hk1 hS => ?_)
      rw [ht] at hB
      obtain ⟨hra3, hP1, hD1⟩ := hB
      subst hra3
      obtain ⟨hP, hD⟩ := jn_A hP hD [4, 5] [0, 1, 2, 3] rfl rfl (by decide) (by decide) hk1 hFc hP1 hD1
      obtain ⟨hP, hD⟩ : PD g A H [(a, .inr (9, [.ref a_tape, .ref a_names, .ref a_terms, .ref a_reader, .ref a_unifier, .ref a_printer, .ref a_registers, .ref a_marked, .int a_marks, .int a_place])), (a_tape, .inr (0, [.ref a_tape_items, .int a_tape_size])), (a_terms, .inr (7, [.ref a_terms_shapes, .ref a_terms_values, .ref a_terms_firstParts, .int a_terms_nodes, .ref a_terms_parts, .ref a_terms_variableNames, .ref a_terms_became, .int a_terms_variables, .int a_terms_variablesLack, .int a_terms_symbols, .int a_terms_nodesBefore, .int a_terms_partsBefore, .int a_terms_variablesBefore])), (a_terms_became, .inl (cs 0, a_terms_became_n, .inl a_terms_became_f)), (a_printer, .inr (4, [.ref a_printer_names, .ref a_terms, .ref a_printer_result, .ref a_printer_draft, .ref a_printer_path, .ref a_printer_numbers, .int a_printer_numbered])), (a_printer_result, .inr (0, [.ref a_printer_result_items, .int a_printer_result_size]))] := ⟨hP, hD⟩
      obtain ⟨r4, hc4, hok⟩ := bd_some hok
      obtain ⟨hPc, hDc, hFc⟩ := cut0 (wc := [(a_printer_result, .inr (0, [.ref a_printer_result_items, .int a_printer_result_size]))]) hP hD hS hA [5] (by decide) rfl
      refine va_calli (va_runV (As := []) (rest := []) ⟨hx, hb, hml, hown, hg⟩ (c_Bytes_size l g cs ka a_printer_result_items a_printer_result H.size a_printer_result_size r4 hc4) (cwV (C := R_Bytes) 0 hg (gw_V wd_630 wd_452 wd_453 wd_450 wd_449) rfl rfl rfl (by decide +kernel) ⟨Nat.le_of_ble_eq_true rfl, Nat.le_of_ble_eq_true rfl⟩) ⟨gP_blind, va_recv (q0 := 5) (ci := 0) (q := (R_Bytes, F_Bytes, 2)) hK hP rfl rfl, gP_pre hPc hDc hK hgl hkn hkr hS hFc⟩ rfl rfl hl.1 rfl (lv_room (Nat.le_of_ble_eq_true rfl)) d_UB_count_47 ⟨show 0 + 0 + 0 ≤ mc from by omega, show 0 + 0 + 0 ≤ ms from by omega⟩) hS (fun q _ h => hFc q h) hFc (fun r4' u t H locs ht hvm hr4 hB hz1 hk1 hS => ?_)
      subst hr4
      rw [ht] at hB
      obtain ⟨hP1, hD1⟩ := hB
      obtain ⟨hP, hD⟩ := jn_A hP hD [5] [0, 1, 2, 3, 4] rfl rfl (by decide) (by decide) hk1 hFc hP1 hD1
      obtain ⟨hP, hD⟩ : PD g A H [(a, .inr (9, [.ref a_tape, .ref a_names, .ref a_terms, .ref a_reader, .ref a_unifier, .ref a_printer, .ref a_registers, .ref a_marked, .int a_marks, .int a_place])), (a_tape, .inr (0, [.ref a_tape_items, .int a_tape_size])), (a_terms, .inr (7, [.ref a_terms_shapes, .ref a_terms_values, .ref a_terms_firstParts, .int a_terms_nodes, .ref a_terms_parts, .ref a_terms_variableNames, .ref a_terms_became, .int a_terms_variables, .int a_terms_variablesLack, .int a_terms_symbols, .int a_terms_nodesBefore, .int a_terms_partsBefore, .int a_terms_variablesBefore])), (a_terms_became, .inl (cs 0, a_terms_became_n, .inl a_terms_became_f)), (a_printer, .inr (4, [.ref a_printer_names, .ref a_terms, .ref a_printer_result, .ref a_printer_draft, .ref a_printer_path, .ref a_printer_numbers, .int a_printer_numbered])), (a_printer_result, .inr (0, [.ref a_printer_result_items, .int a_printer_result_size]))] := ⟨hP, hD⟩
      obtain ⟨hq, hw⟩ := Prod.mk.inj (Option.some.inj hok)
      obtain ⟨hmc0, hms0⟩ := Prod.mk.inj hw
      obtain ⟨hq0, hq⟩ := Prod.mk.inj hq
      have hq1 := hq
      subst hq0
      subst hq1
      obtain ⟨hP9, hD9⟩ := sub2 (ws' := [(a, .inr (9, [.ref a_tape, .ref a_names, .ref a_terms, .ref a_reader, .ref a_unifier, .ref a_printer, .ref a_registers, .ref a_marked, .int a_marks, .int a_place])), (a_tape, .inr (0, [.ref a_tape_items, .int a_tape_size])), (a_terms, .inr (7, [.ref a_terms_shapes, .ref a_terms_values, .ref a_terms_firstParts, .int a_terms_nodes, .ref a_terms_parts, .ref a_terms_variableNames, .ref a_terms_became, .int a_terms_variables, .int a_terms_variablesLack, .int a_terms_symbols, .int a_terms_nodesBefore, .int a_terms_partsBefore, .int a_terms_variablesBefore])), (a_terms_became, .inl (cs 0, a_terms_became_n, .inl a_terms_became_f)), (a_printer, .inr (4, [.ref a_printer_names, .ref a_terms, .ref a_printer_result, .ref a_printer_draft, .ref a_printer_path, .ref a_printer_numbers, .int a_printer_numbered])), (a_printer_result, .inr (0, [.ref a_printer_result_items, .int a_printer_result_size]))]) hP hD [0, 1, 2, 3, 4, 5] rfl (by decide) rfl
      refine W.widen (k := mc) (n := ms) (by omega) (by omega) ?_
      rw [hQ]
      exact tx_ret (W.iret (v := r4) hx hb hr (fun t ht hW => ⟨⟨tx_O.r0, by rw [ht]; exact hP9, hD9⟩, hS.F ht⟩) hS.2.2 d_UB_count_50)
    · rw [if_neg hw1_1] at hok
      by_cases hw1_2 : what = 2
      · rw [if_pos hw1_2] at hok
        refine lv_tableIn hx hb d_UB_count_1 (by rw [hw1_2]; decide) (by rw [hw1_2]; decide) (by rw [hw1_2]; rfl) rfl ?_
        refine lv_aload_n hx hb d_UB_count_51 rfl (lv_at hl 0 rfl) ?_
        refine va_get (D := g) (ci := 9) (v := .int a_place) (C := R_UB) (T := F_UB) (N := 10) hx hb hg ul_UB hown hK hP 0 rfl rfl 9 (by decide) (hg _ wd_691) (fun _ h9 => h9) rfl d_UB_count_52 ?_
        obtain ⟨hq, hw⟩ := Prod.mk.inj (Option.some.inj hok)
        obtain ⟨hmc0, hms0⟩ := Prod.mk.inj hw
        obtain ⟨hq0, hq⟩ := Prod.mk.inj hq
        have hq1 := hq
        subst hq0
        subst hq1
        obtain ⟨hP9, hD9⟩ := sub2 (ws' := [(a, .inr (9, [.ref a_tape, .ref a_names, .ref a_terms, .ref a_reader, .ref a_unifier, .ref a_printer, .ref a_registers, .ref a_marked, .int a_marks, .int a_place])), (a_tape, .inr (0, [.ref a_tape_items, .int a_tape_size])), (a_terms, .inr (7, [.ref a_terms_shapes, .ref a_terms_values, .ref a_terms_firstParts, .int a_terms_nodes, .ref a_terms_parts, .ref a_terms_variableNames, .ref a_terms_became, .int a_terms_variables, .int a_terms_variablesLack, .int a_terms_symbols, .int a_terms_nodesBefore, .int a_terms_partsBefore, .int a_terms_variablesBefore])), (a_terms_became, .inl (cs 0, a_terms_became_n, .inl a_terms_became_f)), (a_printer, .inr (4, [.ref a_printer_names, .ref a_terms, .ref a_printer_result, .ref a_printer_draft, .ref a_printer_path, .ref a_printer_numbers, .int a_printer_numbered])), (a_printer_result, .inr (0, [.ref a_printer_result_items, .int a_printer_result_size]))]) hP hD [0, 1, 2, 3, 4, 5] rfl (by decide) rfl
        refine W.widen (k := mc) (n := ms) (by omega) (by omega) ?_
        rw [hQ]
        exact tx_ret (W.iret (v := a_place) hx hb hr (fun t ht hW => ⟨⟨tx_O.r0, by rw [ht]; exact hP9, hD9⟩, hS.F ht⟩) hS.2.2 d_UB_count_55)
      · rw [if_neg hw1_2] at hok
        by_cases hw1_3 : what = 3
        · rw [if_pos hw1_3] at hok
          refine lv_tableIn hx hb d_UB_count_1 (by rw [hw1_3]; decide) (by rw [hw1_3]; decide) (by rw [hw1_3]; rfl) rfl ?_
          refine lv_aload_n hx hb d_UB_count_56 rfl (lv_at hl 0 rfl) ?_
          refine va_get (D := g) (ci := 9) (v := .ref a_terms) (C := R_UB) (T := F_UB) (N := 10) hx hb hg ul_UB hown hK hP 0 rfl rfl 2 (by decide) (hg _ wd_640) (fun _ h9 => h9) rfl d_UB_count_57 ?_
          obtain ⟨r5, hc5, hok⟩ := bd_some hok
          obtain ⟨hPc, hDc, hFc⟩ := cut0 (wc := [(a_terms, .inr (7, [.ref a_terms_shapes, .ref a_terms_values, .ref a_terms_firstParts, .int a_terms_nodes, .ref a_terms_parts, .ref a_terms_variableNames, .ref a_terms_became, .int a_terms_variables, .int a_terms_variablesLack, .int a_terms_symbols, .int a_terms_nodesBefore, .int a_terms_partsBefore, .int a_terms_variablesBefore])), (a_terms_became, .inl (cs 0, a_terms_became_n, .inl a_terms_became_f))]) hP hD hS hA [2, 3] (by decide) rfl
          refine va_calli (va_runV (As := []) (rest := []) ⟨hx, hb, hml, hown, hg⟩ (c_Terms_boundVariables l g cs ka a_terms_shapes a_terms_values a_terms_firstParts a_terms_parts a_terms_variableNames a_terms a_terms_became H.size n a_terms_nodes a_terms_variables a_terms_variablesLack a_terms_symbols a_terms_nodesBefore a_terms_partsBefore a_terms_variablesBefore a_terms_became_n a_terms_became_f r5 hc5) (cwV (C := R_Terms) 0 hg (gw_V wd_693 wd_694 wd_695 wd_264 wd_692) rfl rfl rfl (by decide +kernel) ⟨Nat.le_of_ble_eq_true rfl, Nat.le_of_ble_eq_true rfl⟩) ⟨gP_blind, va_recv (q0 := 2) (ci := 7) (q := (R_Terms, F_Terms, 13)) hK hP rfl rfl, gP_pre hPc hDc hK hgl hkn hkr hS hFc⟩ rfl rfl hl.1 rfl (lv_room (Nat.le_of_ble_eq_true rfl)) d_UB_count_60 ⟨show 0 + 0 ≤ mc from by omega, show 0 + 0 ≤ ms from by omega⟩) hS (fun q _ h => hFc q h) hFc (fun r5' u t H locs ht hvm hr5 hB hz1 hk1 hS => ?_)
          subst hr5
          rw [ht] at hB
          obtain ⟨hP1, hD1⟩ := hB
          obtain ⟨hP, hD⟩ := jn_A hP hD [2, 3] [0, 1, 4, 5] rfl rfl (by decide) (by decide) hk1 hFc hP1 hD1
          obtain ⟨hP, hD⟩ : PD g A H [(a, .inr (9, [.ref a_tape, .ref a_names, .ref a_terms, .ref a_reader, .ref a_unifier, .ref a_printer, .ref a_registers, .ref a_marked, .int a_marks, .int a_place])), (a_tape, .inr (0, [.ref a_tape_items, .int a_tape_size])), (a_printer, .inr (4, [.ref a_printer_names, .ref a_terms, .ref a_printer_result, .ref a_printer_draft, .ref a_printer_path, .ref a_printer_numbers, .int a_printer_numbered])), (a_printer_result, .inr (0, [.ref a_printer_result_items, .int a_printer_result_size])), (a_terms, .inr (7, [.ref a_terms_shapes, .ref a_terms_values, .ref a_terms_firstParts, .int a_terms_nodes, .ref a_terms_parts, .ref a_terms_variableNames, .ref a_terms_became, .int a_terms_variables, .int a_terms_variablesLack, .int a_terms_symbols, .int a_terms_nodesBefore, .int a_terms_partsBefore, .int a_terms_variablesBefore])), (a_terms_became, .inl (cs 0, a_terms_became_n, .inl a_terms_became_f))] := ⟨hP, hD⟩
          obtain ⟨hq, hw⟩ := Prod.mk.inj (Option.some.inj hok)
          obtain ⟨hmc0, hms0⟩ := Prod.mk.inj hw
          obtain ⟨hq0, hq⟩ := Prod.mk.inj hq
          have hq1 := hq
          subst hq0
          subst hq1
          obtain ⟨hP9, hD9⟩ := sub2 (ws' := [(a, .inr (9, [.ref a_tape, .ref a_names, .ref a_terms, .ref a_reader, .ref a_unifier, .ref a_printer, .ref a_registers, .ref a_marked, .int a_marks, .int a_place])), (a_tape, .inr (0, [.ref a_tape_items, .int a_tape_size])), (a_terms, .inr (7, [.ref a_terms_shapes, .ref a_terms_values, .ref a_terms_firstParts, .int a_terms_nodes, .ref a_terms_parts, .ref a_terms_variableNames, .ref a_terms_became, .int a_terms_variables, .int a_terms_variablesLack, .int a_terms_symbols, .int a_terms_nodesBefore, .int a_terms_partsBefore, .int a_terms_variablesBefore])), (a_terms_became, .inl (cs 0, a_terms_became_n, .inl a_terms_became_f)), (a_printer, .inr (4, [.ref a_printer_names, .ref a_terms, .ref a_printer_result, .ref a_printer_draft, .ref a_printer_path, .ref a_printer_numbers, .int a_printer_numbered])), (a_printer_result, .inr (0, [.ref a_printer_result_items, .int a_printer_result_size]))]) hP hD [0, 1, 4, 5, 2, 3] rfl (by decide) rfl
          refine W.widen (k := mc) (n := ms) (by omega) (by omega) ?_
          rw [hQ]
          exact tx_ret (W.iret (v := r5) hx hb hr (fun t ht hW => ⟨⟨tx_O.r0, by rw [ht]; exact hP9, hD9⟩, hS.F ht⟩) hS.2.2 d_UB_count_63)
        · rw [if_neg hw1_3] at hok
          have thw1_0 := lv_neT (a := 0) hw1_0 rfl
          have thw1_1 := lv_neT (a := 1) hw1_1 rfl
          have thw1_2 := lv_neT (a := 2) hw1_2 rfl
          have thw1_3 := lv_neT (a := 3) hw1_3 rfl
          refine lv_tableOut hx hb d_UB_count_1 (by omega) rfl ?_
          obtain ⟨m7, s7, hok, hmc7, hms7⟩ := al_some hok
          obtain ⟨hq, hw⟩ := Prod.mk.inj (Option.some.inj hok)
          obtain ⟨hmc0, hms0⟩ := Prod.mk.inj hw
          obtain ⟨hq0, hq⟩ := Prod.mk.inj hq
          have hq1 := hq
          subst hq0
          subst hq1
          have hD9 := hD.sub (ws' := [(a, .inr (9, [.ref a_tape, .ref a_names, .ref a_terms, .ref a_reader, .ref a_unifier, .ref a_printer, .ref a_registers, .ref a_marked, .int a_marks, .int a_place])), (a_tape, .inr (0, [.ref a_tape_items, .int a_tape_size])), (a_terms, .inr (7, [.ref a_terms_shapes, .ref a_terms_values, .ref a_terms_firstParts, .int a_terms_nodes, .ref a_terms_parts, .ref a_terms_variableNames, .ref a_terms_became, .int a_terms_variables, .int a_terms_variablesLack, .int a_terms_symbols, .int a_terms_nodesBefore, .int a_terms_partsBefore, .int a_terms_variablesBefore])), (a_terms_became, .inl (cs 0, a_terms_became_n, .inl a_terms_became_f)), (a_printer, .inr (4, [.ref a_printer_names, .ref a_terms, .ref a_printer_result, .ref a_printer_draft, .ref a_printer_path, .ref a_printer_numbers, .int a_printer_numbered])), (a_printer_result, .inr (0, [.ref a_printer_result_items, .int a_printer_result_size]))]) [0, 1, 2, 3, 4, 5] (by decide) rfl
          rw [hQ]
          refine tx_wid (k := 0 + 1) (n := 0 + 6) (by omega) (by omega) ?_
          exact tx_throw (X := "java/lang/IllegalArgumentException") hx hb (hml.trans hl.1.symm) hfl hlocks hown (by decide) (hg _ wd_626) (hg _ wd_627) (tx_before tx_at_UB_99 hg hgl hkn) hkn hP hS hA (tx_noH B hcd 71) (show 0 + 1 ≤ mc from by omega) (show 0 + 6 ≤ ms from by omega) (Nat.le_of_ble_eq_true rfl) (Nat.le_of_ble_eq_true rfl) d_UB_count_64 d_UB_count_67 d_UB_count_68 d_UB_count_71 (fun t x hPt hSt hW hX => ⟨⟨tx_O.t0 (by decide) hX, hPt.sub (ws' := [(a, .inr (9, [.ref a_tape, .ref a_names, .ref a_terms, .ref a_reader, .ref a_unifier, .ref a_printer, .ref a_registers, .ref a_marked, .int a_marks, .int a_place])), (a_tape, .inr (0, [.ref a_tape_items, .int a_tape_size])), (a_terms, .inr (7, [.ref a_terms_shapes, .ref a_terms_values, .ref a_terms_firstParts, .int a_terms_nodes, .ref a_terms_parts, .ref a_terms_variableNames, .ref a_terms_became, .int a_terms_variables, .int a_terms_variablesLack, .int a_terms_symbols, .int a_terms_nodesBefore, .int a_terms_partsBefore, .int a_terms_variablesBefore])), (a_terms_became, .inl (cs 0, a_terms_became_n, .inl a_terms_became_f)), (a_printer, .inr (4, [.ref a_printer_names, .ref a_terms, .ref a_printer_result, .ref a_printer_draft, .ref a_printer_path, .ref a_printer_numbers, .int a_printer_numbered])), (a_printer_result, .inr (0, [.ref a_printer_result_items, .int a_printer_result_size]))]) [0, 1, 2, 3, 4, 5] rfl, hD9⟩, hSt.F rfl⟩) hS.2.2
