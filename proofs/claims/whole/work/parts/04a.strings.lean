theorem wd_160 : ((.fieldLink "java/lang/String" 38 "java/lang/String" "COMPACT_STRINGS" "Z") : Cond) ∈ GW := gw_1 106 (by decide +kernel) rfl
theorem wd_161 : ((.fieldLink "java/lang/String" 15 "java/lang/String" "coder" "B") : Cond) ∈ GW := gw_8 179 (by decide +kernel) rfl
theorem wd_162 : ((.fieldLink "java/lang/String" 9 "java/lang/String" "value" "[B") : Cond) ∈ GW := gw_8 178 (by decide +kernel) rfl
theorem wd_163 : ((.code y_String_coder prog_28_method_152_code 1 (some .byte)) : Cond) ∈ GW := gw_1 105 (by decide +kernel) rfl
theorem wd_164 : ((.initialized "java/lang/String") : Cond) ∈ GW := gw_1 8 (by decide +kernel) rfl
theorem wd_165 : ((.methodLink "java/lang/String" 335 y_String_coder) : Cond) ∈ GW := gw_1 102 (by decide +kernel) rfl
theorem wd_166 : ((.instanceMethod y_String_coder) : Cond) ∈ GW := gw_1 103 (by decide +kernel) rfl
theorem wd_167 : ((.selects "java/lang/String" y_String_coder y_String_coder) : Cond) ∈ GW := gw_1 104 (by decide +kernel) rfl
theorem wd_168 : ((.fieldLink "java/lang/String" 1053 "jdk/internal/util/Preconditions" "SIOOBE_FORMATTER" "Ljava/util/function/BiFunction;") : Cond) ∈ GW := gw_1 122 (by decide +kernel) rfl
theorem wd_169 : ((.code y_Preconditions_checkIndex prog_36_method_11_code 3 (some .int)) : Cond) ∈ GW := gw_1 126 (by decide +kernel) rfl
theorem wd_170 : ((.initialized "jdk/internal/util/Preconditions") : Cond) ∈ GW := gw_1 10 (by decide +kernel) rfl
theorem wd_171 : ((.methodLink "java/lang/String" 1059 y_Preconditions_checkIndex) : Cond) ∈ GW := gw_1 124 (by decide +kernel) rfl
theorem wd_172 : ((.static y_Preconditions_checkIndex) : Cond) ∈ GW := gw_1 125 (by decide +kernel) rfl
theorem wd_173 : ((.code y_String_checkIndex prog_28_method_155_code 2 none) : Cond) ∈ GW := gw_1 121 (by decide +kernel) rfl
theorem wd_174 : ((.methodLink "java/lang/StringLatin1" 9 y_String_checkIndex) : Cond) ∈ GW := gw_1 119 (by decide +kernel) rfl
theorem wd_175 : ((.static y_String_checkIndex) : Cond) ∈ GW := gw_1 120 (by decide +kernel) rfl
theorem wd_176 : ((.code y_String_isLatin1 prog_28_method_154_code 1 (some .boolean)) : Cond) ∈ GW := gw_1 115 (by decide +kernel) rfl
theorem wd_177 : ((.methodLink "java/lang/String" 492 y_String_isLatin1) : Cond) ∈ GW := gw_1 112 (by decide +kernel) rfl
theorem wd_178 : ((.instanceMethod y_String_isLatin1) : Cond) ∈ GW := gw_1 113 (by decide +kernel) rfl
theorem wd_179 : ((.selects "java/lang/String" y_String_isLatin1 y_String_isLatin1) : Cond) ∈ GW := gw_1 114 (by decide +kernel) rfl
theorem wd_180 : ((.code y_StringLatin1_charAt prog_29_method_2_code 2 (some .char)) : Cond) ∈ GW := gw_1 118 (by decide +kernel) rfl
theorem wd_181 : ((.initialized "java/lang/StringLatin1") : Cond) ∈ GW := gw_1 9 (by decide +kernel) rfl
theorem wd_182 : ((.methodLink "java/lang/String" 495 y_StringLatin1_charAt) : Cond) ∈ GW := gw_1 116 (by decide +kernel) rfl
theorem wd_183 : ((.static y_StringLatin1_charAt) : Cond) ∈ GW := gw_1 117 (by decide +kernel) rfl
theorem wd_184 : ((.code y_StringLatin1_canEncode prog_29_method_4_code 1 (some .boolean)) : Cond) ∈ GW := gw_4 19 (by decide +kernel) rfl
theorem wd_185 : ((.methodLink "java/lang/StringLatin1" 88 y_StringLatin1_canEncode) : Cond) ∈ GW := gw_4 17 (by decide +kernel) rfl
theorem wd_186 : ((.static y_StringLatin1_canEncode) : Cond) ∈ GW := gw_4 18 (by decide +kernel) rfl
theorem wd_187 : ((.methodLink "java/lang/StringLatin1" 92 y_Math_max) : Cond) ∈ GW := gw_4 20 (by decide +kernel) rfl
theorem wd_188 : ((.static y_Math_max) : Cond) ∈ GW := gw_4 21 (by decide +kernel) rfl
theorem wd_189 : ((.code y_Math_max prog_26_method_65_code 2 (some .int)) : Cond) ∈ GW := gw_4 22 (by decide +kernel) rfl
theorem wd_190 : ((.methodLink "java/lang/StringLatin1" 38 y_Math_min_II) : Cond) ∈ GW := gw_4 23 (by decide +kernel) rfl
theorem wd_191 : ((.code y_StringLatin1_indexOfChar prog_29_method_23_code 6 (some .int)) : Cond) ∈ GW := gw_4 26 (by decide +kernel) rfl
theorem wd_192 : ((.methodLink "java/lang/StringLatin1" 95 y_StringLatin1_indexOfChar) : Cond) ∈ GW := gw_4 24 (by decide +kernel) rfl
theorem wd_193 : ((.static y_StringLatin1_indexOfChar) : Cond) ∈ GW := gw_4 25 (by decide +kernel) rfl
theorem wd_194 : ((.code y_String_length prog_28_method_54_code 1 (some .int)) : Cond) ∈ GW := gw_1 101 (by decide +kernel) rfl
theorem wd_195 : ((.methodLink "java/lang/String" 505 y_String_length) : Cond) ∈ GW := gw_4 13 (by decide +kernel) rfl
theorem wd_196 : ((.instanceMethod y_String_length) : Cond) ∈ GW := gw_1 99 (by decide +kernel) rfl
theorem wd_197 : ((.selects "java/lang/String" y_String_length y_String_length) : Cond) ∈ GW := gw_1 100 (by decide +kernel) rfl
theorem wd_198 : ((.code y_StringLatin1_indexOf prog_29_method_22_code 4 (some .int)) : Cond) ∈ GW := gw_4 16 (by decide +kernel) rfl
theorem wd_199 : ((.methodLink "java/lang/String" 637 y_StringLatin1_indexOf) : Cond) ∈ GW := gw_4 14 (by decide +kernel) rfl
theorem wd_200 : ((.static y_StringLatin1_indexOf) : Cond) ∈ GW := gw_4 15 (by decide +kernel) rfl
theorem wd_201 : ((.code y_String_indexOf_II prog_28_method_80_code 3 (some .int)) : Cond) ∈ GW := gw_4 12 (by decide +kernel) rfl
theorem wd_202 : ((.methodLink "java/lang/String" 633 y_String_indexOf_II) : Cond) ∈ GW := gw_4 9 (by decide +kernel) rfl
theorem wd_203 : ((.instanceMethod y_String_indexOf_II) : Cond) ∈ GW := gw_4 10 (by decide +kernel) rfl
theorem wd_204 : ((.selects "java/lang/String" y_String_indexOf_II y_String_indexOf_II) : Cond) ∈ GW := gw_4 11 (by decide +kernel) rfl
theorem wd_205 : ((.code y_String_indexOf_I prog_28_method_79_code 2 (some .int)) : Cond) ∈ GW := gw_4 8 (by decide +kernel) rfl
theorem wd_206 : ((.methodLink "UnifyBench$Letters" 21 y_String_indexOf_I) : Cond) ∈ GW := gw_4 5 (by decide +kernel) rfl
theorem wd_207 : ((.instanceMethod y_String_indexOf_I) : Cond) ∈ GW := gw_4 6 (by decide +kernel) rfl
theorem wd_208 : ((.selects "java/lang/String" y_String_indexOf_I y_String_indexOf_I) : Cond) ∈ GW := gw_4 7 (by decide +kernel) rfl
theorem d_Preconditions_checkIndex_0 : decode b_Preconditions_checkIndex 0 = .ok (.iload_n 0, 1) := by decide +kernel
theorem d_Preconditions_checkIndex_1 : decode b_Preconditions_checkIndex 1 = .ok (.ifCond .lt 8, 3) := by decide +kernel
theorem d_Preconditions_checkIndex_4 : decode b_Preconditions_checkIndex 4 = .ok (.iload_n 0, 1) := by decide +kernel
theorem d_Preconditions_checkIndex_5 : decode b_Preconditions_checkIndex 5 = .ok (.iload_n 1, 1) := by decide +kernel
theorem d_Preconditions_checkIndex_6 : decode b_Preconditions_checkIndex 6 = .ok (.if_icmp .lt 10, 3) := by decide +kernel
theorem d_Preconditions_checkIndex_16 : decode b_Preconditions_checkIndex 16 = .ok (.iload_n 0, 1) := by decide +kernel
theorem d_Preconditions_checkIndex_17 : decode b_Preconditions_checkIndex 17 = .ok (.ireturn, 1) := by decide +kernel
def p_Preconditions_checkIndex (i : Int32) (len : Int32) : Option Int32 := if i < 0 then (none) else (if i < len then (some i) else (none))
set_option maxHeartbeats 4000000 in
set_option maxRecDepth 100000 in
theorem c_Preconditions_checkIndex_N (l : Launch) (g : va_G) (cs : Nat → ClassId) (ka : Nat → Nat) (sz : Nat) (i : Int32) (len : Int32) (r : Int32) (hok : p_Preconditions_checkIndex i len = some r) : Met l y_Preconditions_checkIndex (.code y_Preconditions_checkIndex b_Preconditions_checkIndex 3 (some .int) :: GW) { frames := 0, cells := 0, slots := 0, locals := 0 } (va_Pc [.int i, .int len, .null] (gP g cs ka [] sz)) (va_Qi (fun (r' : Int32) (_ : Unit) => r = r') (fun _ t => va_P g classes [] t.heap ∧ va_D (va_A [] sz) []) (va_A [] sz)) 0 0 (va_A [] sz) := by
  refine va_MetF (cc := b_Preconditions_checkIndex) (maxL := 3) (ret := (some .int)) (by decide) rfl ?_
  intro p e s m args below meth c s₁ B hml hv
  obtain ⟨rfl, hsz, hP, hK, hD0, hgl, hkn, hkr⟩ := hv
  have hx := B.exec
  have hb := B.bytes
  have hr := B.returns
  have hg : ∀ w ∈ GW, w.before ([.int i, .int len, .null] : List Value).toArray s = true := fun w hw => atoms_spec (ws := .code y_Preconditions_checkIndex b_Preconditions_checkIndex 3 (some .int) :: GW) B.pre w (List.mem_cons_of_mem _ hw)
  have hown : s.vm.findClass "jdk/internal/util/Preconditions" = some m.cls := findClass_of_methodNamed B.named
  have hlocks := B.notSynchronized
  subst hsz
  have hD := hD0.self (sz := s.heap.size)
  generalize hAe : va_A [] s.heap.size = A at hD hkn ⊢
  have hA : ∀ q : Nat, s.heap.size ≤ q → A q := fun q h => by rw [← hAe]; exact Or.inr h
  have hS : va_S A s.heap s.heap [] := va_S.rf
  have hP : va_P g classes [] s.heap := hP
  have hl := lv_entry ([.int i, .int len, .null]) (n := 3) (Nat.le_of_ble_eq_true rfl)
  rw [lg_entry_eq]
  generalize (lg_sl ([.int i, .int len, .null]) ++ List.replicate (3 - (lg_sl ([.int i, .int len, .null])).length) Slot.unset).toArray = ls at hl ⊢
  have hl : lv_has ls 3 [(0, .int i), (1, .int len), (2, .null)] := hl
  refine gq (fun Q hQ => ?_)
  obtain ⟨H, hH⟩ : ∃ H : Heap, H = s.heap := ⟨_, rfl⟩
  rw [← hH] at hP
  have hS : va_S A s.heap H [] := by rw [hH]; exact hS
  refine W.eqH hH ?_
  obtain ⟨locs, hlc⟩ : ∃ L : List Loc, L = [] := ⟨_, rfl⟩
  rw [← hlc] at hS ⊢
  unfold p_Preconditions_checkIndex at hok
  refine lv_iload_n hx hb d_Preconditions_checkIndex_0 rfl (lv_at hl 0 rfl) ?_
  refine lv_if_lt hx hb d_Preconditions_checkIndex_1 rfl (fun h1 => ?_) (fun h1 => ?_)
  · rw [if_pos h1] at hok
    cases hok
  · rw [if_neg h1] at hok
    refine lv_iload_n hx hb d_Preconditions_checkIndex_4 rfl (lv_at hl 0 rfl) ?_
    refine lv_iload_n hx hb d_Preconditions_checkIndex_5 rfl (lv_at hl 1 rfl) ?_
    refine lv_icmp_lt hx hb d_Preconditions_checkIndex_6 rfl (fun h2 => ?_) (fun h2 => ?_)
    · rw [if_pos h2] at hok
      refine lv_iload_n hx hb d_Preconditions_checkIndex_16 rfl (lv_at hl 0 rfl) ?_
      have hq := Option.some.inj hok
      have hq0 := hq
      subst hq0
      obtain ⟨hP9, hD9⟩ := sub2 (ws' := []) hP hD [] rfl (by decide) rfl
      rw [hQ]
      exact W.iret (v := i) hx hb hr (fun t ht hW => ⟨⟨_, (), rfl, rfl, by rw [ht]; exact hP9, hD9⟩, hS.F ht⟩) hS.2.2 d_Preconditions_checkIndex_17
    · rw [if_neg h2] at hok
      cases hok


set_option maxHeartbeats 4000000 in
set_option maxRecDepth 100000 in
theorem c_Preconditions_checkIndex_R (l : Launch) (g : va_G) (cs : Nat → ClassId) (ka : Nat → Nat) (oq : Nat) (sz : Nat) (i : Int32) (len : Int32) (r : Int32) (hok : p_Preconditions_checkIndex i len = some r) : Met l y_Preconditions_checkIndex (.code y_Preconditions_checkIndex b_Preconditions_checkIndex 3 (some .int) :: GW) { frames := 0, cells := 0, slots := 0, locals := 0 } (va_Pc [.int i, .int len, .ref oq] (gP g cs ka [] sz)) (va_Qi (fun (r' : Int32) (_ : Unit) => r = r') (fun _ t => va_P g classes [] t.heap ∧ va_D (va_A [] sz) []) (va_A [] sz)) 0 0 (va_A [] sz) := by
  refine va_MetF (cc := b_Preconditions_checkIndex) (maxL := 3) (ret := (some .int)) (by decide) rfl ?_
  intro p e s m args below meth c s₁ B hml hv
  obtain ⟨rfl, hsz, hP, hK, hD0, hgl, hkn, hkr⟩ := hv
  have hx := B.exec
  have hb := B.bytes
  have hr := B.returns
  have hg : ∀ w ∈ GW, w.before ([.int i, .int len, .ref oq] : List Value).toArray s = true := fun w hw => atoms_spec (ws := .code y_Preconditions_checkIndex b_Preconditions_checkIndex 3 (some .int) :: GW) B.pre w (List.mem_cons_of_mem _ hw)
  have hown : s.vm.findClass "jdk/internal/util/Preconditions" = some m.cls := findClass_of_methodNamed B.named
  have hlocks := B.notSynchronized
  subst hsz
  have hD := hD0.self (sz := s.heap.size)
  generalize hAe : va_A [] s.heap.size = A at hD hkn ⊢
  have hA : ∀ q : Nat, s.heap.size ≤ q → A q := fun q h => by rw [← hAe]; exact Or.inr h
  have hS : va_S A s.heap s.heap [] := va_S.rf
  have hP : va_P g classes [] s.heap := hP
  have hl := lv_entry ([.int i, .int len, .ref oq]) (n := 3) (Nat.le_of_ble_eq_true rfl)
  rw [lg_entry_eq]
  generalize (lg_sl ([.int i, .int len, .ref oq]) ++ List.replicate (3 - (lg_sl ([.int i, .int len, .ref oq])).length) Slot.unset).toArray = ls at hl ⊢
  have hl : lv_has ls 3 [(0, .int i), (1, .int len), (2, .ref oq)] := hl
  refine gq (fun Q hQ => ?_)
  obtain ⟨H, hH⟩ : ∃ H : Heap, H = s.heap := ⟨_, rfl⟩
  rw [← hH] at hP
  have hS : va_S A s.heap H [] := by rw [hH]; exact hS
  refine W.eqH hH ?_
  obtain ⟨locs, hlc⟩ : ∃ L : List Loc, L = [] := ⟨_, rfl⟩
  rw [← hlc] at hS ⊢
  unfold p_Preconditions_checkIndex at hok
  refine lv_iload_n hx hb d_Preconditions_checkIndex_0 rfl (lv_at hl 0 rfl) ?_
  refine lv_if_lt hx hb d_Preconditions_checkIndex_1 rfl (fun h1 => ?_) (fun h1 => ?_)
  · rw [if_pos h1] at hok
    cases hok
  · rw [if_neg h1] at hok
    refine lv_iload_n hx hb d_Preconditions_checkIndex_4 rfl (lv_at hl 0 rfl) ?_
    refine lv_iload_n hx hb d_Preconditions_checkIndex_5 rfl (lv_at hl 1 rfl) ?_
    refine lv_icmp_lt hx hb d_Preconditions_checkIndex_6 rfl (fun h2 => ?_) (fun h2 => ?_)
    · rw [if_pos h2] at hok
      refine lv_iload_n hx hb d_Preconditions_checkIndex_16 rfl (lv_at hl 0 rfl) ?_
      have hq := Option.some.inj hok
      have hq0 := hq
      subst hq0
      obtain ⟨hP9, hD9⟩ := sub2 (ws' := []) hP hD [] rfl (by decide) rfl
      rw [hQ]
      exact W.iret (v := i) hx hb hr (fun t ht hW => ⟨⟨_, (), rfl, rfl, by rw [ht]; exact hP9, hD9⟩, hS.F ht⟩) hS.2.2 d_Preconditions_checkIndex_17
    · rw [if_neg h2] at hok
      cases hok

theorem d_String_coder_0 : decode b_String_coder 0 = .ok (.getstatic 38, 3) := by decide +kernel
theorem d_String_coder_3 : decode b_String_coder 3 = .ok (.ifCond .eq 10, 3) := by decide +kernel
theorem d_String_coder_6 : decode b_String_coder 6 = .ok (.aload_n 0, 1) := by decide +kernel
theorem d_String_coder_7 : decode b_String_coder 7 = .ok (.getfield 15, 3) := by decide +kernel
theorem d_String_coder_10 : decode b_String_coder 10 = .ok (.goto 4, 3) := by decide +kernel
theorem d_String_coder_13 : decode b_String_coder 13 = .ok (.iconst 1, 1) := by decide +kernel
theorem d_String_coder_14 : decode b_String_coder 14 = .ok (.ireturn, 1) := by decide +kernel
def p_String_coder (i : Nat) : Option Int32 := ck (decide (i < kn_n)) (some (0 : Int32))
set_option maxHeartbeats 4000000 in
set_option maxRecDepth 100000 in
theorem c_String_coder (l : Launch) (g : va_G) (cs : Nat → ClassId) (ka : Nat → Nat) (sz : Nat) (i : Nat) (r : Int32) (hok : p_String_coder i = some r) : Met l y_String_coder (.code y_String_coder b_String_coder 1 (some .byte) :: GW) { frames := 0, cells := 0, slots := 0, locals := 0 } (va_Pc [.ref (ka (200 + i))] (gP g cs ka [] sz)) (va_Qi (fun (r' : Int32) (_ : Unit) => r = r') (fun _ t => va_P g classes [] t.heap ∧ va_D (va_A [] sz) []) (va_A [] sz)) 0 0 (va_A [] sz) := by
  refine va_MetF (cc := b_String_coder) (maxL := 1) (ret := (some .byte)) (by decide) rfl ?_
  intro p e s m args below meth c s₁ B hml hv
  obtain ⟨rfl, hsz, hP, hK, hD0, hgl, hkn, hkr⟩ := hv
  have hx := B.exec
  have hb := B.bytes
  have hr := B.returns
  have hg : ∀ w ∈ GW, w.before ([.ref (ka (200 + i))] : List Value).toArray s = true := fun w hw => atoms_spec (ws := .code y_String_coder b_String_coder 1 (some .byte) :: GW) B.pre w (List.mem_cons_of_mem _ hw)
  have hown : s.vm.findClass R_String = some m.cls := findClass_of_methodNamed B.named
  have hlocks := B.notSynchronized
  subst hsz
  have hD := hD0.self (sz := s.heap.size)
  generalize hAe : va_A [] s.heap.size = A at hD hkn ⊢
  have hA : ∀ q : Nat, s.heap.size ≤ q → A q := fun q h => by rw [← hAe]; exact Or.inr h
  have hS : va_S A s.heap s.heap [] := va_S.rf
  have hP : va_P g classes [] s.heap := hP
  have hl := lv_entry ([.ref (ka (200 + i))]) (n := 1) (Nat.le_of_ble_eq_true rfl)
  rw [lg_entry_eq]
  generalize (lg_sl ([.ref (ka (200 + i))]) ++ List.replicate (1 - (lg_sl ([.ref (ka (200 + i))])).length) Slot.unset).toArray = ls at hl ⊢
  have hl : lv_has ls 1 [(0, .ref (ka (200 + i)))] := hl
  refine gq (fun Q hQ => ?_)
  obtain ⟨H, hH⟩ : ∃ H : Heap, H = s.heap := ⟨_, rfl⟩
  rw [← hH] at hP
  have hS : va_S A s.heap H [] := by rw [hH]; exact hS
  refine W.eqH hH ?_
  obtain ⟨locs, hlc⟩ : ∃ L : List Loc, L = [] := ⟨_, rfl⟩
  rw [← hlc] at hS ⊢
  unfold p_String_coder at hok
  obtain ⟨hb_i, hok⟩ := ck_some hok
  have hb_i := of_decide_eq_true hb_i
  refine va_gets hx hb hkn.2.2.2.2.1 hS hown (hg _ wd_160) (fun _ h9 => h9) d_String_coder_0 ?_
  refine lv_if_eq hx hb d_String_coder_3 rfl (fun h1 => ?_) (fun h1 => ?_)
  · exact absurd h1 (by decide)
  · refine lv_aload_n hx hb d_String_coder_6 rfl (lv_at hl 0 rfl) ?_
    refine vk_getf hx hb (hkn.2.2.2.1 i hb_i).2.1 hS hown (hg _ wd_161) (fun _ h9 => h9) d_String_coder_7 ?_
    refine lv_goto hx hb d_String_coder_10 rfl ?_
    have hq := Option.some.inj hok
    have hq0 := hq
    subst hq0
    obtain ⟨hP9, hD9⟩ := sub2 (ws' := []) hP hD [] rfl (by decide) rfl
    rw [hQ]
    exact W.zret (v := 0) hx hb hr rfl (fun t ht hW => ⟨⟨_, (), rfl, rfl, by rw [ht]; exact hP9, hD9⟩, hS.F ht⟩) hS.2.2 d_String_coder_14

theorem d_String_isLatin1_0 : decode b_String_isLatin1 0 = .ok (.getstatic 38, 3) := by decide +kernel
theorem d_String_isLatin1_3 : decode b_String_isLatin1 3 = .ok (.ifCond .eq 14, 3) := by decide +kernel
theorem d_String_isLatin1_6 : decode b_String_isLatin1 6 = .ok (.aload_n 0, 1) := by decide +kernel
theorem d_String_isLatin1_7 : decode b_String_isLatin1 7 = .ok (.getfield 15, 3) := by decide +kernel
theorem d_String_isLatin1_10 : decode b_String_isLatin1 10 = .ok (.ifCond .ne 7, 3) := by decide +kernel
theorem d_String_isLatin1_13 : decode b_String_isLatin1 13 = .ok (.iconst 1, 1) := by decide +kernel
theorem d_String_isLatin1_14 : decode b_String_isLatin1 14 = .ok (.goto 4, 3) := by decide +kernel
theorem d_String_isLatin1_17 : decode b_String_isLatin1 17 = .ok (.iconst 0, 1) := by decide +kernel
theorem d_String_isLatin1_18 : decode b_String_isLatin1 18 = .ok (.ireturn, 1) := by decide +kernel
def p_String_isLatin1 (i : Nat) : Option Int32 := ck (decide (i < kn_n)) (some (1 : Int32))
set_option maxHeartbeats 4000000 in
set_option maxRecDepth 100000 in
theorem c_String_isLatin1 (l : Launch) (g : va_G) (cs : Nat → ClassId) (ka : Nat → Nat) (sz : Nat) (i : Nat) (r : Int32) (hok : p_String_isLatin1 i = some r) : Met l y_String_isLatin1 (.code y_String_isLatin1 b_String_isLatin1 1 (some .boolean) :: GW) { frames := 0, cells := 0, slots := 0, locals := 0 } (va_Pc [.ref (ka (200 + i))] (gP g cs ka [] sz)) (va_Qi (fun (r' : Int32) (_ : Unit) => r = r') (fun _ t => va_P g classes [] t.heap ∧ va_D (va_A [] sz) []) (va_A [] sz)) 0 0 (va_A [] sz) := by
  refine va_MetF (cc := b_String_isLatin1) (maxL := 1) (ret := (some .boolean)) (by decide) rfl ?_
  intro p e s m args below meth c s₁ B hml hv
  obtain ⟨rfl, hsz, hP, hK, hD0, hgl, hkn, hkr⟩ := hv
  have hx := B.exec
  have hb := B.bytes
  have hr := B.returns
  have hg : ∀ w ∈ GW, w.before ([.ref (ka (200 + i))] : List Value).toArray s = true := fun w hw => atoms_spec (ws := .code y_String_isLatin1 b_String_isLatin1 1 (some .boolean) :: GW) B.pre w (List.mem_cons_of_mem _ hw)
  have hown : s.vm.findClass R_String = some m.cls := findClass_of_methodNamed B.named
  have hlocks := B.notSynchronized
  subst hsz
  have hD := hD0.self (sz := s.heap.size)
  generalize hAe : va_A [] s.heap.size = A at hD hkn ⊢
  have hA : ∀ q : Nat, s.heap.size ≤ q → A q := fun q h => by rw [← hAe]; exact Or.inr h
  have hS : va_S A s.heap s.heap [] := va_S.rf
  have hP : va_P g classes [] s.heap := hP
  have hl := lv_entry ([.ref (ka (200 + i))]) (n := 1) (Nat.le_of_ble_eq_true rfl)
  rw [lg_entry_eq]
  generalize (lg_sl ([.ref (ka (200 + i))]) ++ List.replicate (1 - (lg_sl ([.ref (ka (200 + i))])).length) Slot.unset).toArray = ls at hl ⊢
  have hl : lv_has ls 1 [(0, .ref (ka (200 + i)))] := hl
  refine gq (fun Q hQ => ?_)
  obtain ⟨H, hH⟩ : ∃ H : Heap, H = s.heap := ⟨_, rfl⟩
  rw [← hH] at hP
  have hS : va_S A s.heap H [] := by rw [hH]; exact hS
  refine W.eqH hH ?_
  obtain ⟨locs, hlc⟩ : ∃ L : List Loc, L = [] := ⟨_, rfl⟩
  rw [← hlc] at hS ⊢
  unfold p_String_isLatin1 at hok
  obtain ⟨hb_i, hok⟩ := ck_some hok
  have hb_i := of_decide_eq_true hb_i
  refine va_gets hx hb hkn.2.2.2.2.1 hS hown (hg _ wd_160) (fun _ h9 => h9) d_String_isLatin1_0 ?_
  refine lv_if_eq hx hb d_String_isLatin1_3 rfl (fun h1 => ?_) (fun h1 => ?_)
  · exact absurd h1 (by decide)
  · refine lv_aload_n hx hb d_String_isLatin1_6 rfl (lv_at hl 0 rfl) ?_
    refine vk_getf hx hb (hkn.2.2.2.1 i hb_i).2.1 hS hown (hg _ wd_161) (fun _ h9 => h9) d_String_isLatin1_7 ?_
    refine lv_if_ne hx hb d_String_isLatin1_10 rfl (fun h2 => ?_) (fun h2 => ?_)
    · exact absurd h2 (by decide)
    · refine lv_iconst (v := 1) hx hb d_String_isLatin1_13 (by decide) ?_
      refine lv_goto hx hb d_String_isLatin1_14 rfl ?_
      have hq := Option.some.inj hok
      have hq0 := hq
      subst hq0
      obtain ⟨hP9, hD9⟩ := sub2 (ws' := []) hP hD [] rfl (by decide) rfl
      rw [hQ]
      exact W.zret (v := 1) hx hb hr rfl (fun t ht hW => ⟨⟨_, (), rfl, rfl, by rw [ht]; exact hP9, hD9⟩, hS.F ht⟩) hS.2.2 d_String_isLatin1_18

theorem d_String_length_0 : decode b_String_length 0 = .ok (.aload_n 0, 1) := by decide +kernel
theorem d_String_length_1 : decode b_String_length 1 = .ok (.getfield 9, 3) := by decide +kernel
theorem d_String_length_4 : decode b_String_length 4 = .ok (.arraylength, 1) := by decide +kernel
theorem d_String_length_5 : decode b_String_length 5 = .ok (.aload_n 0, 1) := by decide +kernel
theorem d_String_length_6 : decode b_String_length 6 = .ok (.invokevirtual 335, 3) := by decide +kernel
theorem d_String_length_9 : decode b_String_length 9 = .ok (.ishr, 1) := by decide +kernel
theorem d_String_length_10 : decode b_String_length 10 = .ok (.ireturn, 1) := by decide +kernel
def p_String_length (i : Nat) : Option Int32 := ck (decide (i < kn_n)) ((p_String_coder i).bind (fun r1 => some ((Int32.ofNat (kn_len.getD i 0)) >>> (r1 &&& 31))))
set_option maxHeartbeats 4000000 in
set_option maxRecDepth 100000 in
theorem c_String_length (l : Launch) (g : va_G) (cs : Nat → ClassId) (ka : Nat → Nat) (sz : Nat) (i : Nat) (r : Int32) (hok : p_String_length i = some r) : Met l y_String_length (.code y_String_length b_String_length 1 (some .int) :: GW) { frames := 1, cells := 0, slots := 0, locals := 20 } (va_Pc [.ref (ka (200 + i))] (gP g cs ka [] sz)) (va_Qi (fun (r' : Int32) (_ : Unit) => r = r') (fun _ t => va_P g classes [] t.heap ∧ va_D (va_A [] sz) []) (va_A [] sz)) 0 0 (va_A [] sz) := by
  refine va_MetF (cc := b_String_length) (maxL := 1) (ret := (some .int)) (by decide) rfl ?_
  intro p e s m args below meth c s₁ B hml hv
  obtain ⟨rfl, hsz, hP, hK, hD0, hgl, hkn, hkr⟩ := hv
  have hx := B.exec
  have hb := B.bytes
  have hr := B.returns
  have hg : ∀ w ∈ GW, w.before ([.ref (ka (200 + i))] : List Value).toArray s = true := fun w hw => atoms_spec (ws := .code y_String_length b_String_length 1 (some .int) :: GW) B.pre w (List.mem_cons_of_mem _ hw)
  have hown : s.vm.findClass R_String = some m.cls := findClass_of_methodNamed B.named
  have hlocks := B.notSynchronized
  subst hsz
  have hD := hD0.self (sz := s.heap.size)
  generalize hAe : va_A [] s.heap.size = A at hD hkn ⊢
  have hA : ∀ q : Nat, s.heap.size ≤ q → A q := fun q h => by rw [← hAe]; exact Or.inr h
  have hS : va_S A s.heap s.heap [] := va_S.rf
  have hP : va_P g classes [] s.heap := hP
  have hl := lv_entry ([.ref (ka (200 + i))]) (n := 1) (Nat.le_of_ble_eq_true rfl)
  rw [lg_entry_eq]
  generalize (lg_sl ([.ref (ka (200 + i))]) ++ List.replicate (1 - (lg_sl ([.ref (ka (200 + i))])).length) Slot.unset).toArray = ls at hl ⊢
  have hl : lv_has ls 1 [(0, .ref (ka (200 + i)))] := hl
  refine gq (fun Q hQ => ?_)
  obtain ⟨H, hH⟩ : ∃ H : Heap, H = s.heap := ⟨_, rfl⟩
  rw [← hH] at hP
  have hS : va_S A s.heap H [] := by rw [hH]; exact hS
  refine W.eqH hH ?_
  obtain ⟨locs, hlc⟩ : ∃ L : List Loc, L = [] := ⟨_, rfl⟩
  rw [← hlc] at hS ⊢
  unfold p_String_length at hok
  obtain ⟨hb_i, hok⟩ := ck_some hok
  have hb_i := of_decide_eq_true hb_i
  refine lv_aload_n hx hb d_String_length_0 rfl (lv_at hl 0 rfl) ?_
  refine vk_getf hx hb (hkn.2.2.2.1 i hb_i).2.2.1 hS hown (hg _ wd_162) (fun _ h9 => h9) d_String_length_1 ?_
  refine va_tlen (v := Int32.ofNat (kn_len.getD i 0)) hx hb (hkn.2.2.2.1 i hb_i).2.2.2 hS rfl d_String_length_4 ?_
  refine lv_aload_n hx hb d_String_length_5 rfl (lv_at hl 0 rfl) ?_
  obtain ⟨r1, hc1, hok⟩ := bd_some hok
  obtain ⟨hPc, hDc, hFc⟩ := cut0 (wc := []) hP hD hS hA [] (by decide) rfl
  refine va_calli (va_runV (As := []) (rest := [.int (Int32.ofNat (kn_len.getD i 0))]) ⟨hx, hb, hml, hown, hg⟩ (c_String_coder l g cs ka H.size i r1 hc1) (cwV (C := "java/lang/String") 0 hg (gw_V wd_165 wd_166 wd_167 wd_164 wd_163) rfl rfl rfl (by decide +kernel) ⟨Nat.le_of_ble_eq_true rfl, Nat.le_of_ble_eq_true rfl⟩) ⟨gP_blind, kn_recv hkn hb_i hS, gP_pre hPc hDc hK hgl hkn hkr hS hFc⟩ rfl rfl hl.1 rfl (lv_room (Nat.le_of_ble_eq_true rfl)) d_String_length_6 ⟨Nat.le_of_ble_eq_true rfl, Nat.le_of_ble_eq_true rfl⟩) hS (fun q _ h => hFc q h) hFc (fun r1' u t H locs ht hvm hr1 hB hz1 hk1 hS => ?_)
  subst hr1
  rw [ht] at hB
  obtain ⟨hP1, hD1⟩ := hB
  obtain ⟨hP, hD⟩ := jn_A hP hD [] [] rfl rfl (by decide) (by decide) hk1 hFc hP1 hD1
  obtain ⟨hP, hD⟩ : PD g A H [] := ⟨hP, hD⟩
  refine lv_ishr hx hb d_String_length_9 ?_
  have hq := Option.some.inj hok
  have hq0 := hq
  subst hq0
  obtain ⟨hP9, hD9⟩ := sub2 (ws' := []) hP hD [] rfl (by decide) rfl
  rw [hQ]
  exact W.iret (v := (Int32.ofNat (kn_len.getD i 0)) >>> (r1 &&& 31)) hx hb hr (fun t ht hW => ⟨⟨_, (), rfl, rfl, by rw [ht]; exact hP9, hD9⟩, hS.F ht⟩) hS.2.2 d_String_length_10

theorem d_String_checkIndex_0 : decode b_String_checkIndex 0 = .ok (.iload_n 0, 1) := by decide +kernel
theorem d_String_checkIndex_1 : decode b_String_checkIndex 1 = .ok (.iload_n 1, 1) := by decide +kernel
theorem d_String_checkIndex_2 : decode b_String_checkIndex 2 = .ok (.getstatic 1053, 3) := by decide +kernel
theorem d_String_checkIndex_5 : decode b_String_checkIndex 5 = .ok (.invokestatic 1059, 3) := by decide +kernel
theorem d_String_checkIndex_8 : decode b_String_checkIndex 8 = .ok (.pop, 1) := by decide +kernel
theorem d_String_checkIndex_9 : decode b_String_checkIndex 9 = .ok (.return_, 1) := by decide +kernel
def p_String_checkIndex (i : Int32) (len : Int32) : Option Unit := (p_Preconditions_checkIndex i len).bind (fun r2 => some ())
set_option maxHeartbeats 4000000 in
set_option maxRecDepth 100000 in
theorem c_String_checkIndex (l : Launch) (g : va_G) (cs : Nat → ClassId) (ka : Nat → Nat) (sz : Nat) (i : Int32) (len : Int32) (hok : p_String_checkIndex i len = some ()) : Met l y_String_checkIndex (.code y_String_checkIndex b_String_checkIndex 2 none :: GW) { frames := 1, cells := 0, slots := 0, locals := 22 } (va_Pc [.int i, .int len] (gP g cs ka [] sz)) (va_Qv (fun _ : Unit => True) (fun _ t => va_P g classes [] t.heap ∧ va_D (va_A [] sz) []) (va_A [] sz)) 0 0 (va_A [] sz) := by
  refine va_MetF (cc := b_String_checkIndex) (maxL := 2) (ret := none) (by decide) rfl ?_
  intro p e s m args below meth c s₁ B hml hv
  obtain ⟨rfl, hsz, hP, hK, hD0, hgl, hkn, hkr⟩ := hv
  have hx := B.exec
  have hb := B.bytes
  have hr := B.returns
  have hg : ∀ w ∈ GW, w.before ([.int i, .int len] : List Value).toArray s = true := fun w hw => atoms_spec (ws := .code y_String_checkIndex b_String_checkIndex 2 none :: GW) B.pre w (List.mem_cons_of_mem _ hw)
  have hown : s.vm.findClass R_String = some m.cls := findClass_of_methodNamed B.named
  have hlocks := B.notSynchronized
  subst hsz
  have hD := hD0.self (sz := s.heap.size)
  generalize hAe : va_A [] s.heap.size = A at hD hkn ⊢
  have hA : ∀ q : Nat, s.heap.size ≤ q → A q := fun q h => by rw [← hAe]; exact Or.inr h
  have hS : va_S A s.heap s.heap [] := va_S.rf
  have hP : va_P g classes [] s.heap := hP
  have hl := lv_entry ([.int i, .int len]) (n := 2) (Nat.le_of_ble_eq_true rfl)
  rw [lg_entry_eq]
  generalize (lg_sl ([.int i, .int len]) ++ List.replicate (2 - (lg_sl ([.int i, .int len])).length) Slot.unset).toArray = ls at hl ⊢
  have hl : lv_has ls 2 [(0, .int i), (1, .int len)] := hl
  refine gq (fun Q hQ => ?_)
  obtain ⟨H, hH⟩ : ∃ H : Heap, H = s.heap := ⟨_, rfl⟩
  rw [← hH] at hP
  have hS : va_S A s.heap H [] := by rw [hH]; exact hS
  refine W.eqH hH ?_
  obtain ⟨locs, hlc⟩ : ∃ L : List Loc, L = [] := ⟨_, rfl⟩
  rw [← hlc] at hS ⊢
  unfold p_String_checkIndex at hok
  refine lv_iload_n hx hb d_String_checkIndex_0 rfl (lv_at hl 0 rfl) ?_
  refine lv_iload_n hx hb d_String_checkIndex_1 rfl (lv_at hl 1 rfl) ?_
  rcases hkn.2.2.2.2.2.1 with hz1 | ⟨t1, hz1⟩
  · refine va_gets hx hb hz1 hS hown (hg _ wd_168) (fun _ h9 => h9) d_String_checkIndex_2 ?_
    obtain ⟨r2, hc2, hok⟩ := bd_some hok
    obtain ⟨hPc, hDc, hFc⟩ := cut0 (wc := []) hP hD hS hA [] (by decide) rfl
    refine va_calli (va_runS (As := [.int i, .int len, .null]) (rest := []) ⟨hx, hb, hml, hown, hg⟩ (c_Preconditions_checkIndex_N l g cs ka H.size i len r2 hc2) (va_cwS 3 hg (gw_S wd_171 wd_172 wd_170 wd_169) rfl rfl rfl (by decide +kernel) ⟨Nat.le_of_ble_eq_true rfl, Nat.le_of_ble_eq_true rfl⟩) ⟨gP_blind, gP_pre hPc hDc hK hgl hkn hkr hS hFc⟩ rfl rfl hl.1 rfl (lv_room (Nat.le_of_ble_eq_true rfl)) d_String_checkIndex_5 ⟨Nat.le_of_ble_eq_true rfl, Nat.le_of_ble_eq_true rfl⟩) hS (fun q _ h => hFc q h) hFc (fun r2' u t H locs ht hvm hr2 hB hz1 hk1 hS => ?_)
    subst hr2
    rw [ht] at hB
    obtain ⟨hP1, hD1⟩ := hB
    obtain ⟨hP, hD⟩ := jn_A hP hD [] [] rfl rfl (by decide) (by decide) hk1 hFc hP1 hD1
    obtain ⟨hP, hD⟩ : PD g A H [] := ⟨hP, hD⟩
    refine lv_pop hx hb d_String_checkIndex_8 rfl ?_
    have hq := Option.some.inj hok
    obtain ⟨hP9, hD9⟩ := sub2 (ws' := []) hP hD [] rfl (by decide) rfl
    rw [hQ]
    exact W.vret hx hb hr (fun t ht hW => ⟨⟨(), rfl, trivial, by rw [ht]; exact hP9, hD9⟩, hS.F ht⟩) hS.2.2 d_String_checkIndex_9
  · refine va_gets hx hb hz1 hS hown (hg _ wd_168) (fun _ h9 => h9) d_String_checkIndex_2 ?_
    obtain ⟨r2, hc2, hok⟩ := bd_some hok
    obtain ⟨hPc, hDc, hFc⟩ := cut0 (wc := []) hP hD hS hA [] (by decide) rfl
    refine va_calli (va_runS (As := [.int i, .int len, .ref t1]) (rest := []) ⟨hx, hb, hml, hown, hg⟩ (c_Preconditions_checkIndex_R l g cs ka t1 H.size i len r2 hc2) (va_cwS 3 hg (gw_S wd_171 wd_172 wd_170 wd_169) rfl rfl rfl (by decide +kernel) ⟨Nat.le_of_ble_eq_true rfl, Nat.le_of_ble_eq_true rfl⟩) ⟨gP_blind, gP_pre hPc hDc hK hgl hkn hkr hS hFc⟩ rfl rfl hl.1 rfl (lv_room (Nat.le_of_ble_eq_true rfl)) d_String_checkIndex_5 ⟨Nat.le_of_ble_eq_true rfl, Nat.le_of_ble_eq_true rfl⟩) hS (fun q _ h => hFc q h) hFc (fun r2' u t H locs ht hvm hr2 hB hz1 hk1 hS => ?_)
    subst hr2
    rw [ht] at hB
    obtain ⟨hP1, hD1⟩ := hB
    obtain ⟨hP, hD⟩ := jn_A hP hD [] [] rfl rfl (by decide) (by decide) hk1 hFc hP1 hD1
    obtain ⟨hP, hD⟩ : PD g A H [] := ⟨hP, hD⟩
    refine lv_pop hx hb d_String_checkIndex_8 rfl ?_
    have hq := Option.some.inj hok
    obtain ⟨hP9, hD9⟩ := sub2 (ws' := []) hP hD [] rfl (by decide) rfl
    rw [hQ]
    exact W.vret hx hb hr (fun t ht hW => ⟨⟨(), rfl, trivial, by rw [ht]; exact hP9, hD9⟩, hS.F ht⟩) hS.2.2 d_String_checkIndex_9

theorem d_StringLatin1_charAt_0 : decode b_StringLatin1_charAt 0 = .ok (.iload_n 1, 1) := by decide +kernel
theorem d_StringLatin1_charAt_1 : decode b_StringLatin1_charAt 1 = .ok (.aload_n 0, 1) := by decide +kernel
theorem d_StringLatin1_charAt_2 : decode b_StringLatin1_charAt 2 = .ok (.arraylength, 1) := by decide +kernel
theorem d_StringLatin1_charAt_3 : decode b_StringLatin1_charAt 3 = .ok (.invokestatic 9, 3) := by decide +kernel
theorem d_StringLatin1_charAt_6 : decode b_StringLatin1_charAt 6 = .ok (.aload_n 0, 1) := by decide +kernel
theorem d_StringLatin1_charAt_7 : decode b_StringLatin1_charAt 7 = .ok (.iload_n 1, 1) := by decide +kernel
theorem d_StringLatin1_charAt_8 : decode b_StringLatin1_charAt 8 = .ok (.baload, 1) := by decide +kernel
theorem d_StringLatin1_charAt_9 : decode b_StringLatin1_charAt 9 = .ok (.sipush 255, 3) := by decide +kernel
theorem d_StringLatin1_charAt_12 : decode b_StringLatin1_charAt 12 = .ok (.iand, 1) := by decide +kernel
theorem d_StringLatin1_charAt_13 : decode b_StringLatin1_charAt 13 = .ok (.i2c, 1) := by decide +kernel
theorem d_StringLatin1_charAt_14 : decode b_StringLatin1_charAt 14 = .ok (.ireturn, 1) := by decide +kernel
def p_StringLatin1_charAt (j : Nat) (i : Int32) : Option Int32 := ck (decide (j < kn_n)) ((p_String_checkIndex i (Int32.ofNat (kn_len.getD j 0))).bind (fun _ => ck (ixb i (kn_len.getD j 0)) (ck (decide (narrow .char (.int (((((kn_byt.getD j []).getD i.toNatClampNeg 0) &&& 255).toUInt32 % 65536).toInt32)) = .int (((((kn_byt.getD j []).getD i.toNatClampNeg 0) &&& 255).toUInt32 % 65536).toInt32))) (some (((((kn_byt.getD j []).getD i.toNatClampNeg 0) &&& 255).toUInt32 % 65536).toInt32)))))
set_option maxHeartbeats 4000000 in
set_option maxRecDepth 100000 in
theorem c_StringLatin1_charAt (l : Launch) (g : va_G) (cs : Nat → ClassId) (ka : Nat → Nat) (sz : Nat) (j : Nat) (i : Int32) (r : Int32) (hok : p_StringLatin1_charAt j i = some r) : Met l y_StringLatin1_charAt (.code y_StringLatin1_charAt b_StringLatin1_charAt 2 (some .char) :: GW) { frames := 2, cells := 0, slots := 0, locals := 43 } (va_Pc [.ref (ka (300 + j)), .int i] (gP g cs ka [] sz)) (va_Qi (fun (r' : Int32) (_ : Unit) => r = r') (fun _ t => va_P g classes [] t.heap ∧ va_D (va_A [] sz) []) (va_A [] sz)) 0 0 (va_A [] sz) := by
  refine va_MetF (cc := b_StringLatin1_charAt) (maxL := 2) (ret := (some .char)) (by decide) rfl ?_
  intro p e s m args below meth c s₁ B hml hv
  obtain ⟨rfl, hsz, hP, hK, hD0, hgl, hkn, hkr⟩ := hv
  have hx := B.exec
  have hb := B.bytes
  have hr := B.returns
  have hg : ∀ w ∈ GW, w.before ([.ref (ka (300 + j)), .int i] : List Value).toArray s = true := fun w hw => atoms_spec (ws := .code y_StringLatin1_charAt b_StringLatin1_charAt 2 (some .char) :: GW) B.pre w (List.mem_cons_of_mem _ hw)
  have hown : s.vm.findClass R_StringLatin1 = some m.cls := findClass_of_methodNamed B.named
  have hlocks := B.notSynchronized
  subst hsz
  have hD := hD0.self (sz := s.heap.size)
  generalize hAe : va_A [] s.heap.size = A at hD hkn ⊢
  have hA : ∀ q : Nat, s.heap.size ≤ q → A q := fun q h => by rw [← hAe]; exact Or.inr h
  have hS : va_S A s.heap s.heap [] := va_S.rf
  have hP : va_P g classes [] s.heap := hP
  have hl := lv_entry ([.ref (ka (300 + j)), .int i]) (n := 2) (Nat.le_of_ble_eq_true rfl)
  rw [lg_entry_eq]
  generalize (lg_sl ([.ref (ka (300 + j)), .int i]) ++ List.replicate (2 - (lg_sl ([.ref (ka (300 + j)), .int i])).length) Slot.unset).toArray = ls at hl ⊢
  have hl : lv_has ls 2 [(0, .ref (ka (300 + j))), (1, .int i)] := hl
  refine gq (fun Q hQ => ?_)
  obtain ⟨H, hH⟩ : ∃ H : Heap, H = s.heap := ⟨_, rfl⟩
  rw [← hH] at hP
  have hS : va_S A s.heap H [] := by rw [hH]; exact hS
  refine W.eqH hH ?_
  obtain ⟨locs, hlc⟩ : ∃ L : List Loc, L = [] := ⟨_, rfl⟩
  rw [← hlc] at hS ⊢
  unfold p_StringLatin1_charAt at hok
  obtain ⟨hb_j, hok⟩ := ck_some hok
  have hb_j := of_decide_eq_true hb_j
  refine lv_iload_n hx hb d_StringLatin1_charAt_0 rfl (lv_at hl 1 rfl) ?_
  refine lv_aload_n hx hb d_StringLatin1_charAt_1 rfl (lv_at hl 0 rfl) ?_
  refine va_tlen (v := Int32.ofNat (kn_len.getD j 0)) hx hb (hkn.2.2.2.1 j hb_j).2.2.2 hS rfl d_StringLatin1_charAt_2 ?_
  obtain ⟨u1, hc1, hok⟩ := bd_some hok
  obtain ⟨hPc, hDc, hFc⟩ := cut0 (wc := []) hP hD hS hA [] (by decide) rfl
  refine va_callv (va_runS (As := [.int i, .int (Int32.ofNat (kn_len.getD j 0))]) (rest := []) ⟨hx, hb, hml, hown, hg⟩ (c_String_checkIndex l g cs ka H.size i (Int32.ofNat (kn_len.getD j 0)) hc1) (va_cwS 2 hg (gw_S wd_174 wd_175 wd_164 wd_173) rfl rfl rfl (by decide +kernel) ⟨Nat.le_of_ble_eq_true rfl, Nat.le_of_ble_eq_true rfl⟩) ⟨gP_blind, gP_pre hPc hDc hK hgl hkn hkr hS hFc⟩ rfl rfl hl.1 rfl (lv_room (Nat.le_of_ble_eq_true rfl)) d_StringLatin1_charAt_3 ⟨Nat.le_of_ble_eq_true rfl, Nat.le_of_ble_eq_true rfl⟩) hS (fun q _ h => hFc q h) hFc (fun u t H locs ht hvm hr1 hB hz1 hk1 hS => ?_)
  rw [ht] at hB
  obtain ⟨hP1, hD1⟩ := hB
  obtain ⟨hP, hD⟩ := jn_A hP hD [] [] rfl rfl (by decide) (by decide) hk1 hFc hP1 hD1
  obtain ⟨hP, hD⟩ : PD g A H [] := ⟨hP, hD⟩
  refine lv_aload_n hx hb d_StringLatin1_charAt_6 rfl (lv_at hl 0 rfl) ?_
  refine lv_iload_n hx hb d_StringLatin1_charAt_7 rfl (lv_at hl 1 rfl) ?_
  obtain ⟨hi2, hok⟩ := ck_some hok
  refine va_tb hx hb (hkn.2.2.2.1 j hb_j).2.2.2 hS (ixb_in hi2) rfl d_StringLatin1_charAt_8 ?_
  refine lv_sipush (v := 255) hx hb d_StringLatin1_charAt_9 (by decide) ?_
  refine lv_iand hx hb d_StringLatin1_charAt_12 ?_
  refine lv_i2c hx hb d_StringLatin1_charAt_13 rfl ?_
  obtain ⟨hzb, hok⟩ := ck_some hok
  have hq := Option.some.inj hok
  have hq0 := hq
  subst hq0
  obtain ⟨hP9, hD9⟩ := sub2 (ws' := []) hP hD [] rfl (by decide) rfl
  rw [hQ]
  exact W.zret (v := ((((kn_byt.getD j []).getD i.toNatClampNeg 0) &&& 255).toUInt32 % 65536).toInt32) hx hb hr (of_decide_eq_true hzb) (fun t ht hW => ⟨⟨_, (), rfl, rfl, by rw [ht]; exact hP9, hD9⟩, hS.F ht⟩) hS.2.2 d_StringLatin1_charAt_14

theorem d_String_charAt_0 : decode b_String_charAt 0 = .ok (.aload_n 0, 1) := by decide +kernel
theorem d_String_charAt_1 : decode b_String_charAt 1 = .ok (.invokevirtual 492, 3) := by decide +kernel
theorem d_String_charAt_4 : decode b_String_charAt 4 = .ok (.ifCond .eq 12, 3) := by decide +kernel
theorem d_String_charAt_7 : decode b_String_charAt 7 = .ok (.aload_n 0, 1) := by decide +kernel
theorem d_String_charAt_8 : decode b_String_charAt 8 = .ok (.getfield 9, 3) := by decide +kernel
theorem d_String_charAt_11 : decode b_String_charAt 11 = .ok (.iload_n 1, 1) := by decide +kernel
theorem d_String_charAt_12 : decode b_String_charAt 12 = .ok (.invokestatic 495, 3) := by decide +kernel
theorem d_String_charAt_15 : decode b_String_charAt 15 = .ok (.ireturn, 1) := by decide +kernel
def p_String_charAt (j : Nat) (i : Int32) : Option Int32 := ck (decide (j < kn_n)) ((p_String_isLatin1 j).bind (fun r1 => if r1 = 0 then (none) else ((p_StringLatin1_charAt j i).bind (fun r3 => ck (decide (narrow .char (.int r3) = .int r3)) (some r3)))))
set_option maxHeartbeats 4000000 in
set_option maxRecDepth 100000 in
theorem c_String_charAt (l : Launch) (g : va_G) (cs : Nat → ClassId) (ka : Nat → Nat) (sz : Nat) (j : Nat) (i : Int32) (r : Int32) (hok : p_String_charAt j i = some r) : Met l y_String_charAt (.code y_String_charAt b_String_charAt 2 (some .char) :: GW) { frames := 3, cells := 0, slots := 0, locals := 64 } (va_Pc [.ref (ka (200 + j)), .int i] (gP g cs ka [] sz)) (va_Qi (fun (r' : Int32) (_ : Unit) => r = r') (fun _ t => va_P g classes [] t.heap ∧ va_D (va_A [] sz) []) (va_A [] sz)) 0 0 (va_A [] sz) := by
  refine va_MetF (cc := b_String_charAt) (maxL := 2) (ret := (some .char)) (by decide) rfl ?_
  intro p e s m args below meth c s₁ B hml hv
  obtain ⟨rfl, hsz, hP, hK, hD0, hgl, hkn, hkr⟩ := hv
  have hx := B.exec
  have hb := B.bytes
  have hr := B.returns
  have hg : ∀ w ∈ GW, w.before ([.ref (ka (200 + j)), .int i] : List Value).toArray s = true := fun w hw => atoms_spec (ws := .code y_String_charAt b_String_charAt 2 (some .char) :: GW) B.pre w (List.mem_cons_of_mem _ hw)
  have hown : s.vm.findClass R_String = some m.cls := findClass_of_methodNamed B.named
  have hlocks := B.notSynchronized
  subst hsz
  have hD := hD0.self (sz := s.heap.size)
  generalize hAe : va_A [] s.heap.size = A at hD hkn ⊢
  have hA : ∀ q : Nat, s.heap.size ≤ q → A q := fun q h => by rw [← hAe]; exact Or.inr h
  have hS : va_S A s.heap s.heap [] := va_S.rf
  have hP : va_P g classes [] s.heap := hP
  have hl := lv_entry ([.ref (ka (200 + j)), .int i]) (n := 2) (Nat.le_of_ble_eq_true rfl)
  rw [lg_entry_eq]
  generalize (lg_sl ([.ref (ka (200 + j)), .int i]) ++ List.replicate (2 - (lg_sl ([.ref (ka (200 + j)), .int i])).length) Slot.unset).toArray = ls at hl ⊢
  have hl : lv_has ls 2 [(0, .ref (ka (200 + j))), (1, .int i)] := hl
  refine gq (fun Q hQ => ?_)
  obtain ⟨H, hH⟩ : ∃ H : Heap, H = s.heap := ⟨_, rfl⟩
  rw [← hH] at hP
  have hS : va_S A s.heap H [] := by rw [hH]; exact hS
  refine W.eqH hH ?_
  obtain ⟨locs, hlc⟩ : ∃ L : List Loc, L = [] := ⟨_, rfl⟩
  rw [← hlc] at hS ⊢
  unfold p_String_charAt at hok
  obtain ⟨hb_j, hok⟩ := ck_some hok
  have hb_j := of_decide_eq_true hb_j
  refine lv_aload_n hx hb d_String_charAt_0 rfl (lv_at hl 0 rfl) ?_
  obtain ⟨r1, hc1, hok⟩ := bd_some hok
  obtain ⟨hPc, hDc, hFc⟩ := cut0 (wc := []) hP hD hS hA [] (by decide) rfl
  refine va_calli (va_runV (As := []) (rest := []) ⟨hx, hb, hml, hown, hg⟩ (c_String_isLatin1 l g cs ka H.size j r1 hc1) (cwV (C := "java/lang/String") 0 hg (gw_V wd_177 wd_178 wd_179 wd_164 wd_176) rfl rfl rfl (by decide +kernel) ⟨Nat.le_of_ble_eq_true rfl, Nat.le_of_ble_eq_true rfl⟩) ⟨gP_blind, kn_recv hkn hb_j hS, gP_pre hPc hDc hK hgl hkn hkr hS hFc⟩ rfl rfl hl.1 rfl (lv_room (Nat.le_of_ble_eq_true rfl)) d_String_charAt_1 ⟨Nat.le_of_ble_eq_true rfl, Nat.le_of_ble_eq_true rfl⟩) hS (fun q _ h => hFc q h) hFc (fun r1' u t H locs ht hvm hr1 hB hz1 hk1 hS => ?_)
  subst hr1
  rw [ht] at hB
  obtain ⟨hP1, hD1⟩ := hB
  obtain ⟨hP, hD⟩ := jn_A hP hD [] [] rfl rfl (by decide) (by decide) hk1 hFc hP1 hD1
  obtain ⟨hP, hD⟩ : PD g A H [] := ⟨hP, hD⟩
  refine lv_if_eq hx hb d_String_charAt_4 rfl (fun h2 => ?_) (fun h2 => ?_)
  · rw [if_pos h2] at hok
    cases hok
  · rw [if_neg h2] at hok
    refine lv_aload_n hx hb d_String_charAt_7 rfl (lv_at hl 0 rfl) ?_
    refine vk_getf hx hb (hkn.2.2.2.1 j hb_j).2.2.1 hS hown (hg _ wd_162) (fun _ h9 => h9) d_String_charAt_8 ?_
    refine lv_iload_n hx hb d_String_charAt_11 rfl (lv_at hl 1 rfl) ?_
    obtain ⟨r3, hc3, hok⟩ := bd_some hok
    obtain ⟨hPc, hDc, hFc⟩ := cut0 (wc := []) hP hD hS hA [] (by decide) rfl
    refine va_calli (va_runS (As := [.ref (ka (300 + j)), .int i]) (rest := []) ⟨hx, hb, hml, hown, hg⟩ (c_StringLatin1_charAt l g cs ka H.size j i r3 hc3) (va_cwS 2 hg (gw_S wd_182 wd_183 wd_181 wd_180) rfl rfl rfl (by decide +kernel) ⟨Nat.le_of_ble_eq_true rfl, Nat.le_of_ble_eq_true rfl⟩) ⟨gP_blind, gP_pre hPc hDc hK hgl hkn hkr hS hFc⟩ rfl rfl hl.1 rfl (lv_room (Nat.le_of_ble_eq_true rfl)) d_String_charAt_12 ⟨Nat.le_of_ble_eq_true rfl, Nat.le_of_ble_eq_true rfl⟩) hS (fun q _ h => hFc q h) hFc (fun r3' u t H locs ht hvm hr3 hB hz1 hk1 hS => ?_)
    subst hr3
    rw [ht] at hB
    obtain ⟨hP1, hD1⟩ := hB
    obtain ⟨hP, hD⟩ := jn_A hP hD [] [] rfl rfl (by decide) (by decide) hk1 hFc hP1 hD1
    obtain ⟨hP, hD⟩ : PD g A H [] := ⟨hP, hD⟩
    obtain ⟨hzb, hok⟩ := ck_some hok
    have hq := Option.some.inj hok
    have hq0 := hq
    subst hq0
    obtain ⟨hP9, hD9⟩ := sub2 (ws' := []) hP hD [] rfl (by decide) rfl
    rw [hQ]
    exact W.zret (v := r3) hx hb hr (of_decide_eq_true hzb) (fun t ht hW => ⟨⟨_, (), rfl, rfl, by rw [ht]; exact hP9, hD9⟩, hS.F ht⟩) hS.2.2 d_String_charAt_15

theorem d_StringLatin1_canEncode_0 : decode b_StringLatin1_canEncode 0 = .ok (.iload_n 0, 1) := by decide +kernel
theorem d_StringLatin1_canEncode_1 : decode b_StringLatin1_canEncode 1 = .ok (.ifCond .lt 14, 3) := by decide +kernel
theorem d_StringLatin1_canEncode_4 : decode b_StringLatin1_canEncode 4 = .ok (.iload_n 0, 1) := by decide +kernel
theorem d_StringLatin1_canEncode_5 : decode b_StringLatin1_canEncode 5 = .ok (.sipush 255, 3) := by decide +kernel
theorem d_StringLatin1_canEncode_8 : decode b_StringLatin1_canEncode 8 = .ok (.if_icmp .gt 7, 3) := by decide +kernel
theorem d_StringLatin1_canEncode_11 : decode b_StringLatin1_canEncode 11 = .ok (.iconst 1, 1) := by decide +kernel
theorem d_StringLatin1_canEncode_12 : decode b_StringLatin1_canEncode 12 = .ok (.goto 4, 3) := by decide +kernel
theorem d_StringLatin1_canEncode_15 : decode b_StringLatin1_canEncode 15 = .ok (.iconst 0, 1) := by decide +kernel
theorem d_StringLatin1_canEncode_16 : decode b_StringLatin1_canEncode 16 = .ok (.ireturn, 1) := by decide +kernel
def p_StringLatin1_canEncode (cp : Int32) : Option Int32 := if cp < 0 then (some (0 : Int32)) else (if 255 < cp then (some (0 : Int32)) else (some (1 : Int32)))
set_option maxHeartbeats 4000000 in
set_option maxRecDepth 100000 in
theorem c_StringLatin1_canEncode (l : Launch) (g : va_G) (cs : Nat → ClassId) (ka : Nat → Nat) (sz : Nat) (cp : Int32) (r : Int32) (hok : p_StringLatin1_canEncode cp = some r) : Met l y_StringLatin1_canEncode (.code y_StringLatin1_canEncode b_StringLatin1_canEncode 1 (some .boolean) :: GW) { frames := 0, cells := 0, slots := 0, locals := 0 } (va_Pc [.int cp] (gP g cs ka [] sz)) (va_Qi (fun (r' : Int32) (_ : Unit) => r = r') (fun _ t => va_P g classes [] t.heap ∧ va_D (va_A [] sz) []) (va_A [] sz)) 0 0 (va_A [] sz) := by
  refine va_MetF (cc := b_StringLatin1_canEncode) (maxL := 1) (ret := (some .boolean)) (by decide) rfl ?_
  intro p e s m args below meth c s₁ B hml hv
  obtain ⟨rfl, hsz, hP, hK, hD0, hgl, hkn, hkr⟩ := hv
  have hx := B.exec
  have hb := B.bytes
  have hr := B.returns
  have hg : ∀ w ∈ GW, w.before ([.int cp] : List Value).toArray s = true := fun w hw => atoms_spec (ws := .code y_StringLatin1_canEncode b_StringLatin1_canEncode 1 (some .boolean) :: GW) B.pre w (List.mem_cons_of_mem _ hw)
  have hown : s.vm.findClass R_StringLatin1 = some m.cls := findClass_of_methodNamed B.named
  have hlocks := B.notSynchronized
  subst hsz
  have hD := hD0.self (sz := s.heap.size)
  generalize hAe : va_A [] s.heap.size = A at hD hkn ⊢
  have hA : ∀ q : Nat, s.heap.size ≤ q → A q := fun q h => by rw [← hAe]; exact Or.inr h
  have hS : va_S A s.heap s.heap [] := va_S.rf
  have hP : va_P g classes [] s.heap := hP
  have hl := lv_entry ([.int cp]) (n := 1) (Nat.le_of_ble_eq_true rfl)
  rw [lg_entry_eq]
  generalize (lg_sl ([.int cp]) ++ List.replicate (1 - (lg_sl ([.int cp])).length) Slot.unset).toArray = ls at hl ⊢
  have hl : lv_has ls 1 [(0, .int cp)] := hl
  refine gq (fun Q hQ => ?_)
  obtain ⟨H, hH⟩ : ∃ H : Heap, H = s.heap := ⟨_, rfl⟩
  rw [← hH] at hP
  have hS : va_S A s.heap H [] := by rw [hH]; exact hS
  refine W.eqH hH ?_
  obtain ⟨locs, hlc⟩ : ∃ L : List Loc, L = [] := ⟨_, rfl⟩
  rw [← hlc] at hS ⊢
  unfold p_StringLatin1_canEncode at hok
  refine lv_iload_n hx hb d_StringLatin1_canEncode_0 rfl (lv_at hl 0 rfl) ?_
  refine lv_if_lt hx hb d_StringLatin1_canEncode_1 rfl (fun h1 => ?_) (fun h1 => ?_)
  · rw [if_pos h1] at hok
    refine lv_iconst (v := 0) hx hb d_StringLatin1_canEncode_15 (by decide) ?_
    have hq := Option.some.inj hok
    have hq0 := hq
    subst hq0
    obtain ⟨hP9, hD9⟩ := sub2 (ws' := []) hP hD [] rfl (by decide) rfl
    rw [hQ]
    exact W.zret (v := 0) hx hb hr rfl (fun t ht hW => ⟨⟨_, (), rfl, rfl, by rw [ht]; exact hP9, hD9⟩, hS.F ht⟩) hS.2.2 d_StringLatin1_canEncode_16
  · rw [if_neg h1] at hok
    refine lv_iload_n hx hb d_StringLatin1_canEncode_4 rfl (lv_at hl 0 rfl) ?_
    refine lv_sipush (v := 255) hx hb d_StringLatin1_canEncode_5 (by decide) ?_
    refine lv_icmp_gt hx hb d_StringLatin1_canEncode_8 rfl (fun h2 => ?_) (fun h2 => ?_)
    · rw [if_pos h2] at hok
      refine lv_iconst (v := 0) hx hb d_StringLatin1_canEncode_15 (by decide) ?_
      have hq := Option.some.inj hok
      have hq0 := hq
      subst hq0
      obtain ⟨hP9, hD9⟩ := sub2 (ws' := []) hP hD [] rfl (by decide) rfl
      rw [hQ]
      exact W.zret (v := 0) hx hb hr rfl (fun t ht hW => ⟨⟨_, (), rfl, rfl, by rw [ht]; exact hP9, hD9⟩, hS.F ht⟩) hS.2.2 d_StringLatin1_canEncode_16
    · rw [if_neg h2] at hok
      refine lv_iconst (v := 1) hx hb d_StringLatin1_canEncode_11 (by decide) ?_
      refine lv_goto hx hb d_StringLatin1_canEncode_12 rfl ?_
      have hq := Option.some.inj hok
      have hq0 := hq
      subst hq0
      obtain ⟨hP9, hD9⟩ := sub2 (ws' := []) hP hD [] rfl (by decide) rfl
      rw [hQ]
      exact W.zret (v := 1) hx hb hr rfl (fun t ht hW => ⟨⟨_, (), rfl, rfl, by rw [ht]; exact hP9, hD9⟩, hS.F ht⟩) hS.2.2 d_StringLatin1_canEncode_16

theorem d_StringLatin1_indexOfChar_0 : decode b_StringLatin1_indexOfChar 0 = .ok (.iload_n 1, 1) := by decide +kernel
theorem d_StringLatin1_indexOfChar_1 : decode b_StringLatin1_indexOfChar 1 = .ok (.i2b, 1) := by decide +kernel
theorem d_StringLatin1_indexOfChar_2 : decode b_StringLatin1_indexOfChar 2 = .ok (.istore 4, 2) := by decide +kernel
theorem d_StringLatin1_indexOfChar_4 : decode b_StringLatin1_indexOfChar 4 = .ok (.iload_n 2, 1) := by decide +kernel
theorem d_StringLatin1_indexOfChar_5 : decode b_StringLatin1_indexOfChar 5 = .ok (.istore 5, 2) := by decide +kernel
theorem d_StringLatin1_indexOfChar_7 : decode b_StringLatin1_indexOfChar 7 = .ok (.iload 5, 2) := by decide +kernel
theorem d_StringLatin1_indexOfChar_9 : decode b_StringLatin1_indexOfChar 9 = .ok (.iload_n 3, 1) := by decide +kernel
theorem d_StringLatin1_indexOfChar_10 : decode b_StringLatin1_indexOfChar 10 = .ok (.if_icmp .ge 21, 3) := by decide +kernel
theorem d_StringLatin1_indexOfChar_13 : decode b_StringLatin1_indexOfChar 13 = .ok (.aload_n 0, 1) := by decide +kernel
theorem d_StringLatin1_indexOfChar_14 : decode b_StringLatin1_indexOfChar 14 = .ok (.iload 5, 2) := by decide +kernel
theorem d_StringLatin1_indexOfChar_16 : decode b_StringLatin1_indexOfChar 16 = .ok (.baload, 1) := by decide +kernel
theorem d_StringLatin1_indexOfChar_17 : decode b_StringLatin1_indexOfChar 17 = .ok (.iload 4, 2) := by decide +kernel
theorem d_StringLatin1_indexOfChar_19 : decode b_StringLatin1_indexOfChar 19 = .ok (.if_icmp .ne 6, 3) := by decide +kernel
theorem d_StringLatin1_indexOfChar_22 : decode b_StringLatin1_indexOfChar 22 = .ok (.iload 5, 2) := by decide +kernel
theorem d_StringLatin1_indexOfChar_24 : decode b_StringLatin1_indexOfChar 24 = .ok (.ireturn, 1) := by decide +kernel
theorem d_StringLatin1_indexOfChar_25 : decode b_StringLatin1_indexOfChar 25 = .ok (.iinc 5 1, 3) := by decide +kernel
theorem d_StringLatin1_indexOfChar_28 : decode b_StringLatin1_indexOfChar 28 = .ok (.goto (-21), 3) := by decide +kernel
theorem d_StringLatin1_indexOfChar_31 : decode b_StringLatin1_indexOfChar 31 = .ok (.iconst (-1), 1) := by decide +kernel
theorem d_StringLatin1_indexOfChar_32 : decode b_StringLatin1_indexOfChar 32 = .ok (.ireturn, 1) := by decide +kernel
def p_StringLatin1_indexOfChar_7 (n : Nat) (j : Nat) (v : Int32) (to_ : Int32) (kf1 : Nat) (x5_1 : Int32) : Option Int32 := match kf1 with
  | 0 => none
  | kf1 + 1 => if to_ ≤ x5_1 then (some ((-1) : Int32)) else (ck (ixb x5_1 (kn_len.getD j 0)) (if ((kn_byt.getD j []).getD x5_1.toNatClampNeg 0) = v.toInt8.toInt32 then (some x5_1) else (p_StringLatin1_indexOfChar_7 n j v to_ kf1 (x5_1 + 1))))
def p_StringLatin1_indexOfChar (n : Nat) (j : Nat) (v : Int32) (from_ : Int32) (to_ : Int32) : Option Int32 := ck (decide (j < kn_n)) (p_StringLatin1_indexOfChar_7 n j v to_ n from_)
set_option maxHeartbeats 4000000 in
set_option maxRecDepth 100000 in
theorem c_StringLatin1_indexOfChar (l : Launch) (g : va_G) (cs : Nat → ClassId) (ka : Nat → Nat) (sz : Nat) (n : Nat) (j : Nat) (v : Int32) (from_ : Int32) (to_ : Int32) (r : Int32) (hok : p_StringLatin1_indexOfChar n j v from_ to_ = some r) : Met l y_StringLatin1_indexOfChar (.code y_StringLatin1_indexOfChar b_StringLatin1_indexOfChar 6 (some .int) :: GW) { frames := 0, cells := 0, slots := 0, locals := 0 } (va_Pc [.ref (ka (300 + j)), .int v, .int from_, .int to_] (gP g cs ka [] sz)) (va_Qi (fun (r' : Int32) (_ : Unit) => r = r') (fun _ t => va_P g classes [] t.heap ∧ va_D (va_A [] sz) []) (va_A [] sz)) 0 0 (va_A [] sz) := by
  refine va_MetF (cc := b_StringLatin1_indexOfChar) (maxL := 6) (ret := (some .int)) (by decide) rfl ?_
  intro p e s m args below meth c s₁ B hml hv
  obtain ⟨rfl, hsz, hP, hK, hD0, hgl, hkn, hkr⟩ := hv
  have hx := B.exec
  have hb := B.bytes
  have hr := B.returns
  have hg : ∀ w ∈ GW, w.before ([.ref (ka (300 + j)), .int v, .int from_, .int to_] : List Value).toArray s = true := fun w hw => atoms_spec (ws := .code y_StringLatin1_indexOfChar b_StringLatin1_indexOfChar 6 (some .int) :: GW) B.pre w (List.mem_cons_of_mem _ hw)
  have hown : s.vm.findClass R_StringLatin1 = some m.cls := findClass_of_methodNamed B.named
  have hlocks := B.notSynchronized
  subst hsz
  have hD := hD0.self (sz := s.heap.size)
  generalize hAe : va_A [] s.heap.size = A at hD hkn ⊢
  have hA : ∀ q : Nat, s.heap.size ≤ q → A q := fun q h => by rw [← hAe]; exact Or.inr h
  have hS : va_S A s.heap s.heap [] := va_S.rf
  have hP : va_P g classes [] s.heap := hP
  have hl := lv_entry ([.ref (ka (300 + j)), .int v, .int from_, .int to_]) (n := 6) (Nat.le_of_ble_eq_true rfl)
  rw [lg_entry_eq]
  generalize (lg_sl ([.ref (ka (300 + j)), .int v, .int from_, .int to_]) ++ List.replicate (6 - (lg_sl ([.ref (ka (300 + j)), .int v, .int from_, .int to_])).length) Slot.unset).toArray = ls at hl ⊢
  have hl : lv_has ls 6 [(0, .ref (ka (300 + j))), (1, .int v), (2, .int from_), (3, .int to_)] := hl
  refine gq (fun Q hQ => ?_)
  obtain ⟨H, hH⟩ : ∃ H : Heap, H = s.heap := ⟨_, rfl⟩
  rw [← hH] at hP
  have hS : va_S A s.heap H [] := by rw [hH]; exact hS
  refine W.eqH hH ?_
  obtain ⟨locs, hlc⟩ : ∃ L : List Loc, L = [] := ⟨_, rfl⟩
  rw [← hlc] at hS ⊢
  unfold p_StringLatin1_indexOfChar at hok
  obtain ⟨hb_j, hok⟩ := ck_some hok
  have hb_j := of_decide_eq_true hb_j
  refine lv_iload_n hx hb d_StringLatin1_indexOfChar_0 rfl (lv_at hl 1 rfl) ?_
  refine lv_i2b hx hb d_StringLatin1_indexOfChar_1 rfl ?_
  refine lv_istore hx hb d_StringLatin1_indexOfChar_2 hl (by decide) rfl (fun ls hl => ?_)
  have hl : lv_has ls 6 [(4, .int v.toInt8.toInt32), (0, .ref (ka (300 + j))), (1, .int v), (2, .int from_), (3, .int to_)] := hl
  refine lv_iload_n hx hb d_StringLatin1_indexOfChar_4 rfl (lv_at hl 3 rfl) ?_
  refine lv_istore hx hb d_StringLatin1_indexOfChar_5 hl (by decide) rfl (fun ls hl => ?_)
  have hl : lv_has ls 6 [(5, .int from_), (4, .int v.toInt8.toInt32), (0, .ref (ka (300 + j))), (1, .int v), (2, .int from_), (3, .int to_)] := hl
  have J1 : ∀ (kf1 : Nat) (H : Heap) (locs : List Loc) (ls : Array Slot) (x5_1 : Int32), lv_has ls 6 [(5, .int x5_1), (4, .int v.toInt8.toInt32), (0, .ref (ka (300 + j))), (1, .int v), (2, .int from_), (3, .int to_)] → PD g A H [] → va_S A s.heap H locs → p_StringLatin1_indexOfChar_7 n j v to_ kf1 x5_1 = some r → W p l e (headSpec (.code y_StringLatin1_indexOfChar b_StringLatin1_indexOfChar 6 (some .int) :: GW) { frames := 0, cells := 0, slots := 0, locals := 0 }).room s m ([.ref (ka (300 + j)), .int v, .int from_, .int to_] : List Value).toArray below meth c H locs 0 0 Q (F0 m 7 ls []) := by
    intro kf1
    induction kf1 with
    | zero => intro H locs ls x5_1 hl ⟨hP, hD⟩ hS hok; rw [p_StringLatin1_indexOfChar_7] at hok; cases hok
    | succ kf1 ih1 =>
      intro H locs ls x5_1 hl ⟨hP, hD⟩ hS hok
      rw [p_StringLatin1_indexOfChar_7] at hok
      refine lv_iload hx hb d_StringLatin1_indexOfChar_7 (lv_at hl 0 rfl) ?_
      refine lv_iload_n hx hb d_StringLatin1_indexOfChar_9 rfl (lv_at hl 5 rfl) ?_
      refine lv_icmp_ge hx hb d_StringLatin1_indexOfChar_10 rfl (fun h2 => ?_) (fun h2 => ?_)
      · rw [if_pos h2] at hok
        refine lv_iconst (v := (-1)) hx hb d_StringLatin1_indexOfChar_31 (by decide) ?_
        have hq := Option.some.inj hok
        have hq0 := hq
        subst hq0
        obtain ⟨hP9, hD9⟩ := sub2 (ws' := []) hP hD [] rfl (by decide) rfl
        rw [hQ]
        exact W.iret (v := (-1)) hx hb hr (fun t ht hW => ⟨⟨_, (), rfl, rfl, by rw [ht]; exact hP9, hD9⟩, hS.F ht⟩) hS.2.2 d_StringLatin1_indexOfChar_32
      · rw [if_neg h2] at hok
        refine lv_aload_n hx hb d_StringLatin1_indexOfChar_13 rfl (lv_at hl 2 rfl) ?_
        refine lv_iload hx hb d_StringLatin1_indexOfChar_14 (lv_at hl 0 rfl) ?_
        obtain ⟨hi3, hok⟩ := ck_some hok
        refine va_tb hx hb (hkn.2.2.2.1 j hb_j).2.2.2 hS (ixb_in hi3) rfl d_StringLatin1_indexOfChar_16 ?_
        refine lv_iload hx hb d_StringLatin1_indexOfChar_17 (lv_at hl 1 rfl) ?_
        refine lv_icmp_ne hx hb d_StringLatin1_indexOfChar_19 rfl (fun h4 => ?_) (fun h4 => ?_)
        · rw [if_neg h4] at hok
          refine lv_iinc (k := 0) (v := x5_1 + 1) hx hb d_StringLatin1_indexOfChar_25 hl rfl rfl (by decide) rfl (fun ls hl => ?_)
          have hl : lv_has ls 6 [(5, .int (x5_1 + 1)), (4, .int v.toInt8.toInt32), (0, .ref (ka (300 + j))), (1, .int v), (2, .int from_), (3, .int to_)] := hl
          refine lv_goto hx hb d_StringLatin1_indexOfChar_28 rfl ?_
          exact ih1 _ _ _ (x5_1 + 1) (lv_sub hl [0, 1, 2, 3, 4, 5] rfl) (sub3 hP hD [] (by decide)) hS hok
        · rw [if_pos h4] at hok
          refine lv_iload hx hb d_StringLatin1_indexOfChar_22 (lv_at hl 0 rfl) ?_
          have hq := Option.some.inj hok
          have hq0 := hq
          subst hq0
          obtain ⟨hP9, hD9⟩ := sub2 (ws' := []) hP hD [] rfl (by decide) rfl
          rw [hQ]
          exact W.iret (v := x5_1) hx hb hr (fun t ht hW => ⟨⟨_, (), rfl, rfl, by rw [ht]; exact hP9, hD9⟩, hS.F ht⟩) hS.2.2 d_StringLatin1_indexOfChar_24
  exact J1 n H locs ls from_ hl ⟨hP, hD⟩ hS hok

theorem d_StringLatin1_indexOf_0 : decode b_StringLatin1_indexOf 0 = .ok (.iload_n 1, 1) := by decide +kernel
theorem d_StringLatin1_indexOf_1 : decode b_StringLatin1_indexOf 1 = .ok (.invokestatic 88, 3) := by decide +kernel
theorem d_StringLatin1_indexOf_4 : decode b_StringLatin1_indexOf 4 = .ok (.ifCond .ne 5, 3) := by decide +kernel
theorem d_StringLatin1_indexOf_7 : decode b_StringLatin1_indexOf 7 = .ok (.iconst (-1), 1) := by decide +kernel
theorem d_StringLatin1_indexOf_8 : decode b_StringLatin1_indexOf 8 = .ok (.ireturn, 1) := by decide +kernel
theorem d_StringLatin1_indexOf_9 : decode b_StringLatin1_indexOf 9 = .ok (.iload_n 2, 1) := by decide +kernel
theorem d_StringLatin1_indexOf_10 : decode b_StringLatin1_indexOf 10 = .ok (.iconst 0, 1) := by decide +kernel
theorem d_StringLatin1_indexOf_11 : decode b_StringLatin1_indexOf 11 = .ok (.invokestatic 92, 3) := by decide +kernel
theorem d_StringLatin1_indexOf_14 : decode b_StringLatin1_indexOf 14 = .ok (.istore_n 2, 1) := by decide +kernel
theorem d_StringLatin1_indexOf_15 : decode b_StringLatin1_indexOf 15 = .ok (.iload_n 3, 1) := by decide +kernel
theorem d_StringLatin1_indexOf_16 : decode b_StringLatin1_indexOf 16 = .ok (.aload_n 0, 1) := by decide +kernel
theorem d_StringLatin1_indexOf_17 : decode b_StringLatin1_indexOf 17 = .ok (.arraylength, 1) := by decide +kernel
theorem d_StringLatin1_indexOf_18 : decode b_StringLatin1_indexOf 18 = .ok (.invokestatic 38, 3) := by decide +kernel
theorem d_StringLatin1_indexOf_21 : decode b_StringLatin1_indexOf 21 = .ok (.istore_n 3, 1) := by decide +kernel
theorem d_StringLatin1_indexOf_22 : decode b_StringLatin1_indexOf 22 = .ok (.iload_n 2, 1) := by decide +kernel
theorem d_StringLatin1_indexOf_23 : decode b_StringLatin1_indexOf 23 = .ok (.iload_n 3, 1) := by decide +kernel
theorem d_StringLatin1_indexOf_24 : decode b_StringLatin1_indexOf 24 = .ok (.if_icmp .lt 5, 3) := by decide +kernel
theorem d_StringLatin1_indexOf_27 : decode b_StringLatin1_indexOf 27 = .ok (.iconst (-1), 1) := by decide +kernel
theorem d_StringLatin1_indexOf_28 : decode b_StringLatin1_indexOf 28 = .ok (.ireturn, 1) := by decide +kernel
theorem d_StringLatin1_indexOf_29 : decode b_StringLatin1_indexOf 29 = .ok (.aload_n 0, 1) := by decide +kernel
theorem d_StringLatin1_indexOf_30 : decode b_StringLatin1_indexOf 30 = .ok (.iload_n 1, 1) := by decide +kernel
theorem d_StringLatin1_indexOf_31 : decode b_StringLatin1_indexOf 31 = .ok (.iload_n 2, 1) := by decide +kernel
theorem d_StringLatin1_indexOf_32 : decode b_StringLatin1_indexOf 32 = .ok (.iload_n 3, 1) := by decide +kernel
theorem d_StringLatin1_indexOf_33 : decode b_StringLatin1_indexOf 33 = .ok (.invokestatic 95, 3) := by decide +kernel
theorem d_StringLatin1_indexOf_36 : decode b_StringLatin1_indexOf 36 = .ok (.ireturn, 1) := by decide +kernel
def p_StringLatin1_indexOf (n : Nat) (j : Nat) (v : Int32) (from_ : Int32) (to_ : Int32) : Option Int32 := ck (decide (j < kn_n)) ((p_StringLatin1_canEncode v).bind (fun r1 => if r1 = 0 then (some ((-1) : Int32)) else (if (if from_ < 0 then 0 else from_) < (if (Int32.ofNat (kn_len.getD j 0)) < to_ then (Int32.ofNat (kn_len.getD j 0)) else to_) then ((p_StringLatin1_indexOfChar n j v (if from_ < 0 then 0 else from_) (if (Int32.ofNat (kn_len.getD j 0)) < to_ then (Int32.ofNat (kn_len.getD j 0)) else to_)).bind (fun r4 => some r4)) else (some ((-1) : Int32)))))
set_option maxHeartbeats 4000000 in
set_option maxRecDepth 100000 in
theorem c_StringLatin1_indexOf (l : Launch) (g : va_G) (cs : Nat → ClassId) (ka : Nat → Nat) (sz : Nat) (n : Nat) (j : Nat) (v : Int32) (from_ : Int32) (to_ : Int32) (r : Int32) (hok : p_StringLatin1_indexOf n j v from_ to_ = some r) : Met l y_StringLatin1_indexOf (.code y_StringLatin1_indexOf b_StringLatin1_indexOf 4 (some .int) :: GW) { frames := 1, cells := 0, slots := 0, locals := 25 } (va_Pc [.ref (ka (300 + j)), .int v, .int from_, .int to_] (gP g cs ka [] sz)) (va_Qi (fun (r' : Int32) (_ : Unit) => r = r') (fun _ t => va_P g classes [] t.heap ∧ va_D (va_A [] sz) []) (va_A [] sz)) 0 0 (va_A [] sz) := by
  refine va_MetF (cc := b_StringLatin1_indexOf) (maxL := 4) (ret := (some .int)) (by decide) rfl ?_
  intro p e s m args below meth c s₁ B hml hv
  obtain ⟨rfl, hsz, hP, hK, hD0, hgl, hkn, hkr⟩ := hv
  have hx := B.exec
  have hb := B.bytes
  have hr := B.returns
  have hg : ∀ w ∈ GW, w.before ([.ref (ka (300 + j)), .int v, .int from_, .int to_] : List Value).toArray s = true := fun w hw => atoms_spec (ws := .code y_StringLatin1_indexOf b_StringLatin1_indexOf 4 (some .int) :: GW) B.pre w (List.mem_cons_of_mem _ hw)
  have hown : s.vm.findClass R_StringLatin1 = some m.cls := findClass_of_methodNamed B.named
  have hlocks := B.notSynchronized
  subst hsz
  have hD := hD0.self (sz := s.heap.size)
  generalize hAe : va_A [] s.heap.size = A at hD hkn ⊢
  have hA : ∀ q : Nat, s.heap.size ≤ q → A q := fun q h => by rw [← hAe]; exact Or.inr h
  have hS : va_S A s.heap s.heap [] := va_S.rf
  have hP : va_P g classes [] s.heap := hP
  have hl := lv_entry ([.ref (ka (300 + j)), .int v, .int from_, .int to_]) (n := 4) (Nat.le_of_ble_eq_true rfl)
  rw [lg_entry_eq]
  generalize (lg_sl ([.ref (ka (300 + j)), .int v, .int from_, .int to_]) ++ List.replicate (4 - (lg_sl ([.ref (ka (300 + j)), .int v, .int from_, .int to_])).length) Slot.unset).toArray = ls at hl ⊢
  have hl : lv_has ls 4 [(0, .ref (ka (300 + j))), (1, .int v), (2, .int from_), (3, .int to_)] := hl
  refine gq (fun Q hQ => ?_)
  obtain ⟨H, hH⟩ : ∃ H : Heap, H = s.heap := ⟨_, rfl⟩
  rw [← hH] at hP
  have hS : va_S A s.heap H [] := by rw [hH]; exact hS
  refine W.eqH hH ?_
  obtain ⟨locs, hlc⟩ : ∃ L : List Loc, L = [] := ⟨_, rfl⟩
  rw [← hlc] at hS ⊢
  unfold p_StringLatin1_indexOf at hok
  obtain ⟨hb_j, hok⟩ := ck_some hok
  have hb_j := of_decide_eq_true hb_j
  refine lv_iload_n hx hb d_StringLatin1_indexOf_0 rfl (lv_at hl 1 rfl) ?_
  obtain ⟨r1, hc1, hok⟩ := bd_some hok
  obtain ⟨hPc, hDc, hFc⟩ := cut0 (wc := []) hP hD hS hA [] (by decide) rfl
  refine va_calli (va_runS (As := [.int v]) (rest := []) ⟨hx, hb, hml, hown, hg⟩ (c_StringLatin1_canEncode l g cs ka H.size v r1 hc1) (va_cwS 1 hg (gw_S wd_185 wd_186 wd_181 wd_184) rfl rfl rfl (by decide +kernel) ⟨Nat.le_of_ble_eq_true rfl, Nat.le_of_ble_eq_true rfl⟩) ⟨gP_blind, gP_pre hPc hDc hK hgl hkn hkr hS hFc⟩ rfl rfl hl.1 rfl (lv_room (Nat.le_of_ble_eq_true rfl)) d_StringLatin1_indexOf_1 ⟨Nat.le_of_ble_eq_true rfl, Nat.le_of_ble_eq_true rfl⟩) hS (fun q _ h => hFc q h) hFc (fun r1' u t H locs ht hvm hr1 hB hz1 hk1 hS => ?_)
  subst hr1
  rw [ht] at hB
  obtain ⟨hP1, hD1⟩ := hB
  obtain ⟨hP, hD⟩ := jn_A hP hD [] [] rfl rfl (by decide) (by decide) hk1 hFc hP1 hD1
  obtain ⟨hP, hD⟩ : PD g A H [] := ⟨hP, hD⟩
  refine lv_if_ne hx hb d_StringLatin1_indexOf_4 rfl (fun h2 => ?_) (fun h2 => ?_)
  · rw [if_neg h2] at hok
    refine lv_iload_n hx hb d_StringLatin1_indexOf_9 rfl (lv_at hl 2 rfl) ?_
    refine lv_iconst (v := 0) hx hb d_StringLatin1_indexOf_10 (by decide) ?_
    refine va_mmax hx hb (hml.trans hl.1.symm) hown (hg _ wd_187) (hg _ wd_188) (hg _ wd_145) (hg _ wd_189) (Nat.le_of_ble_eq_true rfl) (Nat.le_of_ble_eq_true rfl) (Nat.le_of_ble_eq_true rfl) (Nat.le_of_ble_eq_true rfl) d_StringLatin1_indexOf_11 ?_
    refine lv_istore_n hx hb d_StringLatin1_indexOf_14 rfl hl (by decide) rfl (fun ls hl => ?_)
    have hl : lv_has ls 4 [(2, .int (if from_ < 0 then 0 else from_)), (0, .ref (ka (300 + j))), (1, .int v), (3, .int to_)] := hl
    refine lv_iload_n hx hb d_StringLatin1_indexOf_15 rfl (lv_at hl 3 rfl) ?_
    refine lv_aload_n hx hb d_StringLatin1_indexOf_16 rfl (lv_at hl 1 rfl) ?_
    refine va_tlen (v := Int32.ofNat (kn_len.getD j 0)) hx hb (hkn.2.2.2.1 j hb_j).2.2.2 hS rfl d_StringLatin1_indexOf_17 ?_
    refine va_mmin hx hb (hml.trans hl.1.symm) hown (hg _ wd_190) (hg _ wd_144) (hg _ wd_145) (hg _ wd_146) (Nat.le_of_ble_eq_true rfl) (Nat.le_of_ble_eq_true rfl) (Nat.le_of_ble_eq_true rfl) (Nat.le_of_ble_eq_true rfl) d_StringLatin1_indexOf_18 ?_
    refine lv_istore_n hx hb d_StringLatin1_indexOf_21 rfl hl (by decide) rfl (fun ls hl => ?_)
    have hl : lv_has ls 4 [(3, .int (if (Int32.ofNat (kn_len.getD j 0)) < to_ then (Int32.ofNat (kn_len.getD j 0)) else to_)), (2, .int (if from_ < 0 then 0 else from_)), (0, .ref (ka (300 + j))), (1, .int v)] := hl
    refine lv_iload_n hx hb d_StringLatin1_indexOf_22 rfl (lv_at hl 1 rfl) ?_
    refine lv_iload_n hx hb d_StringLatin1_indexOf_23 rfl (lv_at hl 0 rfl) ?_
    refine lv_icmp_lt hx hb d_StringLatin1_indexOf_24 rfl (fun h3 => ?_) (fun h3 => ?_)
    · rw [if_pos h3] at hok
      refine lv_aload_n hx hb d_StringLatin1_indexOf_29 rfl (lv_at hl 2 rfl) ?_
      refine lv_iload_n hx hb d_StringLatin1_indexOf_30 rfl (lv_at hl 3 rfl) ?_
      refine lv_iload_n hx hb d_StringLatin1_indexOf_31 rfl (lv_at hl 1 rfl) ?_
      refine lv_iload_n hx hb d_StringLatin1_indexOf_32 rfl (lv_at hl 0 rfl) ?_
      obtain ⟨r4, hc4, hok⟩ := bd_some hok
      obtain ⟨hPc, hDc, hFc⟩ := cut0 (wc := []) hP hD hS hA [] (by decide) rfl
      refine va_calli (va_runS (As := [.ref (ka (300 + j)), .int v, .int (if from_ < 0 then 0 else from_), .int (if (Int32.ofNat (kn_len.getD j 0)) < to_ then (Int32.ofNat (kn_len.getD j 0)) else to_)]) (rest := []) ⟨hx, hb, hml, hown, hg⟩ (c_StringLatin1_indexOfChar l g cs ka H.size n j v (if from_ < 0 then 0 else from_) (if (Int32.ofNat (kn_len.getD j 0)) < to_ then (Int32.ofNat (kn_len.getD j 0)) else to_) r4 hc4) (va_cwS 4 hg (gw_S wd_192 wd_193 wd_181 wd_191) rfl rfl rfl (by decide +kernel) ⟨Nat.le_of_ble_eq_true rfl, Nat.le_of_ble_eq_true rfl⟩) ⟨gP_blind, gP_pre hPc hDc hK hgl hkn hkr hS hFc⟩ rfl rfl hl.1 rfl (lv_room (Nat.le_of_ble_eq_true rfl)) d_StringLatin1_indexOf_33 ⟨Nat.le_of_ble_eq_true rfl, Nat.le_of_ble_eq_true rfl⟩) hS (fun q _ h => hFc q h) hFc (fun r4' u t H locs ht hvm hr4 hB hz1 hk1 hS => ?_)
      subst hr4
      rw [ht] at hB
      obtain ⟨hP1, hD1⟩ := hB
      obtain ⟨hP, hD⟩ := jn_A hP hD [] [] rfl rfl (by decide) (by decide) hk1 hFc hP1 hD1
      obtain ⟨hP, hD⟩ : PD g A H [] := ⟨hP, hD⟩
      have hq := Option.some.inj hok
      have hq0 := hq
      subst hq0
      obtain ⟨hP9, hD9⟩ := sub2 (ws' := []) hP hD [] rfl (by decide) rfl
      rw [hQ]
      exact W.iret (v := r4) hx hb hr (fun t ht hW => ⟨⟨_, (), rfl, rfl, by rw [ht]; exact hP9, hD9⟩, hS.F ht⟩) hS.2.2 d_StringLatin1_indexOf_36
    · rw [if_neg h3] at hok
      refine lv_iconst (v := (-1)) hx hb d_StringLatin1_indexOf_27 (by decide) ?_
      have hq := Option.some.inj hok
      have hq0 := hq
      subst hq0
      obtain ⟨hP9, hD9⟩ := sub2 (ws' := []) hP hD [] rfl (by decide) rfl
      rw [hQ]
      exact W.iret (v := (-1)) hx hb hr (fun t ht hW => ⟨⟨_, (), rfl, rfl, by rw [ht]; exact hP9, hD9⟩, hS.F ht⟩) hS.2.2 d_StringLatin1_indexOf_28
  · rw [if_pos h2] at hok
    refine lv_iconst (v := (-1)) hx hb d_StringLatin1_indexOf_7 (by decide) ?_
    have hq := Option.some.inj hok
    have hq0 := hq
    subst hq0
    obtain ⟨hP9, hD9⟩ := sub2 (ws' := []) hP hD [] rfl (by decide) rfl
    rw [hQ]
    exact W.iret (v := (-1)) hx hb hr (fun t ht hW => ⟨⟨_, (), rfl, rfl, by rw [ht]; exact hP9, hD9⟩, hS.F ht⟩) hS.2.2 d_StringLatin1_indexOf_8

theorem d_String_indexOf_II_0 : decode b_String_indexOf_II 0 = .ok (.aload_n 0, 1) := by decide +kernel
theorem d_String_indexOf_II_1 : decode b_String_indexOf_II 1 = .ok (.invokevirtual 492, 3) := by decide +kernel
theorem d_String_indexOf_II_4 : decode b_String_indexOf_II 4 = .ok (.ifCond .eq 19, 3) := by decide +kernel
theorem d_String_indexOf_II_7 : decode b_String_indexOf_II 7 = .ok (.aload_n 0, 1) := by decide +kernel
theorem d_String_indexOf_II_8 : decode b_String_indexOf_II 8 = .ok (.getfield 9, 3) := by decide +kernel
theorem d_String_indexOf_II_11 : decode b_String_indexOf_II 11 = .ok (.iload_n 1, 1) := by decide +kernel
theorem d_String_indexOf_II_12 : decode b_String_indexOf_II 12 = .ok (.iload_n 2, 1) := by decide +kernel
theorem d_String_indexOf_II_13 : decode b_String_indexOf_II 13 = .ok (.aload_n 0, 1) := by decide +kernel
theorem d_String_indexOf_II_14 : decode b_String_indexOf_II 14 = .ok (.invokevirtual 505, 3) := by decide +kernel
theorem d_String_indexOf_II_17 : decode b_String_indexOf_II 17 = .ok (.invokestatic 637, 3) := by decide +kernel
theorem d_String_indexOf_II_20 : decode b_String_indexOf_II 20 = .ok (.goto 16, 3) := by decide +kernel
theorem d_String_indexOf_II_36 : decode b_String_indexOf_II 36 = .ok (.ireturn, 1) := by decide +kernel
def p_String_indexOf_II (n : Nat) (j : Nat) (v : Int32) (from_ : Int32) : Option Int32 := ck (decide (j < kn_n)) ((p_String_isLatin1 j).bind (fun r1 => if r1 = 0 then (none) else ((p_String_length j).bind (fun r3 => (p_StringLatin1_indexOf n j v from_ r3).bind (fun r4 => some r4)))))
set_option maxHeartbeats 4000000 in
set_option maxRecDepth 100000 in
theorem c_String_indexOf_II (l : Launch) (g : va_G) (cs : Nat → ClassId) (ka : Nat → Nat) (sz : Nat) (n : Nat) (j : Nat) (v : Int32) (from_ : Int32) (r : Int32) (hok : p_String_indexOf_II n j v from_ = some r) : Met l y_String_indexOf_II (.code y_String_indexOf_II b_String_indexOf_II 3 (some .int) :: GW) { frames := 2, cells := 0, slots := 0, locals := 48 } (va_Pc [.ref (ka (200 + j)), .int v, .int from_] (gP g cs ka [] sz)) (va_Qi (fun (r' : Int32) (_ : Unit) => r = r') (fun _ t => va_P g classes [] t.heap ∧ va_D (va_A [] sz) []) (va_A [] sz)) 0 0 (va_A [] sz) := by
  refine va_MetF (cc := b_String_indexOf_II) (maxL := 3) (ret := (some .int)) (by decide) rfl ?_
  intro p e s m args below meth c s₁ B hml hv
  obtain ⟨rfl, hsz, hP, hK, hD0, hgl, hkn, hkr⟩ := hv
  have hx := B.exec
  have hb := B.bytes
  have hr := B.returns
  have hg : ∀ w ∈ GW, w.before ([.ref (ka (200 + j)), .int v, .int from_] : List Value).toArray s = true := fun w hw => atoms_spec (ws := .code y_String_indexOf_II b_String_indexOf_II 3 (some .int) :: GW) B.pre w (List.mem_cons_of_mem _ hw)
  have hown : s.vm.findClass R_String = some m.cls := findClass_of_methodNamed B.named
  have hlocks := B.notSynchronized
  subst hsz
  have hD := hD0.self (sz := s.heap.size)
  generalize hAe : va_A [] s.heap.size = A at hD hkn ⊢
  have hA : ∀ q : Nat, s.heap.size ≤ q → A q := fun q h => by rw [← hAe]; exact Or.inr h
  have hS : va_S A s.heap s.heap [] := va_S.rf
  have hP : va_P g classes [] s.heap := hP
  have hl := lv_entry ([.ref (ka (200 + j)), .int v, .int from_]) (n := 3) (Nat.le_of_ble_eq_true rfl)
  rw [lg_entry_eq]
  generalize (lg_sl ([.ref (ka (200 + j)), .int v, .int from_]) ++ List.replicate (3 - (lg_sl ([.ref (ka (200 + j)), .int v, .int from_])).length) Slot.unset).toArray = ls at hl ⊢
  have hl : lv_has ls 3 [(0, .ref (ka (200 + j))), (1, .int v), (2, .int from_)] := hl
  refine gq (fun Q hQ => ?_)
  obtain ⟨H, hH⟩ : ∃ H : Heap, H = s.heap := ⟨_, rfl⟩
  rw [← hH] at hP
  have hS : va_S A s.heap H [] := by rw [hH]; exact hS
  refine W.eqH hH ?_
  obtain ⟨locs, hlc⟩ : ∃ L : List Loc, L = [] := ⟨_, rfl⟩
  rw [← hlc] at hS ⊢
  unfold p_String_indexOf_II at hok
  obtain ⟨hb_j, hok⟩ := ck_some hok
  have hb_j := of_decide_eq_true hb_j
  refine lv_aload_n hx hb d_String_indexOf_II_0 rfl (lv_at hl 0 rfl) ?_
  obtain ⟨r1, hc1, hok⟩ := bd_some hok
  obtain ⟨hPc, hDc, hFc⟩ := cut0 (wc := []) hP hD hS hA [] (by decide) rfl
  refine va_calli (va_runV (As := []) (rest := []) ⟨hx, hb, hml, hown, hg⟩ (c_String_isLatin1 l g cs ka H.size j r1 hc1) (cwV (C := "java/lang/String") 0 hg (gw_V wd_177 wd_178 wd_179 wd_164 wd_176) rfl rfl rfl (by decide +kernel) ⟨Nat.le_of_ble_eq_true rfl, Nat.le_of_ble_eq_true rfl⟩) ⟨gP_blind, kn_recv hkn hb_j hS, gP_pre hPc hDc hK hgl hkn hkr hS hFc⟩ rfl rfl hl.1 rfl (lv_room (Nat.le_of_ble_eq_true rfl)) d_String_indexOf_II_1 ⟨Nat.le_of_ble_eq_true rfl, Nat.le_of_ble_eq_true rfl⟩) hS (fun q _ h => hFc q h) hFc (fun r1' u t H locs ht hvm hr1 hB hz1 hk1 hS => ?_)
  subst hr1
  rw [ht] at hB
  obtain ⟨hP1, hD1⟩ := hB
  obtain ⟨hP, hD⟩ := jn_A hP hD [] [] rfl rfl (by decide) (by decide) hk1 hFc hP1 hD1
  obtain ⟨hP, hD⟩ : PD g A H [] := ⟨hP, hD⟩
  refine lv_if_eq hx hb d_String_indexOf_II_4 rfl (fun h2 => ?_) (fun h2 => ?_)
  · rw [if_pos h2] at hok
    cases hok
  · rw [if_neg h2] at hok
    refine lv_aload_n hx hb d_String_indexOf_II_7 rfl (lv_at hl 0 rfl) ?_
    refine vk_getf hx hb (hkn.2.2.2.1 j hb_j).2.2.1 hS hown (hg _ wd_162) (fun _ h9 => h9) d_String_indexOf_II_8 ?_
    refine lv_iload_n hx hb d_String_indexOf_II_11 rfl (lv_at hl 1 rfl) ?_
    refine lv_iload_n hx hb d_String_indexOf_II_12 rfl (lv_at hl 2 rfl) ?_
    refine lv_aload_n hx hb d_String_indexOf_II_13 rfl (lv_at hl 0 rfl) ?_
    obtain ⟨r3, hc3, hok⟩ := bd_some hok
    obtain ⟨hPc, hDc, hFc⟩ := cut0 (wc := []) hP hD hS hA [] (by decide) rfl
    refine va_calli (va_runV (As := []) (rest := [.int from_, .int v, .ref (ka (300 + j))]) ⟨hx, hb, hml, hown, hg⟩ (c_String_length l g cs ka H.size j r3 hc3) (cwV (C := "java/lang/String") 0 hg (gw_V wd_195 wd_196 wd_197 wd_164 wd_194) rfl rfl rfl (by decide +kernel) ⟨Nat.le_of_ble_eq_true rfl, Nat.le_of_ble_eq_true rfl⟩) ⟨gP_blind, kn_recv hkn hb_j hS, gP_pre hPc hDc hK hgl hkn hkr hS hFc⟩ rfl rfl hl.1 rfl (lv_room (Nat.le_of_ble_eq_true rfl)) d_String_indexOf_II_14 ⟨Nat.le_of_ble_eq_true rfl, Nat.le_of_ble_eq_true rfl⟩) hS (fun q _ h => hFc q h) hFc (fun r3' u t H locs ht hvm hr3 hB hz1 hk1 hS => ?_)
    subst hr3
    rw [ht] at hB
    obtain ⟨hP1, hD1⟩ := hB
    obtain ⟨hP, hD⟩ := jn_A hP hD [] [] rfl rfl (by decide) (by decide) hk1 hFc hP1 hD1
    obtain ⟨hP, hD⟩ : PD g A H [] := ⟨hP, hD⟩
    obtain ⟨r4, hc4, hok⟩ := bd_some hok
    obtain ⟨hPc, hDc, hFc⟩ := cut0 (wc := []) hP hD hS hA [] (by decide) rfl
    refine va_calli (va_runS (As := [.ref (ka (300 + j)), .int v, .int from_, .int r3]) (rest := []) ⟨hx, hb, hml, hown, hg⟩ (c_StringLatin1_indexOf l g cs ka H.size n j v from_ r3 r4 hc4) (va_cwS 4 hg (gw_S wd_199 wd_200 wd_181 wd_198) rfl rfl rfl (by decide +kernel) ⟨Nat.le_of_ble_eq_true rfl, Nat.le_of_ble_eq_true rfl⟩) ⟨gP_blind, gP_pre hPc hDc hK hgl hkn hkr hS hFc⟩ rfl rfl hl.1 rfl (lv_room (Nat.le_of_ble_eq_true rfl)) d_String_indexOf_II_17 ⟨Nat.le_of_ble_eq_true rfl, Nat.le_of_ble_eq_true rfl⟩) hS (fun q _ h => hFc q h) hFc (fun r4' u t H locs ht hvm hr4 hB hz1 hk1 hS => ?_)
    subst hr4
    rw [ht] at hB
    obtain ⟨hP1, hD1⟩ := hB
    obtain ⟨hP, hD⟩ := jn_A hP hD [] [] rfl rfl (by decide) (by decide) hk1 hFc hP1 hD1
    obtain ⟨hP, hD⟩ : PD g A H [] := ⟨hP, hD⟩
    refine lv_goto hx hb d_String_indexOf_II_20 rfl ?_
    have hq := Option.some.inj hok
    have hq0 := hq
    subst hq0
    obtain ⟨hP9, hD9⟩ := sub2 (ws' := []) hP hD [] rfl (by decide) rfl
    rw [hQ]
    exact W.iret (v := r4) hx hb hr (fun t ht hW => ⟨⟨_, (), rfl, rfl, by rw [ht]; exact hP9, hD9⟩, hS.F ht⟩) hS.2.2 d_String_indexOf_II_36

theorem d_String_indexOf_I_0 : decode b_String_indexOf_I 0 = .ok (.aload_n 0, 1) := by decide +kernel
theorem d_String_indexOf_I_1 : decode b_String_indexOf_I 1 = .ok (.iload_n 1, 1) := by decide +kernel
theorem d_String_indexOf_I_2 : decode b_String_indexOf_I 2 = .ok (.iconst 0, 1) := by decide +kernel
theorem d_String_indexOf_I_3 : decode b_String_indexOf_I 3 = .ok (.invokevirtual 633, 3) := by decide +kernel
theorem d_String_indexOf_I_6 : decode b_String_indexOf_I 6 = .ok (.ireturn, 1) := by decide +kernel
def p_String_indexOf_I (n : Nat) (j : Nat) (v : Int32) : Option Int32 := ck (decide (j < kn_n)) ((p_String_indexOf_II n j v (0 : Int32)).bind (fun r1 => some r1))
set_option maxHeartbeats 4000000 in
set_option maxRecDepth 100000 in
theorem c_String_indexOf_I (l : Launch) (g : va_G) (cs : Nat → ClassId) (ka : Nat → Nat) (sz : Nat) (n : Nat) (j : Nat) (v : Int32) (r : Int32) (hok : p_String_indexOf_I n j v = some r) : Met l y_String_indexOf_I (.code y_String_indexOf_I b_String_indexOf_I 2 (some .int) :: GW) { frames := 3, cells := 0, slots := 0, locals := 70 } (va_Pc [.ref (ka (200 + j)), .int v] (gP g cs ka [] sz)) (va_Qi (fun (r' : Int32) (_ : Unit) => r = r') (fun _ t => va_P g classes [] t.heap ∧ va_D (va_A [] sz) []) (va_A [] sz)) 0 0 (va_A [] sz) := by
  refine va_MetF (cc := b_String_indexOf_I) (maxL := 2) (ret := (some .int)) (by decide) rfl ?_
  intro p e s m args below meth c s₁ B hml hv
  obtain ⟨rfl, hsz, hP, hK, hD0, hgl, hkn, hkr⟩ := hv
  have hx := B.exec
  have hb := B.bytes
  have hr := B.returns
  have hg : ∀ w ∈ GW, w.before ([.ref (ka (200 + j)), .int v] : List Value).toArray s = true := fun w hw => atoms_spec (ws := .code y_String_indexOf_I b_String_indexOf_I 2 (some .int) :: GW) B.pre w (List.mem_cons_of_mem _ hw)
  have hown : s.vm.findClass R_String = some m.cls := findClass_of_methodNamed B.named
  have hlocks := B.notSynchronized
  subst hsz
  have hD := hD0.self (sz := s.heap.size)
  generalize hAe : va_A [] s.heap.size = A at hD hkn ⊢
  have hA : ∀ q : Nat, s.heap.size ≤ q → A q := fun q h => by rw [← hAe]; exact Or.inr h
  have hS : va_S A s.heap s.heap [] := va_S.rf
  have hP : va_P g classes [] s.heap := hP
  have hl := lv_entry ([.ref (ka (200 + j)), .int v]) (n := 2) (Nat.le_of_ble_eq_true rfl)
  rw [lg_entry_eq]
  generalize (lg_sl ([.ref (ka (200 + j)), .int v]) ++ List.replicate (2 - (lg_sl ([.ref (ka (200 + j)), .int v])).length) Slot.unset).toArray = ls at hl ⊢
  have hl : lv_has ls 2 [(0, .ref (ka (200 + j))), (1, .int v)] := hl
  refine gq (fun Q hQ => ?_)
  obtain ⟨H, hH⟩ : ∃ H : Heap, H = s.heap := ⟨_, rfl⟩
  rw [← hH] at hP
  have hS : va_S A s.heap H [] := by rw [hH]; exact hS
  refine W.eqH hH ?_
  obtain ⟨locs, hlc⟩ : ∃ L : List Loc, L = [] := ⟨_, rfl⟩
  rw [← hlc] at hS ⊢
  unfold p_String_indexOf_I at hok
  obtain ⟨hb_j, hok⟩ := ck_some hok
  have hb_j := of_decide_eq_true hb_j
  refine lv_aload_n hx hb d_String_indexOf_I_0 rfl (lv_at hl 0 rfl) ?_
  refine lv_iload_n hx hb d_String_indexOf_I_1 rfl (lv_at hl 1 rfl) ?_
  refine lv_iconst (v := 0) hx hb d_String_indexOf_I_2 (by decide) ?_
  obtain ⟨r1, hc1, hok⟩ := bd_some hok
  obtain ⟨hPc, hDc, hFc⟩ := cut0 (wc := []) hP hD hS hA [] (by decide) rfl
  refine va_calli (va_runV (As := [.int v, .int 0]) (rest := []) ⟨hx, hb, hml, hown, hg⟩ (c_String_indexOf_II l g cs ka H.size n j v (0 : Int32) r1 hc1) (cwV (C := "java/lang/String") 2 hg (gw_V wd_202 wd_203 wd_204 wd_164 wd_201) rfl rfl rfl (by decide +kernel) ⟨Nat.le_of_ble_eq_true rfl, Nat.le_of_ble_eq_true rfl⟩) ⟨gP_blind, kn_recv hkn hb_j hS, gP_pre hPc hDc hK hgl hkn hkr hS hFc⟩ rfl rfl hl.1 rfl (lv_room (Nat.le_of_ble_eq_true rfl)) d_String_indexOf_I_3 ⟨Nat.le_of_ble_eq_true rfl, Nat.le_of_ble_eq_true rfl⟩) hS (fun q _ h => hFc q h) hFc (fun r1' u t H locs ht hvm hr1 hB hz1 hk1 hS => ?_)
  subst hr1
  rw [ht] at hB
  obtain ⟨hP1, hD1⟩ := hB
  obtain ⟨hP, hD⟩ := jn_A hP hD [] [] rfl rfl (by decide) (by decide) hk1 hFc hP1 hD1
  obtain ⟨hP, hD⟩ : PD g A H [] := ⟨hP, hD⟩
  have hq := Option.some.inj hok
  have hq0 := hq
  subst hq0
  obtain ⟨hP9, hD9⟩ := sub2 (ws' := []) hP hD [] rfl (by decide) rfl
  rw [hQ]
  exact W.iret (v := r1) hx hb hr (fun t ht hW => ⟨⟨_, (), rfl, rfl, by rw [ht]; exact hP9, hD9⟩, hS.F ht⟩) hS.2.2 d_String_indexOf_I_6

theorem d_Letters_isSymbol_0 : decode b_Letters_isSymbol 0 = .ok (.ldc 19, 2) := by decide +kernel
theorem d_Letters_isSymbol_2 : decode b_Letters_isSymbol 2 = .ok (.iload_n 0, 1) := by decide +kernel
theorem d_Letters_isSymbol_3 : decode b_Letters_isSymbol 3 = .ok (.i2c, 1) := by decide +kernel
theorem d_Letters_isSymbol_4 : decode b_Letters_isSymbol 4 = .ok (.invokevirtual 21, 3) := by decide +kernel
theorem d_Letters_isSymbol_7 : decode b_Letters_isSymbol 7 = .ok (.ifCond .lt 7, 3) := by decide +kernel
theorem d_Letters_isSymbol_10 : decode b_Letters_isSymbol 10 = .ok (.iconst 1, 1) := by decide +kernel
theorem d_Letters_isSymbol_11 : decode b_Letters_isSymbol 11 = .ok (.goto 4, 3) := by decide +kernel
theorem d_Letters_isSymbol_14 : decode b_Letters_isSymbol 14 = .ok (.iconst 0, 1) := by decide +kernel
theorem d_Letters_isSymbol_15 : decode b_Letters_isSymbol 15 = .ok (.ireturn, 1) := by decide +kernel
def p_Letters_isSymbol (n : Nat) (c0 : Int32) : Option Int32 := (p_String_indexOf_I n 0 ((c0.toUInt32 % 65536).toInt32)).bind (fun r1 => if r1 < 0 then (some (0 : Int32)) else (some (1 : Int32)))
set_option maxHeartbeats 4000000 in
set_option maxRecDepth 100000 in
theorem c_Letters_isSymbol (l : Launch) (g : va_G) (cs : Nat → ClassId) (ka : Nat → Nat) (sz : Nat) (n : Nat) (c0 : Int32) (r : Int32) (hok : p_Letters_isSymbol n c0 = some r) : Met l y_Letters_isSymbol (.code y_Letters_isSymbol b_Letters_isSymbol 1 (some .boolean) :: GW) { frames := 4, cells := 0, slots := 0, locals := 91 } (va_Pc [.int c0] (gP g cs ka [] sz)) (va_Qi (fun (r' : Int32) (_ : Unit) => r = r') (fun _ t => va_P g classes [] t.heap ∧ va_D (va_A [] sz) []) (va_A [] sz)) 0 0 (va_A [] sz) := by
  refine Met.ofW (cc := b_Letters_isSymbol) (maxL := 1) (ret := (some .boolean)) (by decide) rfl ?_
  intro p e s m args below meth c s₁ B hml hv
  obtain ⟨rfl, hsz, hP, hK, hD0, hgl, hkn, hkr⟩ := hv
  have hx := B.exec
  have hb := B.bytes
  have hr := B.returns
  have hg : ∀ w ∈ GW, w.before ([.int c0] : List Value).toArray s = true := fun w hw => atoms_spec (ws := .code y_Letters_isSymbol b_Letters_isSymbol 1 (some .boolean) :: GW) B.pre w (List.mem_cons_of_mem _ hw)
  have hown : s.vm.findClass R_Letters = some m.cls := findClass_of_methodNamed B.named
  have hlocks := B.notSynchronized
  subst hsz
  have hD := hD0.self (sz := s.heap.size)
  generalize hAe : va_A [] s.heap.size = A at hD hkn ⊢
  have hA : ∀ q : Nat, s.heap.size ≤ q → A q := fun q h => by rw [← hAe]; exact Or.inr h
  have hS : va_S A s.heap s.heap [] := va_S.rf
  have hP : va_P g classes [] s.heap := hP
  have hl := lv_entry ([.int c0]) (n := 1) (Nat.le_of_ble_eq_true rfl)
  rw [lg_entry_eq]
  generalize (lg_sl ([.int c0]) ++ List.replicate (1 - (lg_sl ([.int c0])).length) Slot.unset).toArray = ls at hl ⊢
  have hl : lv_has ls 1 [(0, .int c0)] := hl
  refine gq (fun Q hQ => ?_)
  obtain ⟨H, hH⟩ : ∃ H : Heap, H = s.heap := ⟨_, rfl⟩
  rw [← hH] at hP
  have hS : va_S A s.heap H [] := by rw [hH]; exact hS
  refine W.eqH hH ?_
  obtain ⟨locs, hlc⟩ : ∃ L : List Loc, L = [] := ⟨_, rfl⟩
  rw [← hlc] at hS ⊢
  unfold p_Letters_isSymbol at hok
  refine va_ldcS hx hb hown (hkr.1 ("UnifyBench$Letters", 19, "+-*/\\^<>=~:.?@#&$", 0) (by decide +kernel)) d_Letters_isSymbol_0 ?_
  refine lv_iload_n hx hb d_Letters_isSymbol_2 rfl (lv_at hl 0 rfl) ?_
  refine lv_i2c hx hb d_Letters_isSymbol_3 rfl ?_
  obtain ⟨r1, hc1, hok⟩ := bd_some hok
  obtain ⟨hPc, hDc, hFc⟩ := cut0 (wc := []) hP hD hS hA [] (by decide) rfl
  refine va_calli (va_runV (As := [.int ((c0.toUInt32 % 65536).toInt32)]) (rest := []) ⟨hx, hb, hml, hown, hg⟩ (c_String_indexOf_I l g cs ka H.size n 0 ((c0.toUInt32 % 65536).toInt32) r1 hc1) (cwV (C := "java/lang/String") 1 hg (gw_V wd_206 wd_207 wd_208 wd_164 wd_205) rfl rfl rfl (by decide +kernel) ⟨Nat.le_of_ble_eq_true rfl, Nat.le_of_ble_eq_true rfl⟩) ⟨gP_blind, kn_recv hkn (by decide) hS, gP_pre hPc hDc hK hgl hkn hkr hS hFc⟩ rfl rfl hl.1 rfl (lv_room (Nat.le_of_ble_eq_true rfl)) d_Letters_isSymbol_4 ⟨Nat.le_of_ble_eq_true rfl, Nat.le_of_ble_eq_true rfl⟩) hS (fun q _ h => hFc q h) hFc (fun r1' u t H locs ht hvm hr1 hB hz1 hk1 hS => ?_)
  subst hr1
  rw [ht] at hB
  obtain ⟨hP1, hD1⟩ := hB
  obtain ⟨hP, hD⟩ := jn_A hP hD [] [] rfl rfl (by decide) (by decide) hk1 hFc hP1 hD1
  obtain ⟨hP, hD⟩ : PD g A H [] := ⟨hP, hD⟩
  refine lv_if_lt hx hb d_Letters_isSymbol_7 rfl (fun h2 => ?_) (fun h2 => ?_)
  · rw [if_pos h2] at hok
    refine lv_iconst (v := 0) hx hb d_Letters_isSymbol_14 (by decide) ?_
    have hq := Option.some.inj hok
    have hq0 := hq
    subst hq0
    obtain ⟨hP9, hD9⟩ := sub2 (ws' := []) hP hD [] rfl (by decide) rfl
    rw [hQ]
    exact W.zret (v := 0) hx hb hr rfl (fun t ht hW => ⟨⟨_, (), rfl, rfl, by rw [ht]; exact hP9, hD9⟩, hS.F ht⟩) hS.2.2 d_Letters_isSymbol_15
  · rw [if_neg h2] at hok
    refine lv_iconst (v := 1) hx hb d_Letters_isSymbol_10 (by decide) ?_
    refine lv_goto hx hb d_Letters_isSymbol_11 rfl ?_
    have hq := Option.some.inj hok
    have hq0 := hq
    subst hq0
    obtain ⟨hP9, hD9⟩ := sub2 (ws' := []) hP hD [] rfl (by decide) rfl
    rw [hQ]
    exact W.zret (v := 1) hx hb hr rfl (fun t ht hW => ⟨⟨_, (), rfl, rfl, by rw [ht]; exact hP9, hD9⟩, hS.F ht⟩) hS.2.2 d_Letters_isSymbol_15

theorem d_Letters_isMark_0 : decode b_Letters_isMark 0 = .ok (.ldc 27, 2) := by decide +kernel
theorem d_Letters_isMark_2 : decode b_Letters_isMark 2 = .ok (.iload_n 0, 1) := by decide +kernel
theorem d_Letters_isMark_3 : decode b_Letters_isMark 3 = .ok (.i2c, 1) := by decide +kernel
theorem d_Letters_isMark_4 : decode b_Letters_isMark 4 = .ok (.invokevirtual 21, 3) := by decide +kernel
theorem d_Letters_isMark_7 : decode b_Letters_isMark 7 = .ok (.ifCond .lt 7, 3) := by decide +kernel
theorem d_Letters_isMark_10 : decode b_Letters_isMark 10 = .ok (.iconst 1, 1) := by decide +kernel
theorem d_Letters_isMark_11 : decode b_Letters_isMark 11 = .ok (.goto 4, 3) := by decide +kernel
theorem d_Letters_isMark_14 : decode b_Letters_isMark 14 = .ok (.iconst 0, 1) := by decide +kernel
theorem d_Letters_isMark_15 : decode b_Letters_isMark 15 = .ok (.ireturn, 1) := by decide +kernel
def p_Letters_isMark (n : Nat) (c0 : Int32) : Option Int32 := (p_String_indexOf_I n 1 ((c0.toUInt32 % 65536).toInt32)).bind (fun r1 => if r1 < 0 then (some (0 : Int32)) else (some (1 : Int32)))
set_option maxHeartbeats 4000000 in
set_option maxRecDepth 100000 in
theorem c_Letters_isMark (l : Launch) (g : va_G) (cs : Nat → ClassId) (ka : Nat → Nat) (sz : Nat) (n : Nat) (c0 : Int32) (r : Int32) (hok : p_Letters_isMark n c0 = some r) : Met l y_Letters_isMark (.code y_Letters_isMark b_Letters_isMark 1 (some .boolean) :: GW) { frames := 4, cells := 0, slots := 0, locals := 91 } (va_Pc [.int c0] (gP g cs ka [] sz)) (va_Qi (fun (r' : Int32) (_ : Unit) => r = r') (fun _ t => va_P g classes [] t.heap ∧ va_D (va_A [] sz) []) (va_A [] sz)) 0 0 (va_A [] sz) := by
  refine Met.ofW (cc := b_Letters_isMark) (maxL := 1) (ret := (some .boolean)) (by decide) rfl ?_
  intro p e s m args below meth c s₁ B hml hv
  obtain ⟨rfl, hsz, hP, hK, hD0, hgl, hkn, hkr⟩ := hv
  have hx := B.exec
  have hb := B.bytes
  have hr := B.returns
  have hg : ∀ w ∈ GW, w.before ([.int c0] : List Value).toArray s = true := fun w hw => atoms_spec (ws := .code y_Letters_isMark b_Letters_isMark 1 (some .boolean) :: GW) B.pre w (List.mem_cons_of_mem _ hw)
  have hown : s.vm.findClass R_Letters = some m.cls := findClass_of_methodNamed B.named
  have hlocks := B.notSynchronized
  subst hsz
  have hD := hD0.self (sz := s.heap.size)
  generalize hAe : va_A [] s.heap.size = A at hD hkn ⊢
  have hA : ∀ q : Nat, s.heap.size ≤ q → A q := fun q h => by rw [← hAe]; exact Or.inr h
  have hS : va_S A s.heap s.heap [] := va_S.rf
  have hP : va_P g classes [] s.heap := hP
  have hl := lv_entry ([.int c0]) (n := 1) (Nat.le_of_ble_eq_true rfl)
  rw [lg_entry_eq]
  generalize (lg_sl ([.int c0]) ++ List.replicate (1 - (lg_sl ([.int c0])).length) Slot.unset).toArray = ls at hl ⊢
  have hl : lv_has ls 1 [(0, .int c0)] := hl
  refine gq (fun Q hQ => ?_)
  obtain ⟨H, hH⟩ : ∃ H : Heap, H = s.heap := ⟨_, rfl⟩
  rw [← hH] at hP
  have hS : va_S A s.heap H [] := by rw [hH]; exact hS
  refine W.eqH hH ?_
  obtain ⟨locs, hlc⟩ : ∃ L : List Loc, L = [] := ⟨_, rfl⟩
  rw [← hlc] at hS ⊢
  unfold p_Letters_isMark at hok
  refine va_ldcS hx hb hown (hkr.1 ("UnifyBench$Letters", 27, "()[]{},|", 1) (by decide +kernel)) d_Letters_isMark_0 ?_
  refine lv_iload_n hx hb d_Letters_isMark_2 rfl (lv_at hl 0 rfl) ?_
  refine lv_i2c hx hb d_Letters_isMark_3 rfl ?_
  obtain ⟨r1, hc1, hok⟩ := bd_some hok
  obtain ⟨hPc, hDc, hFc⟩ := cut0 (wc := []) hP hD hS hA [] (by decide) rfl
  refine va_calli (va_runV (As := [.int ((c0.toUInt32 % 65536).toInt32)]) (rest := []) ⟨hx, hb, hml, hown, hg⟩ (c_String_indexOf_I l g cs ka H.size n 1 ((c0.toUInt32 % 65536).toInt32) r1 hc1) (cwV (C := "java/lang/String") 1 hg (gw_V wd_206 wd_207 wd_208 wd_164 wd_205) rfl rfl rfl (by decide +kernel) ⟨Nat.le_of_ble_eq_true rfl, Nat.le_of_ble_eq_true rfl⟩) ⟨gP_blind, kn_recv hkn (by decide) hS, gP_pre hPc hDc hK hgl hkn hkr hS hFc⟩ rfl rfl hl.1 rfl (lv_room (Nat.le_of_ble_eq_true rfl)) d_Letters_isMark_4 ⟨Nat.le_of_ble_eq_true rfl, Nat.le_of_ble_eq_true rfl⟩) hS (fun q _ h => hFc q h) hFc (fun r1' u t H locs ht hvm hr1 hB hz1 hk1 hS => ?_)
  subst hr1
  rw [ht] at hB
  obtain ⟨hP1, hD1⟩ := hB
  obtain ⟨hP, hD⟩ := jn_A hP hD [] [] rfl rfl (by decide) (by decide) hk1 hFc hP1 hD1
  obtain ⟨hP, hD⟩ : PD g A H [] := ⟨hP, hD⟩
  refine lv_if_lt hx hb d_Letters_isMark_7 rfl (fun h2 => ?_) (fun h2 => ?_)
  · rw [if_pos h2] at hok
    refine lv_iconst (v := 0) hx hb d_Letters_isMark_14 (by decide) ?_
    have hq := Option.some.inj hok
    have hq0 := hq
    subst hq0
    obtain ⟨hP9, hD9⟩ := sub2 (ws' := []) hP hD [] rfl (by decide) rfl
    rw [hQ]
    exact W.zret (v := 0) hx hb hr rfl (fun t ht hW => ⟨⟨_, (), rfl, rfl, by rw [ht]; exact hP9, hD9⟩, hS.F ht⟩) hS.2.2 d_Letters_isMark_15
  · rw [if_neg h2] at hok
    refine lv_iconst (v := 1) hx hb d_Letters_isMark_10 (by decide) ?_
    refine lv_goto hx hb d_Letters_isMark_11 rfl ?_
    have hq := Option.some.inj hok
    have hq0 := hq
    subst hq0
    obtain ⟨hP9, hD9⟩ := sub2 (ws' := []) hP hD [] rfl (by decide) rfl
    rw [hQ]
    exact W.zret (v := 1) hx hb hr rfl (fun t ht hW => ⟨⟨_, (), rfl, rfl, by rw [ht]; exact hP9, hD9⟩, hS.F ht⟩) hS.2.2 d_Letters_isMark_15
