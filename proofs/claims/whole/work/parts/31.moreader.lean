theorem wd_1173 : ((.fieldLink "UnifyBenchModel$Reader" 105 "UnifyBenchModel$Reader" "place" "I") : Cond) ∈ GW := gw_6 211 (by decide +kernel) rfl
theorem wd_1174 : ((.fieldLink "UnifyBenchModel$Reader" 64 "UnifyBenchModel$Reader" "stop" "Ljava/lang/IllegalStateException;") : Cond) ∈ GW := gw_6 197 (by decide +kernel) rfl
theorem wd_1175 : ((.fieldLink "UnifyBenchModel$Reader" 92 "UnifyBenchModel$Reader" "n" "I") : Cond) ∈ GW := gw_6 201 (by decide +kernel) rfl
theorem wd_1176 : ((.fieldLink "UnifyBenchModel$Reader" 89 "UnifyBenchModel$Reader" "s" "[B") : Cond) ∈ GW := gw_6 200 (by decide +kernel) rfl
theorem wd_1177 : ((.fieldLink "UnifyBenchModel$Reader" 68 "UnifyBenchModel$Reader" "word" "[B") : Cond) ∈ GW := gw_6 207 (by decide +kernel) rfl
theorem wd_1178 : ((.fieldLink "UnifyBenchModel$Reader" 139 "UnifyBenchModel$Reader" "letters" "I") : Cond) ∈ GW := gw_6 208 (by decide +kernel) rfl
theorem wd_1179 : ((.fieldLink "UnifyBenchModel$Reader" 123 "UnifyBenchModel$Reader" "token" "I") : Cond) ∈ GW := gw_6 204 (by decide +kernel) rfl
theorem wd_1180 : ((.fieldLink "UnifyBenchModel$Reader" 96 "UnifyBenchModel$Reader" "behind" "I") : Cond) ∈ GW := gw_6 203 (by decide +kernel) rfl
theorem wd_1181 : ((.fieldLink "UnifyBenchModel$Reader" 174 "UnifyBenchModel$Reader" "number" "J") : Cond) ∈ GW := gw_6 206 (by decide +kernel) rfl
theorem wd_1182 : ((.fieldLink "UnifyBenchModel$Reader" 116 "UnifyBenchModel$Reader" "at" "I") : Cond) ∈ GW := gw_6 202 (by decide +kernel) rfl
theorem wd_1183 : ((.code y_MoReader_look prog_17_method_4_code 2 (some .int)) : Cond) ∈ GW := gw_7 196 (by decide +kernel) rfl
theorem wd_1184 : ((.methodLink "UnifyBenchModel$Reader" 148 y_MoReader_look) : Cond) ∈ GW := gw_7 193 (by decide +kernel) rfl
theorem wd_1185 : ((.instanceMethod y_MoReader_look) : Cond) ∈ GW := gw_7 195 (by decide +kernel) rfl
theorem wd_1186 : (.selects R_MoReader y_MoReader_look y_MoReader_look : Cond) ∈ GW := gw_pr 57 (by decide +kernel) rfl
theorem wd_1187 : ((.code y_MoReader_digit prog_17_method_7_code 1 (some .boolean)) : Cond) ∈ GW := gw_7 199 (by decide +kernel) rfl
theorem wd_1188 : ((.methodLink "UnifyBenchModel$Reader" 151 y_MoReader_digit) : Cond) ∈ GW := gw_7 197 (by decide +kernel) rfl
theorem wd_1189 : ((.static y_MoReader_digit) : Cond) ∈ GW := gw_7 198 (by decide +kernel) rfl
theorem wd_1190 : ((.constantLong "UnifyBenchModel$Reader" 178 9007199254740992) : Cond) ∈ GW := gw_7 212 (by decide +kernel) rfl
theorem wd_1191 : ((.code y_MoReader_take prog_17_method_12_code 3 none) : Cond) ∈ GW := gw_7 207 (by decide +kernel) rfl
theorem wd_1192 : ((.methodLink "UnifyBenchModel$Reader" 158 y_MoReader_take) : Cond) ∈ GW := gw_7 204 (by decide +kernel) rfl
theorem wd_1193 : ((.instanceMethod y_MoReader_take) : Cond) ∈ GW := gw_7 206 (by decide +kernel) rfl
theorem wd_1194 : (.selects R_MoReader y_MoReader_take y_MoReader_take : Cond) ∈ GW := gw_pr 59 (by decide +kernel) rfl
theorem wd_1195 : ((.constantLong "UnifyBenchModel$Reader" 180 10) : Cond) ∈ GW := gw_7 213 (by decide +kernel) rfl
theorem wd_1196 : ((.constantLong "UnifyBenchModel$Reader" 182 48) : Cond) ∈ GW := gw_7 214 (by decide +kernel) rfl
theorem wd_1197 : ((.code y_MoReader_letter prog_17_method_11_code 2 none) : Cond) ∈ GW := gw_7 203 (by decide +kernel) rfl
theorem wd_1198 : ((.methodLink "UnifyBenchModel$Reader" 154 y_MoReader_letter) : Cond) ∈ GW := gw_7 200 (by decide +kernel) rfl
theorem wd_1199 : ((.instanceMethod y_MoReader_letter) : Cond) ∈ GW := gw_7 202 (by decide +kernel) rfl
theorem wd_1200 : (.selects R_MoReader y_MoReader_letter y_MoReader_letter : Cond) ∈ GW := gw_pr 58 (by decide +kernel) rfl
theorem wd_1201 : ((.code y_MoReader_small prog_17_method_5_code 1 (some .boolean)) : Cond) ∈ GW := gw_7 189 (by decide +kernel) rfl
theorem wd_1202 : ((.methodLink "UnifyBenchModel$Reader" 142 y_MoReader_small) : Cond) ∈ GW := gw_7 187 (by decide +kernel) rfl
theorem wd_1203 : ((.static y_MoReader_small) : Cond) ∈ GW := gw_7 188 (by decide +kernel) rfl
theorem wd_1204 : ((.code y_MoReader_great prog_17_method_6_code 1 (some .boolean)) : Cond) ∈ GW := gw_7 192 (by decide +kernel) rfl
theorem wd_1205 : ((.methodLink "UnifyBenchModel$Reader" 145 y_MoReader_great) : Cond) ∈ GW := gw_7 190 (by decide +kernel) rfl
theorem wd_1206 : ((.static y_MoReader_great) : Cond) ∈ GW := gw_7 191 (by decide +kernel) rfl
theorem wd_1207 : ((.methodLink "UnifyBenchModel$Reader" 168 y_MoReader_symbol) : Cond) ∈ GW := gw_7 219 (by decide +kernel) rfl
theorem wd_1208 : ((.code y_MoReader_sign prog_17_method_15_code 2 none) : Cond) ∈ GW := gw_7 227 (by decide +kernel) rfl
theorem wd_1209 : ((.methodLink "UnifyBenchModel$Reader" 171 y_MoReader_sign) : Cond) ∈ GW := gw_7 224 (by decide +kernel) rfl
theorem wd_1210 : ((.instanceMethod y_MoReader_sign) : Cond) ∈ GW := gw_7 226 (by decide +kernel) rfl
theorem wd_1211 : (.selects R_MoReader y_MoReader_sign y_MoReader_sign : Cond) ∈ GW := gw_pr 62 (by decide +kernel) rfl
theorem wd_1212 : ((.code y_MoReader_blank prog_17_method_8_code 1 (some .boolean)) : Cond) ∈ GW := gw_7 186 (by decide +kernel) rfl
theorem wd_1213 : ((.methodLink "UnifyBenchModel$Reader" 135 y_MoReader_blank) : Cond) ∈ GW := gw_7 184 (by decide +kernel) rfl
theorem wd_1214 : ((.static y_MoReader_blank) : Cond) ∈ GW := gw_7 185 (by decide +kernel) rfl
theorem wd_1215 : ((.code y_MoReader_quoted prog_17_method_14_code 3 none) : Cond) ∈ GW := gw_7 218 (by decide +kernel) rfl
theorem wd_1216 : ((.methodLink "UnifyBenchModel$Reader" 165 y_MoReader_quoted) : Cond) ∈ GW := gw_7 215 (by decide +kernel) rfl
theorem wd_1217 : ((.instanceMethod y_MoReader_quoted) : Cond) ∈ GW := gw_7 217 (by decide +kernel) rfl
theorem wd_1218 : (.selects R_MoReader y_MoReader_quoted y_MoReader_quoted : Cond) ∈ GW := gw_pr 61 (by decide +kernel) rfl
theorem wd_1219 : ((.code y_MoReader_digits prog_17_method_13_code 2 none) : Cond) ∈ GW := gw_7 211 (by decide +kernel) rfl
theorem wd_1220 : ((.methodLink "UnifyBenchModel$Reader" 162 y_MoReader_digits) : Cond) ∈ GW := gw_7 208 (by decide +kernel) rfl
theorem wd_1221 : ((.instanceMethod y_MoReader_digits) : Cond) ∈ GW := gw_7 210 (by decide +kernel) rfl
theorem wd_1222 : (.selects R_MoReader y_MoReader_digits y_MoReader_digits : Cond) ∈ GW := gw_pr 60 (by decide +kernel) rfl
theorem wd_1223 : ((.methodLink "UnifyBenchModel$Reader" 184 y_String_length) : Cond) ∈ GW := gw_8 47 (by decide +kernel) rfl
theorem wd_1224 : ((.methodLink "UnifyBenchModel$Reader" 188 y_String_charAt) : Cond) ∈ GW := gw_8 48 (by decide +kernel) rfl
theorem wd_1225 : ((.fieldLink "UnifyBenchModel$Reader" 51 "UnifyBenchModel$Reader" "sides" "[Ljava/lang/String;") : Cond) ∈ GW := gw_6 195 (by decide +kernel) rfl
theorem wd_1226 : ((.code y_MoReader_spells prog_17_method_16_code 3 (some .boolean)) : Cond) ∈ GW := gw_8 46 (by decide +kernel) rfl
theorem wd_1227 : ((.methodLink "UnifyBenchModel$Reader" 192 y_MoReader_spells) : Cond) ∈ GW := gw_8 43 (by decide +kernel) rfl
theorem wd_1228 : ((.instanceMethod y_MoReader_spells) : Cond) ∈ GW := gw_8 45 (by decide +kernel) rfl
theorem wd_1229 : (.selects R_MoReader y_MoReader_spells y_MoReader_spells : Cond) ∈ GW := gw_pr 73 (by decide +kernel) rfl
theorem wd_1230 : ((.fieldLink "UnifyBenchModel$Reader" 57 "UnifyBenchModel$Reader" "ranks" "[I") : Cond) ∈ GW := gw_6 196 (by decide +kernel) rfl
theorem wd_1231 : ((.code y_MoReader_rank prog_17_method_17_code 2 (some .int)) : Cond) ∈ GW := gw_8 56 (by decide +kernel) rfl
theorem wd_1232 : ((.methodLink "UnifyBenchModel$Reader" 198 y_MoReader_rank) : Cond) ∈ GW := gw_8 53 (by decide +kernel) rfl
theorem wd_1233 : ((.instanceMethod y_MoReader_rank) : Cond) ∈ GW := gw_8 55 (by decide +kernel) rfl
theorem wd_1234 : (.selects R_MoReader y_MoReader_rank y_MoReader_rank : Cond) ∈ GW := gw_pr 75 (by decide +kernel) rfl
theorem wd_1235 : ((.code y_MoReader_prefix prog_17_method_18_code 1 (some .int)) : Cond) ∈ GW := gw_8 41 (by decide +kernel) rfl
theorem wd_1236 : ((.methodLink "UnifyBenchModel$Reader" 201 y_MoReader_prefix) : Cond) ∈ GW := gw_8 38 (by decide +kernel) rfl
theorem wd_1237 : ((.instanceMethod y_MoReader_prefix) : Cond) ∈ GW := gw_8 40 (by decide +kernel) rfl
theorem wd_1238 : (.selects R_MoReader y_MoReader_prefix y_MoReader_prefix : Cond) ∈ GW := gw_pr 72 (by decide +kernel) rfl
theorem wd_1239 : ((.fieldLink "UnifyBenchModel$Reader" 85 "UnifyBenchModel$Reader" "names" "LUnifyBenchModel$Names;") : Cond) ∈ GW := gw_6 199 (by decide +kernel) rfl
theorem wd_1240 : ((.code y_MoNames_of prog_15_method_3_code 5 (some .int)) : Cond) ∈ GW := gw_7 69 (by decide +kernel) rfl
theorem wd_1241 : ((.methodLink "UnifyBenchModel$Reader" 219 y_MoNames_of) : Cond) ∈ GW := gw_8 12 (by decide +kernel) rfl
theorem wd_1242 : ((.instanceMethod y_MoNames_of) : Cond) ∈ GW := gw_7 67 (by decide +kernel) rfl
theorem wd_1243 : ((.selects "UnifyBenchModel$Names" y_MoNames_of y_MoNames_of) : Cond) ∈ GW := gw_7 68 (by decide +kernel) rfl
theorem wd_1244 : ((.code y_MoReader_name prog_17_method_21_code 1 (some .int)) : Cond) ∈ GW := gw_8 11 (by decide +kernel) rfl
theorem wd_1245 : ((.methodLink "UnifyBenchModel$Reader" 212 y_MoReader_name) : Cond) ∈ GW := gw_8 8 (by decide +kernel) rfl
theorem wd_1246 : ((.instanceMethod y_MoReader_name) : Cond) ∈ GW := gw_8 10 (by decide +kernel) rfl
theorem wd_1247 : (.selects R_MoReader y_MoReader_name y_MoReader_name : Cond) ∈ GW := gw_pr 67 (by decide +kernel) rfl
theorem wd_1248 : ((.code y_MoReader_one prog_17_method_22_code 2 (some .int)) : Cond) ∈ GW := gw_8 25 (by decide +kernel) rfl
theorem wd_1249 : ((.methodLink "UnifyBenchModel$Reader" 225 y_MoReader_one) : Cond) ∈ GW := gw_8 22 (by decide +kernel) rfl
theorem wd_1250 : ((.instanceMethod y_MoReader_one) : Cond) ∈ GW := gw_8 24 (by decide +kernel) rfl
theorem wd_1251 : (.selects R_MoReader y_MoReader_one y_MoReader_one : Cond) ∈ GW := gw_pr 69 (by decide +kernel) rfl
theorem wd_1252 : ((.fieldLink "UnifyBenchModel$Reader" 75 "UnifyBenchModel$Reader" "variables" "[I") : Cond) ∈ GW := gw_6 213 (by decide +kernel) rfl
theorem wd_1253 : ((.fieldLink "UnifyBenchModel$Reader" 243 "UnifyBenchModel$Reader" "variabled" "I") : Cond) ∈ GW := gw_6 215 (by decide +kernel) rfl
theorem d_MoReader_bad_0 : decode b_MoReader_bad 0 = .ok (.aload_n 0, 1) := by decide +kernel
theorem d_MoReader_bad_1 : decode b_MoReader_bad 1 = .ok (.iload_n 1, 1) := by decide +kernel
theorem d_MoReader_bad_2 : decode b_MoReader_bad 2 = .ok (.putfield 105, 3) := by decide +kernel
theorem d_MoReader_bad_5 : decode b_MoReader_bad 5 = .ok (.aload_n 0, 1) := by decide +kernel
theorem d_MoReader_bad_6 : decode b_MoReader_bad 6 = .ok (.getfield 64, 3) := by decide +kernel
theorem d_MoReader_bad_9 : decode b_MoReader_bad 9 = .ok (.areturn, 1) := by decide +kernel
def p_MoReader_bad (where_ : Int32) (a_n : Int32) (a_at : Int32) (a_behind : Int32) (a_token : Int32) (a_open : Int32) (a_number : Int64) (a_letters : Int32) (a_top : Int32) (a_place : Int32) (a_variabled : Int32) (a_known : Int32) (a_rank : Int32) : Option Int32 := some where_
set_option maxHeartbeats 40000000 in
set_option maxRecDepth 100000 in
theorem c_MoReader_bad (l : Launch) (g : va_G) (cs : Nat → ClassId) (ka : Nat → Nat) (a_sides : Nat) (a_ranks : Nat) (a_terms : Nat) (a_names : Nat) (a_s : Nat) (a_word : Nat) (a_stack : Nat) (a_variables : Nat) (a_kept : Nat) (a a_stop : Nat) (sz : Nat) (where_ : Int32) (a_n : Int32) (a_at : Int32) (a_behind : Int32) (a_token : Int32) (a_open : Int32) (a_number : Int64) (a_letters : Int32) (a_top : Int32) (a_place : Int32) (a_variabled : Int32) (a_known : Int32) (a_rank : Int32) (o_a_place : Int32) (hok : p_MoReader_bad where_ a_n a_at a_behind a_token a_open a_number a_letters a_top a_place a_variabled a_known a_rank = some o_a_place) : Met l y_MoReader_bad (.code y_MoReader_bad b_MoReader_bad 2 (some (.object "java/lang/IllegalStateException")) :: GW) { frames := 0, cells := 0, slots := 0, locals := 0 } (va_Pc [.ref a, .int where_] (gP g cs ka [(a, .inr (12, [.ref a_sides, .ref a_ranks, .ref a_stop, .ref a_terms, .ref a_names, .ref a_s, .int a_n, .int a_at, .int a_behind, .int a_token, .int a_open, .long a_number, .ref a_word, .int a_letters, .ref a_stack, .int a_top, .int a_place, .ref a_variables, .int a_variabled, .int a_known, .int a_rank, .ref a_kept])), (a_stop, .inr (15, []))] sz)) (va_Qr (fun _ : Unit => True) (fun _ ra t => a_stop = ra ∧ va_P g classes [(a, .inr (12, [.ref a_sides, .ref a_ranks, .ref a_stop, .ref a_terms, .ref a_names, .ref a_s, .int a_n, .int a_at, .int a_behind, .int a_token, .int a_open, .long a_number, .ref a_word, .int a_letters, .ref a_stack, .int a_top, .int o_a_place, .ref a_variables, .int a_variabled, .int a_known, .int a_rank, .ref a_kept])), (a_stop, .inr (15, []))] t.heap ∧ va_D (va_A [(a, .inr (12, [.ref a_sides, .ref a_ranks, .ref a_stop, .ref a_terms, .ref a_names, .ref a_s, .int a_n, .int a_at, .int a_behind, .int a_token, .int a_open, .long a_number, .ref a_word, .int a_letters, .ref a_stack, .int a_top, .int a_place, .ref a_variables, .int a_variabled, .int a_known, .int a_rank, .ref a_kept])), (a_stop, .inr (15, []))] sz) [(a, .inr (12, [.ref a_sides, .ref a_ranks, .ref a_stop, .ref a_terms, .ref a_names, .ref a_s, .int a_n, .int a_at, .int a_behind, .int a_token, .int a_open, .long a_number, .ref a_word, .int a_letters, .ref a_stack, .int a_top, .int o_a_place, .ref a_variables, .int a_variabled, .int a_known, .int a_rank, .ref a_kept])), (a_stop, .inr (15, []))]) (va_A [(a, .inr (12, [.ref a_sides, .ref a_ranks, .ref a_stop, .ref a_terms, .ref a_names, .ref a_s, .int a_n, .int a_at, .int a_behind, .int a_token, .int a_open, .long a_number, .ref a_word, .int a_letters, .ref a_stack, .int a_top, .int a_place, .ref a_variables, .int a_variabled, .int a_known, .int a_rank, .ref a_kept])), (a_stop, .inr (15, []))] sz)) 0 0 (va_A [(a, .inr (12, [.ref a_sides, .ref a_ranks, .ref a_stop, .ref a_terms, .ref a_names, .ref a_s, .int a_n, .int a_at, .int a_behind, .int a_token, .int a_open, .long a_number, .ref a_word, .int a_letters, .ref a_stack, .int a_top, .int a_place, .ref a_variables, .int a_variabled, .int a_known, .int a_rank, .ref a_kept])), (a_stop, .inr (15, []))] sz) := by
  refine Met.ofW (cc := b_MoReader_bad) (maxL := 2) (ret := (some (.object "java/lang/IllegalStateException"))) (by decide) rfl ?_
  intro p e s m args below meth c s₁ B hml hv
  obtain ⟨rfl, hsz, hP, hK, hD0, hgl, hkn, hkr⟩ := hv
  have hx := B.exec
  have hb := B.bytes
  have hr := B.returns
  have hg : ∀ w ∈ GW, w.before ([.ref a, .int where_] : List Value).toArray s = true := fun w hw => atoms_spec (ws := .code y_MoReader_bad b_MoReader_bad 2 (some (.object "java/lang/IllegalStateException")) :: GW) B.pre w (List.mem_cons_of_mem _ hw)
  have hown : s.vm.findClass R_MoReader = some m.cls := findClass_of_methodNamed B.named
  have hlocks := B.notSynchronized
  subst hsz
  have hD := hD0.self (sz := s.heap.size)
  generalize hAe : va_A [(a, .inr (12, [.ref a_sides, .ref a_ranks, .ref a_stop, .ref a_terms, .ref a_names, .ref a_s, .int a_n, .int a_at, .int a_behind, .int a_token, .int a_open, .long a_number, .ref a_word, .int a_letters, .ref a_stack, .int a_top, .int a_place, .ref a_variables, .int a_variabled, .int a_known, .int a_rank, .ref a_kept])), (a_stop, .inr (15, []))] s.heap.size = A at hD hkn ⊢
  have hA : ∀ q : Nat, s.heap.size ≤ q → A q := fun q h => by rw [← hAe]; exact Or.inr h
  have hS : va_S A s.heap s.heap [] := va_S.rf
  have hP : va_P g classes [(a, .inr (12, [.ref a_sides, .ref a_ranks, .ref a_stop, .ref a_terms, .ref a_names, .ref a_s, .int a_n, .int a_at, .int a_behind, .int a_token, .int a_open, .long a_number, .ref a_word, .int a_letters, .ref a_stack, .int a_top, .int a_place, .ref a_variables, .int a_variabled, .int a_known, .int a_rank, .ref a_kept])), (a_stop, .inr (15, []))] s.heap := hP
  have hl := lv_entry ([.ref a, .int where_]) (n := 2) (Nat.le_of_ble_eq_true rfl)
  rw [lg_entry_eq]
  generalize (lg_sl ([.ref a, .int where_]) ++ List.replicate (2 - (lg_sl ([.ref a, .int where_])).length) Slot.unset).toArray = ls at hl ⊢
  have hl : lv_has ls 2 [(0, .ref a), (1, .int where_)] := hl
  refine gq (fun Q hQ => ?_)
  obtain ⟨H, hH⟩ : ∃ H : Heap, H = s.heap := ⟨_, rfl⟩
  rw [← hH] at hP
  have hS : va_S A s.heap H [] := by rw [hH]; exact hS
  refine W.eqH hH ?_
  obtain ⟨locs, hlc⟩ : ∃ L : List Loc, L = [] := ⟨_, rfl⟩
  rw [← hlc] at hS ⊢
  unfold p_MoReader_bad at hok
  refine lv_aload_n hx hb d_MoReader_bad_0 rfl (lv_at hl 0 rfl) ?_
  refine lv_iload_n hx hb d_MoReader_bad_1 rfl (lv_at hl 1 rfl) ?_
  refine va_put (D := g) (ci := 12) (v := .int where_) (ty := .int) (C := R_MoReader) (T := F_MoReader) (N := 22) hx hb hg ul_MoReader t_MoReader tk_MoReader n_MoReader hown hK hP hD hS 0 rfl rfl 16 (by decide) (hg _ wd_1173) (fun _ h9 => h9) rfl (by decide +kernel) rfl rfl (Nat.le_of_ble_eq_true rfl) d_MoReader_bad_2 (fun H locs hP hD hS => ?_)
  obtain ⟨hP, hD⟩ : PD g A H [(a, .inr (12, [.ref a_sides, .ref a_ranks, .ref a_stop, .ref a_terms, .ref a_names, .ref a_s, .int a_n, .int a_at, .int a_behind, .int a_token, .int a_open, .long a_number, .ref a_word, .int a_letters, .ref a_stack, .int a_top, .int where_, .ref a_variables, .int a_variabled, .int a_known, .int a_rank, .ref a_kept])), (a_stop, .inr (15, []))] := ⟨hP, hD⟩
  refine lv_aload_n hx hb d_MoReader_bad_5 rfl (lv_at hl 0 rfl) ?_
  refine va_get (D := g) (ci := 12) (v := .ref a_stop) (C := R_MoReader) (T := F_MoReader) (N := 22) hx hb hg ul_MoReader hown hK hP 0 rfl rfl 2 (by decide) (hg _ wd_1174) (fun _ h9 => h9) rfl d_MoReader_bad_6 ?_
  have hq := Option.some.inj hok
  have hq0 := hq
  subst hq0
  obtain ⟨hP9, hD9⟩ := sub2 (ws' := [(a, .inr (12, [.ref a_sides, .ref a_ranks, .ref a_stop, .ref a_terms, .ref a_names, .ref a_s, .int a_n, .int a_at, .int a_behind, .int a_token, .int a_open, .long a_number, .ref a_word, .int a_letters, .ref a_stack, .int a_top, .int where_, .ref a_variables, .int a_variabled, .int a_known, .int a_rank, .ref a_kept])), (a_stop, .inr (15, []))]) hP hD [0, 1] rfl (by decide) rfl
  rw [hQ]
  exact W.aret (v := .ref a_stop) hx hb hr (Or.inl ⟨_, rfl⟩) (Or.inr ⟨_, rfl⟩) (fun t ht hW => ⟨⟨(), _, rfl, trivial, rfl, by rw [ht]; exact hP9, hD9⟩, hS.F ht⟩) hS.2.2 d_MoReader_bad_9

theorem d_MoReader_look_0 : decode b_MoReader_look 0 = .ok (.iload_n 1, 1) := by decide +kernel
theorem d_MoReader_look_1 : decode b_MoReader_look 1 = .ok (.aload_n 0, 1) := by decide +kernel
theorem d_MoReader_look_2 : decode b_MoReader_look 2 = .ok (.getfield 92, 3) := by decide +kernel
theorem d_MoReader_look_5 : decode b_MoReader_look 5 = .ok (.if_icmp .ge 12, 3) := by decide +kernel
theorem d_MoReader_look_8 : decode b_MoReader_look 8 = .ok (.aload_n 0, 1) := by decide +kernel
theorem d_MoReader_look_9 : decode b_MoReader_look 9 = .ok (.getfield 89, 3) := by decide +kernel
theorem d_MoReader_look_12 : decode b_MoReader_look 12 = .ok (.iload_n 1, 1) := by decide +kernel
theorem d_MoReader_look_13 : decode b_MoReader_look 13 = .ok (.baload, 1) := by decide +kernel
theorem d_MoReader_look_14 : decode b_MoReader_look 14 = .ok (.goto 4, 3) := by decide +kernel
theorem d_MoReader_look_17 : decode b_MoReader_look 17 = .ok (.iconst (-1), 1) := by decide +kernel
theorem d_MoReader_look_18 : decode b_MoReader_look 18 = .ok (.ireturn, 1) := by decide +kernel
def p_MoReader_look (i : Int32) (a_n : Int32) (a_at : Int32) (a_behind : Int32) (a_token : Int32) (a_open : Int32) (a_number : Int64) (a_letters : Int32) (a_top : Int32) (a_place : Int32) (a_variabled : Int32) (a_known : Int32) (a_rank : Int32) (a_s_n : Nat) (a_s_f : Nat → Int32) : Option Int32 := if a_n ≤ i then (some ((-1) : Int32)) else (ck (ixb i a_s_n) (some (a_s_f i.toNatClampNeg)))
set_option maxHeartbeats 40000000 in
set_option maxRecDepth 100000 in
theorem c_MoReader_look (l : Launch) (g : va_G) (cs : Nat → ClassId) (ka : Nat → Nat) (a_sides : Nat) (a_ranks : Nat) (a_stop : Nat) (a_terms : Nat) (a_names : Nat) (a_word : Nat) (a_stack : Nat) (a_variables : Nat) (a_kept : Nat) (a a_s : Nat) (sz : Nat) (i : Int32) (a_n : Int32) (a_at : Int32) (a_behind : Int32) (a_token : Int32) (a_open : Int32) (a_number : Int64) (a_letters : Int32) (a_top : Int32) (a_place : Int32) (a_variabled : Int32) (a_known : Int32) (a_rank : Int32) (a_s_n : Nat) (a_s_f : Nat → Int32) (r : Int32) (hok : p_MoReader_look i a_n a_at a_behind a_token a_open a_number a_letters a_top a_place a_variabled a_known a_rank a_s_n a_s_f = some r) : Met l y_MoReader_look (.code y_MoReader_look b_MoReader_look 2 (some .int) :: GW) { frames := 0, cells := 0, slots := 0, locals := 0 } (va_Pc [.ref a, .int i] (gP g cs ka [(a, .inr (12, [.ref a_sides, .ref a_ranks, .ref a_stop, .ref a_terms, .ref a_names, .ref a_s, .int a_n, .int a_at, .int a_behind, .int a_token, .int a_open, .long a_number, .ref a_word, .int a_letters, .ref a_stack, .int a_top, .int a_place, .ref a_variables, .int a_variabled, .int a_known, .int a_rank, .ref a_kept])), (a_s, .inl (cs 1, a_s_n, .inl a_s_f))] sz)) (va_Qi (fun (r' : Int32) (_ : Unit) => r = r') (fun _ t => va_P g classes [(a, .inr (12, [.ref a_sides, .ref a_ranks, .ref a_stop, .ref a_terms, .ref a_names, .ref a_s, .int a_n, .int a_at, .int a_behind, .int a_token, .int a_open, .long a_number, .ref a_word, .int a_letters, .ref a_stack, .int a_top, .int a_place, .ref a_variables, .int a_variabled, .int a_known, .int a_rank, .ref a_kept])), (a_s, .inl (cs 1, a_s_n, .inl a_s_f))] t.heap ∧ va_D (va_A [(a, .inr (12, [.ref a_sides, .ref a_ranks, .ref a_stop, .ref a_terms, .ref a_names, .ref a_s, .int a_n, .int a_at, .int a_behind, .int a_token, .int a_open, .long a_number, .ref a_word, .int a_letters, .ref a_stack, .int a_top, .int a_place, .ref a_variables, .int a_variabled, .int a_known, .int a_rank, .ref a_kept])), (a_s, .inl (cs 1, a_s_n, .inl a_s_f))] sz) [(a, .inr (12, [.ref a_sides, .ref a_ranks, .ref a_stop, .ref a_terms, .ref a_names, .ref a_s, .int a_n, .int a_at, .int a_behind, .int a_token, .int a_open, .long a_number, .ref a_word, .int a_letters, .ref a_stack, .int a_top, .int a_place, .ref a_variables, .int a_variabled, .int a_known, .int a_rank, .ref a_kept])), (a_s, .inl (cs 1, a_s_n, .inl a_s_f))]) (va_A [(a, .inr (12, [.ref a_sides, .ref a_ranks, .ref a_stop, .ref a_terms, .ref a_names, .ref a_s, .int a_n, .int a_at, .int a_behind, .int a_token, .int a_open, .long a_number, .ref a_word, .int a_letters, .ref a_stack, .int a_top, .int a_place, .ref a_variables, .int a_variabled, .int a_known, .int a_rank, .ref a_kept])), (a_s, .inl (cs 1, a_s_n, .inl a_s_f))] sz)) 0 0 (va_A [(a, .inr (12, [.ref a_sides, .ref a_ranks, .ref a_stop, .ref a_terms, .ref a_names, .ref a_s, .int a_n, .int a_at, .int a_behind, .int a_token, .int a_open, .long a_number, .ref a_word, .int a_letters, .ref a_stack, .int a_top, .int a_place, .ref a_variables, .int a_variabled, .int a_known, .int a_rank, .ref a_kept])), (a_s, .inl (cs 1, a_s_n, .inl a_s_f))] sz) := by
  refine Met.ofW (cc := b_MoReader_look) (maxL := 2) (ret := (some .int)) (by decide) rfl ?_
  intro p e s m args below meth c s₁ B hml hv
  obtain ⟨rfl, hsz, hP, hK, hD0, hgl, hkn, hkr⟩ := hv
  have hx := B.exec
  have hb := B.bytes
  have hr := B.returns
  have hg : ∀ w ∈ GW, w.before ([.ref a, .int i] : List Value).toArray s = true := fun w hw => atoms_spec (ws := .code y_MoReader_look b_MoReader_look 2 (some .int) :: GW) B.pre w (List.mem_cons_of_mem _ hw)
  have hown : s.vm.findClass R_MoReader = some m.cls := findClass_of_methodNamed B.named
  have hlocks := B.notSynchronized
  subst hsz
  have hD := hD0.self (sz := s.heap.size)
  generalize hAe : va_A [(a, .inr (12, [.ref a_sides, .ref a_ranks, .ref a_stop, .ref a_terms, .ref a_names, .ref a_s, .int a_n, .int a_at, .int a_behind, .int a_token, .int a_open, .long a_number, .ref a_word, .int a_letters, .ref a_stack, .int a_top, .int a_place, .ref a_variables, .int a_variabled, .int a_known, .int a_rank, .ref a_kept])), (a_s, .inl (cs 1, a_s_n, .inl a_s_f))] s.heap.size = A at hD hkn ⊢
  have hA : ∀ q : Nat, s.heap.size ≤ q → A q := fun q h => by rw [← hAe]; exact Or.inr h
  have hS : va_S A s.heap s.heap [] := va_S.rf
  have hP : va_P g classes [(a, .inr (12, [.ref a_sides, .ref a_ranks, .ref a_stop, .ref a_terms, .ref a_names, .ref a_s, .int a_n, .int a_at, .int a_behind, .int a_token, .int a_open, .long a_number, .ref a_word, .int a_letters, .ref a_stack, .int a_top, .int a_place, .ref a_variables, .int a_variabled, .int a_known, .int a_rank, .ref a_kept])), (a_s, .inl (cs 1, a_s_n, .inl a_s_f))] s.heap := hP
  have hl := lv_entry ([.ref a, .int i]) (n := 2) (Nat.le_of_ble_eq_true rfl)
  rw [lg_entry_eq]
  generalize (lg_sl ([.ref a, .int i]) ++ List.replicate (2 - (lg_sl ([.ref a, .int i])).length) Slot.unset).toArray = ls at hl ⊢
  have hl : lv_has ls 2 [(0, .ref a), (1, .int i)] := hl
  refine gq (fun Q hQ => ?_)
  obtain ⟨H, hH⟩ : ∃ H : Heap, H = s.heap := ⟨_, rfl⟩
  rw [← hH] at hP
  have hS : va_S A s.heap H [] := by rw [hH]; exact hS
  refine W.eqH hH ?_
  obtain ⟨locs, hlc⟩ : ∃ L : List Loc, L = [] := ⟨_, rfl⟩
  rw [← hlc] at hS ⊢
  unfold p_MoReader_look at hok
  refine lv_iload_n hx hb d_MoReader_look_0 rfl (lv_at hl 1 rfl) ?_
  refine lv_aload_n hx hb d_MoReader_look_1 rfl (lv_at hl 0 rfl) ?_
  refine va_get (D := g) (ci := 12) (v := .int a_n) (C := R_MoReader) (T := F_MoReader) (N := 22) hx hb hg ul_MoReader hown hK hP 0 rfl rfl 6 (by decide) (hg _ wd_1175) (fun _ h9 => h9) rfl d_MoReader_look_2 ?_
  refine lv_icmp_ge hx hb d_MoReader_look_5 rfl (fun h1 => ?_) (fun h1 => ?_)
  · rw [if_pos h1] at hok
    refine lv_iconst (v := (-1)) hx hb d_MoReader_look_17 (by decide) ?_
    have hq := Option.some.inj hok
    have hq0 := hq
    subst hq0
    obtain ⟨hP9, hD9⟩ := sub2 (ws' := [(a, .inr (12, [.ref a_sides, .ref a_ranks, .ref a_stop, .ref a_terms, .ref a_names, .ref a_s, .int a_n, .int a_at, .int a_behind, .int a_token, .int a_open, .long a_number, .ref a_word, .int a_letters, .ref a_stack, .int a_top, .int a_place, .ref a_variables, .int a_variabled, .int a_known, .int a_rank, .ref a_kept])), (a_s, .inl (cs 1, a_s_n, .inl a_s_f))]) hP hD [0, 1] rfl (by decide) rfl
    rw [hQ]
    exact W.iret (v := (-1)) hx hb hr (fun t ht hW => ⟨⟨_, (), rfl, rfl, by rw [ht]; exact hP9, hD9⟩, hS.F ht⟩) hS.2.2 d_MoReader_look_18
  · rw [if_neg h1] at hok
    refine lv_aload_n hx hb d_MoReader_look_8 rfl (lv_at hl 0 rfl) ?_
    refine va_get (D := g) (ci := 12) (v := .ref a_s) (C := R_MoReader) (T := F_MoReader) (N := 22) hx hb hg ul_MoReader hown hK hP 0 rfl rfl 5 (by decide) (hg _ wd_1176) (fun _ h9 => h9) rfl d_MoReader_look_9 ?_
    refine lv_iload_n hx hb d_MoReader_look_12 rfl (lv_at hl 1 rfl) ?_
    obtain ⟨hi2, hok⟩ := ck_some hok
    refine va_bald hx hb hK hP 1 1 rfl rfl (ixb_in hi2) d_MoReader_look_13 ?_
    refine lv_goto hx hb d_MoReader_look_14 rfl ?_
    have hq := Option.some.inj hok
    have hq0 := hq
    subst hq0
    obtain ⟨hP9, hD9⟩ := sub2 (ws' := [(a, .inr (12, [.ref a_sides, .ref a_ranks, .ref a_stop, .ref a_terms, .ref a_names, .ref a_s, .int a_n, .int a_at, .int a_behind, .int a_token, .int a_open, .long a_number, .ref a_word, .int a_letters, .ref a_stack, .int a_top, .int a_place, .ref a_variables, .int a_variabled, .int a_known, .int a_rank, .ref a_kept])), (a_s, .inl (cs 1, a_s_n, .inl a_s_f))]) hP hD [0, 1] rfl (by decide) rfl
    rw [hQ]
    exact W.iret (v := a_s_f i.toNatClampNeg) hx hb hr (fun t ht hW => ⟨⟨_, (), rfl, rfl, by rw [ht]; exact hP9, hD9⟩, hS.F ht⟩) hS.2.2 d_MoReader_look_18

theorem d_MoReader_small_0 : decode b_MoReader_small 0 = .ok (.iload_n 0, 1) := by decide +kernel
theorem d_MoReader_small_1 : decode b_MoReader_small 1 = .ok (.bipush 97, 2) := by decide +kernel
theorem d_MoReader_small_3 : decode b_MoReader_small 3 = .ok (.if_icmp .lt 13, 3) := by decide +kernel
theorem d_MoReader_small_6 : decode b_MoReader_small 6 = .ok (.iload_n 0, 1) := by decide +kernel
theorem d_MoReader_small_7 : decode b_MoReader_small 7 = .ok (.bipush 122, 2) := by decide +kernel
theorem d_MoReader_small_9 : decode b_MoReader_small 9 = .ok (.if_icmp .gt 7, 3) := by decide +kernel
theorem d_MoReader_small_12 : decode b_MoReader_small 12 = .ok (.iconst 1, 1) := by decide +kernel
theorem d_MoReader_small_13 : decode b_MoReader_small 13 = .ok (.goto 4, 3) := by decide +kernel
theorem d_MoReader_small_16 : decode b_MoReader_small 16 = .ok (.iconst 0, 1) := by decide +kernel
theorem d_MoReader_small_17 : decode b_MoReader_small 17 = .ok (.ireturn, 1) := by decide +kernel
def p_MoReader_small (c0 : Int32) : Option Int32 := if c0 < 97 then (some (0 : Int32)) else (if 122 < c0 then (some (0 : Int32)) else (some (1 : Int32)))
set_option maxHeartbeats 40000000 in
set_option maxRecDepth 100000 in
theorem c_MoReader_small (l : Launch) (g : va_G) (cs : Nat → ClassId) (ka : Nat → Nat) (sz : Nat) (c0 : Int32) (r : Int32) (hok : p_MoReader_small c0 = some r) : Met l y_MoReader_small (.code y_MoReader_small b_MoReader_small 1 (some .boolean) :: GW) { frames := 0, cells := 0, slots := 0, locals := 0 } (va_Pc [.int c0] (gP g cs ka [] sz)) (va_Qi (fun (r' : Int32) (_ : Unit) => r = r') (fun _ t => va_P g classes [] t.heap ∧ va_D (va_A [] sz) []) (va_A [] sz)) 0 0 (va_A [] sz) := by
  refine Met.ofW (cc := b_MoReader_small) (maxL := 1) (ret := (some .boolean)) (by decide) rfl ?_
  intro p e s m args below meth c s₁ B hml hv
  obtain ⟨rfl, hsz, hP, hK, hD0, hgl, hkn, hkr⟩ := hv
  have hx := B.exec
  have hb := B.bytes
  have hr := B.returns
  have hg : ∀ w ∈ GW, w.before ([.int c0] : List Value).toArray s = true := fun w hw => atoms_spec (ws := .code y_MoReader_small b_MoReader_small 1 (some .boolean) :: GW) B.pre w (List.mem_cons_of_mem _ hw)
  have hown : s.vm.findClass R_MoReader = some m.cls := findClass_of_methodNamed B.named
  have hlocks := B.notSynchronized
  subst hsz
  have hD := hD0.self (sz := s.heap.size)
  generalize hAe : va_A [] s.heap.size = A at hD hkn ⊢
  have hA : ∀ q : Nat, s.heap.size ≤ q → A q := fun q h => by rw [← hAe]; exact Or.inr h
  have hS : va_S A s.heap s.heap [] := va_S.rf
  have hP : va_P g classes [] s.heap := hP
  have hl := lv_entry ([.int c0]) (n := 1) (Nat.le_of_ble_eq_true rfl)
  rw [lg_entry_eq]
  generalize (lg_sl ([.int c0]) ++ List.replicate (1 - (lg_sl ([.int c0])).length) Slot.unset).toArray = ls at hl ⊢
  have hl : lv_has ls 1 [(0, .int c0)] := hl
  refine gq (fun Q hQ => ?_)
  obtain ⟨H, hH⟩ : ∃ H : Heap, H = s.heap := ⟨_, rfl⟩
  rw [← hH] at hP
  have hS : va_S A s.heap H [] := by rw [hH]; exact hS
  refine W.eqH hH ?_
  obtain ⟨locs, hlc⟩ : ∃ L : List Loc, L = [] := ⟨_, rfl⟩
  rw [← hlc] at hS ⊢
  unfold p_MoReader_small at hok
  refine lv_iload_n hx hb d_MoReader_small_0 rfl (lv_at hl 0 rfl) ?_
  refine lv_bipush (v := 97) hx hb d_MoReader_small_1 (by decide) ?_
  refine lv_icmp_lt hx hb d_MoReader_small_3 rfl (fun h1 => ?_) (fun h1 => ?_)
  · rw [if_pos h1] at hok
    refine lv_iconst (v := 0) hx hb d_MoReader_small_16 (by decide) ?_
    have hq := Option.some.inj hok
    have hq0 := hq
    subst hq0
    obtain ⟨hP9, hD9⟩ := sub2 (ws' := []) hP hD [] rfl (by decide) rfl
    rw [hQ]
    exact W.zret (v := 0) hx hb hr rfl (fun t ht hW => ⟨⟨_, (), rfl, rfl, by rw [ht]; exact hP9, hD9⟩, hS.F ht⟩) hS.2.2 d_MoReader_small_17
  · rw [if_neg h1] at hok
    refine lv_iload_n hx hb d_MoReader_small_6 rfl (lv_at hl 0 rfl) ?_
    refine lv_bipush (v := 122) hx hb d_MoReader_small_7 (by decide) ?_
    refine lv_icmp_gt hx hb d_MoReader_small_9 rfl (fun h2 => ?_) (fun h2 => ?_)
    · rw [if_pos h2] at hok
      refine lv_iconst (v := 0) hx hb d_MoReader_small_16 (by decide) ?_
      have hq := Option.some.inj hok
      have hq0 := hq
      subst hq0
      obtain ⟨hP9, hD9⟩ := sub2 (ws' := []) hP hD [] rfl (by decide) rfl
      rw [hQ]
      exact W.zret (v := 0) hx hb hr rfl (fun t ht hW => ⟨⟨_, (), rfl, rfl, by rw [ht]; exact hP9, hD9⟩, hS.F ht⟩) hS.2.2 d_MoReader_small_17
    · rw [if_neg h2] at hok
      refine lv_iconst (v := 1) hx hb d_MoReader_small_12 (by decide) ?_
      refine lv_goto hx hb d_MoReader_small_13 rfl ?_
      have hq := Option.some.inj hok
      have hq0 := hq
      subst hq0
      obtain ⟨hP9, hD9⟩ := sub2 (ws' := []) hP hD [] rfl (by decide) rfl
      rw [hQ]
      exact W.zret (v := 1) hx hb hr rfl (fun t ht hW => ⟨⟨_, (), rfl, rfl, by rw [ht]; exact hP9, hD9⟩, hS.F ht⟩) hS.2.2 d_MoReader_small_17

theorem d_MoReader_great_0 : decode b_MoReader_great 0 = .ok (.iload_n 0, 1) := by decide +kernel
theorem d_MoReader_great_1 : decode b_MoReader_great 1 = .ok (.bipush 65, 2) := by decide +kernel
theorem d_MoReader_great_3 : decode b_MoReader_great 3 = .ok (.if_icmp .lt 9, 3) := by decide +kernel
theorem d_MoReader_great_6 : decode b_MoReader_great 6 = .ok (.iload_n 0, 1) := by decide +kernel
theorem d_MoReader_great_7 : decode b_MoReader_great 7 = .ok (.bipush 90, 2) := by decide +kernel
theorem d_MoReader_great_9 : decode b_MoReader_great 9 = .ok (.if_icmp .le 9, 3) := by decide +kernel
theorem d_MoReader_great_12 : decode b_MoReader_great 12 = .ok (.iload_n 0, 1) := by decide +kernel
theorem d_MoReader_great_13 : decode b_MoReader_great 13 = .ok (.bipush 95, 2) := by decide +kernel
theorem d_MoReader_great_15 : decode b_MoReader_great 15 = .ok (.if_icmp .ne 7, 3) := by decide +kernel
theorem d_MoReader_great_18 : decode b_MoReader_great 18 = .ok (.iconst 1, 1) := by decide +kernel
theorem d_MoReader_great_19 : decode b_MoReader_great 19 = .ok (.goto 4, 3) := by decide +kernel
theorem d_MoReader_great_22 : decode b_MoReader_great 22 = .ok (.iconst 0, 1) := by decide +kernel
theorem d_MoReader_great_23 : decode b_MoReader_great 23 = .ok (.ireturn, 1) := by decide +kernel
def p_MoReader_great (c0 : Int32) : Option Int32 := if c0 < 65 then (if c0 = 95 then (some (1 : Int32)) else (some (0 : Int32))) else (if c0 ≤ 90 then (some (1 : Int32)) else (if c0 = 95 then (some (1 : Int32)) else (some (0 : Int32))))
set_option maxHeartbeats 40000000 in
set_option maxRecDepth 100000 in
theorem c_MoReader_great (l : Launch) (g : va_G) (cs : Nat → ClassId) (ka : Nat → Nat) (sz : Nat) (c0 : Int32) (r : Int32) (hok : p_MoReader_great c0 = some r) : Met l y_MoReader_great (.code y_MoReader_great b_MoReader_great 1 (some .boolean) :: GW) { frames := 0, cells := 0, slots := 0, locals := 0 } (va_Pc [.int c0] (gP g cs ka [] sz)) (va_Qi (fun (r' : Int32) (_ : Unit) => r = r') (fun _ t => va_P g classes [] t.heap ∧ va_D (va_A [] sz) []) (va_A [] sz)) 0 0 (va_A [] sz) := by
  refine Met.ofW (cc := b_MoReader_great) (maxL := 1) (ret := (some .boolean)) (by decide) rfl ?_
  intro p e s m args below meth c s₁ B hml hv
  obtain ⟨rfl, hsz, hP, hK, hD0, hgl, hkn, hkr⟩ := hv
  have hx := B.exec
  have hb := B.bytes
  have hr := B.returns
  have hg : ∀ w ∈ GW, w.before ([.int c0] : List Value).toArray s = true := fun w hw => atoms_spec (ws := .code y_MoReader_great b_MoReader_great 1 (some .boolean) :: GW) B.pre w (List.mem_cons_of_mem _ hw)
  have hown : s.vm.findClass R_MoReader = some m.cls := findClass_of_methodNamed B.named
  have hlocks := B.notSynchronized
  subst hsz
  have hD := hD0.self (sz := s.heap.size)
  generalize hAe : va_A [] s.heap.size = A at hD hkn ⊢
  have hA : ∀ q : Nat, s.heap.size ≤ q → A q := fun q h => by rw [← hAe]; exact Or.inr h
  have hS : va_S A s.heap s.heap [] := va_S.rf
  have hP : va_P g classes [] s.heap := hP
  have hl := lv_entry ([.int c0]) (n := 1) (Nat.le_of_ble_eq_true rfl)
  rw [lg_entry_eq]
  generalize (lg_sl ([.int c0]) ++ List.replicate (1 - (lg_sl ([.int c0])).length) Slot.unset).toArray = ls at hl ⊢
  have hl : lv_has ls 1 [(0, .int c0)] := hl
  refine gq (fun Q hQ => ?_)
  obtain ⟨H, hH⟩ : ∃ H : Heap, H = s.heap := ⟨_, rfl⟩
  rw [← hH] at hP
  have hS : va_S A s.heap H [] := by rw [hH]; exact hS
  refine W.eqH hH ?_
  obtain ⟨locs, hlc⟩ : ∃ L : List Loc, L = [] := ⟨_, rfl⟩
  rw [← hlc] at hS ⊢
  unfold p_MoReader_great at hok
  refine lv_iload_n hx hb d_MoReader_great_0 rfl (lv_at hl 0 rfl) ?_
  refine lv_bipush (v := 65) hx hb d_MoReader_great_1 (by decide) ?_
  refine lv_icmp_lt hx hb d_MoReader_great_3 rfl (fun h1 => ?_) (fun h1 => ?_)
  · rw [if_pos h1] at hok
    refine lv_iload_n hx hb d_MoReader_great_12 rfl (lv_at hl 0 rfl) ?_
    refine lv_bipush (v := 95) hx hb d_MoReader_great_13 (by decide) ?_
    refine lv_icmp_ne hx hb d_MoReader_great_15 rfl (fun h2 => ?_) (fun h2 => ?_)
    · rw [if_neg h2] at hok
      refine lv_iconst (v := 0) hx hb d_MoReader_great_22 (by decide) ?_
      have hq := Option.some.inj hok
      have hq0 := hq
      subst hq0
      obtain ⟨hP9, hD9⟩ := sub2 (ws' := []) hP hD [] rfl (by decide) rfl
      rw [hQ]
      exact W.zret (v := 0) hx hb hr rfl (fun t ht hW => ⟨⟨_, (), rfl, rfl, by rw [ht]; exact hP9, hD9⟩, hS.F ht⟩) hS.2.2 d_MoReader_great_23
    · rw [if_pos h2] at hok
      refine lv_iconst (v := 1) hx hb d_MoReader_great_18 (by decide) ?_
      refine lv_goto hx hb d_MoReader_great_19 rfl ?_
      have hq := Option.some.inj hok
      have hq0 := hq
      subst hq0
      obtain ⟨hP9, hD9⟩ := sub2 (ws' := []) hP hD [] rfl (by decide) rfl
      rw [hQ]
      exact W.zret (v := 1) hx hb hr rfl (fun t ht hW => ⟨⟨_, (), rfl, rfl, by rw [ht]; exact hP9, hD9⟩, hS.F ht⟩) hS.2.2 d_MoReader_great_23
  · rw [if_neg h1] at hok
    refine lv_iload_n hx hb d_MoReader_great_6 rfl (lv_at hl 0 rfl) ?_
    refine lv_bipush (v := 90) hx hb d_MoReader_great_7 (by decide) ?_
    refine lv_icmp_le hx hb d_MoReader_great_9 rfl (fun h3 => ?_) (fun h3 => ?_)
    · rw [if_pos h3] at hok
      refine lv_iconst (v := 1) hx hb d_MoReader_great_18 (by decide) ?_
      refine lv_goto hx hb d_MoReader_great_19 rfl ?_
      have hq := Option.some.inj hok
      have hq0 := hq
      subst hq0
      obtain ⟨hP9, hD9⟩ := sub2 (ws' := []) hP hD [] rfl (by decide) rfl
      rw [hQ]
      exact W.zret (v := 1) hx hb hr rfl (fun t ht hW => ⟨⟨_, (), rfl, rfl, by rw [ht]; exact hP9, hD9⟩, hS.F ht⟩) hS.2.2 d_MoReader_great_23
    · rw [if_neg h3] at hok
      refine lv_iload_n hx hb d_MoReader_great_12 rfl (lv_at hl 0 rfl) ?_
      refine lv_bipush (v := 95) hx hb d_MoReader_great_13 (by decide) ?_
      refine lv_icmp_ne hx hb d_MoReader_great_15 rfl (fun h4 => ?_) (fun h4 => ?_)
      · rw [if_neg h4] at hok
        refine lv_iconst (v := 0) hx hb d_MoReader_great_22 (by decide) ?_
        have hq := Option.some.inj hok
        have hq0 := hq
        subst hq0
        obtain ⟨hP9, hD9⟩ := sub2 (ws' := []) hP hD [] rfl (by decide) rfl
        rw [hQ]
        exact W.zret (v := 0) hx hb hr rfl (fun t ht hW => ⟨⟨_, (), rfl, rfl, by rw [ht]; exact hP9, hD9⟩, hS.F ht⟩) hS.2.2 d_MoReader_great_23
      · rw [if_pos h4] at hok
        refine lv_iconst (v := 1) hx hb d_MoReader_great_18 (by decide) ?_
        refine lv_goto hx hb d_MoReader_great_19 rfl ?_
        have hq := Option.some.inj hok
        have hq0 := hq
        subst hq0
        obtain ⟨hP9, hD9⟩ := sub2 (ws' := []) hP hD [] rfl (by decide) rfl
        rw [hQ]
        exact W.zret (v := 1) hx hb hr rfl (fun t ht hW => ⟨⟨_, (), rfl, rfl, by rw [ht]; exact hP9, hD9⟩, hS.F ht⟩) hS.2.2 d_MoReader_great_23

theorem d_MoReader_digit_0 : decode b_MoReader_digit 0 = .ok (.iload_n 0, 1) := by decide +kernel
theorem d_MoReader_digit_1 : decode b_MoReader_digit 1 = .ok (.bipush 48, 2) := by decide +kernel
theorem d_MoReader_digit_3 : decode b_MoReader_digit 3 = .ok (.if_icmp .lt 13, 3) := by decide +kernel
theorem d_MoReader_digit_6 : decode b_MoReader_digit 6 = .ok (.iload_n 0, 1) := by decide +kernel
theorem d_MoReader_digit_7 : decode b_MoReader_digit 7 = .ok (.bipush 57, 2) := by decide +kernel
theorem d_MoReader_digit_9 : decode b_MoReader_digit 9 = .ok (.if_icmp .gt 7, 3) := by decide +kernel
theorem d_MoReader_digit_12 : decode b_MoReader_digit 12 = .ok (.iconst 1, 1) := by decide +kernel
theorem d_MoReader_digit_13 : decode b_MoReader_digit 13 = .ok (.goto 4, 3) := by decide +kernel
theorem d_MoReader_digit_16 : decode b_MoReader_digit 16 = .ok (.iconst 0, 1) := by decide +kernel
theorem d_MoReader_digit_17 : decode b_MoReader_digit 17 = .ok (.ireturn, 1) := by decide +kernel
def p_MoReader_digit (c0 : Int32) : Option Int32 := if c0 < 48 then (some (0 : Int32)) else (if 57 < c0 then (some (0 : Int32)) else (some (1 : Int32)))
set_option maxHeartbeats 40000000 in
set_option maxRecDepth 100000 in
theorem c_MoReader_digit (l : Launch) (g : va_G) (cs : Nat → ClassId) (ka : Nat → Nat) (sz : Nat) (c0 : Int32) (r : Int32) (hok : p_MoReader_digit c0 = some r) : Met l y_MoReader_digit (.code y_MoReader_digit b_MoReader_digit 1 (some .boolean) :: GW) { frames := 0, cells := 0, slots := 0, locals := 0 } (va_Pc [.int c0] (gP g cs ka [] sz)) (va_Qi (fun (r' : Int32) (_ : Unit) => r = r') (fun _ t => va_P g classes [] t.heap ∧ va_D (va_A [] sz) []) (va_A [] sz)) 0 0 (va_A [] sz) := by
  refine Met.ofW (cc := b_MoReader_digit) (maxL := 1) (ret := (some .boolean)) (by decide) rfl ?_
  intro p e s m args below meth c s₁ B hml hv
  obtain ⟨rfl, hsz, hP, hK, hD0, hgl, hkn, hkr⟩ := hv
  have hx := B.exec
  have hb := B.bytes
  have hr := B.returns
  have hg : ∀ w ∈ GW, w.before ([.int c0] : List Value).toArray s = true := fun w hw => atoms_spec (ws := .code y_MoReader_digit b_MoReader_digit 1 (some .boolean) :: GW) B.pre w (List.mem_cons_of_mem _ hw)
  have hown : s.vm.findClass R_MoReader = some m.cls := findClass_of_methodNamed B.named
  have hlocks := B.notSynchronized
  subst hsz
  have hD := hD0.self (sz := s.heap.size)
  generalize hAe : va_A [] s.heap.size = A at hD hkn ⊢
  have hA : ∀ q : Nat, s.heap.size ≤ q → A q := fun q h => by rw [← hAe]; exact Or.inr h
  have hS : va_S A s.heap s.heap [] := va_S.rf
  have hP : va_P g classes [] s.heap := hP
  have hl := lv_entry ([.int c0]) (n := 1) (Nat.le_of_ble_eq_true rfl)
  rw [lg_entry_eq]
  generalize (lg_sl ([.int c0]) ++ List.replicate (1 - (lg_sl ([.int c0])).length) Slot.unset).toArray = ls at hl ⊢
  have hl : lv_has ls 1 [(0, .int c0)] := hl
  refine gq (fun Q hQ => ?_)
  obtain ⟨H, hH⟩ : ∃ H : Heap, H = s.heap := ⟨_, rfl⟩
  rw [← hH] at hP
  have hS : va_S A s.heap H [] := by rw [hH]; exact hS
  refine W.eqH hH ?_
  obtain ⟨locs, hlc⟩ : ∃ L : List Loc, L = [] := ⟨_, rfl⟩
  rw [← hlc] at hS ⊢
  unfold p_MoReader_digit at hok
  refine lv_iload_n hx hb d_MoReader_digit_0 rfl (lv_at hl 0 rfl) ?_
  refine lv_bipush (v := 48) hx hb d_MoReader_digit_1 (by decide) ?_
  refine lv_icmp_lt hx hb d_MoReader_digit_3 rfl (fun h1 => ?_) (fun h1 => ?_)
  · rw [if_pos h1] at hok
    refine lv_iconst (v := 0) hx hb d_MoReader_digit_16 (by decide) ?_
    have hq := Option.some.inj hok
    have hq0 := hq
    subst hq0
    obtain ⟨hP9, hD9⟩ := sub2 (ws' := []) hP hD [] rfl (by decide) rfl
    rw [hQ]
    exact W.zret (v := 0) hx hb hr rfl (fun t ht hW => ⟨⟨_, (), rfl, rfl, by rw [ht]; exact hP9, hD9⟩, hS.F ht⟩) hS.2.2 d_MoReader_digit_17
  · rw [if_neg h1] at hok
    refine lv_iload_n hx hb d_MoReader_digit_6 rfl (lv_at hl 0 rfl) ?_
    refine lv_bipush (v := 57) hx hb d_MoReader_digit_7 (by decide) ?_
    refine lv_icmp_gt hx hb d_MoReader_digit_9 rfl (fun h2 => ?_) (fun h2 => ?_)
    · rw [if_pos h2] at hok
      refine lv_iconst (v := 0) hx hb d_MoReader_digit_16 (by decide) ?_
      have hq := Option.some.inj hok
      have hq0 := hq
      subst hq0
      obtain ⟨hP9, hD9⟩ := sub2 (ws' := []) hP hD [] rfl (by decide) rfl
      rw [hQ]
      exact W.zret (v := 0) hx hb hr rfl (fun t ht hW => ⟨⟨_, (), rfl, rfl, by rw [ht]; exact hP9, hD9⟩, hS.F ht⟩) hS.2.2 d_MoReader_digit_17
    · rw [if_neg h2] at hok
      refine lv_iconst (v := 1) hx hb d_MoReader_digit_12 (by decide) ?_
      refine lv_goto hx hb d_MoReader_digit_13 rfl ?_
      have hq := Option.some.inj hok
      have hq0 := hq
      subst hq0
      obtain ⟨hP9, hD9⟩ := sub2 (ws' := []) hP hD [] rfl (by decide) rfl
      rw [hQ]
      exact W.zret (v := 1) hx hb hr rfl (fun t ht hW => ⟨⟨_, (), rfl, rfl, by rw [ht]; exact hP9, hD9⟩, hS.F ht⟩) hS.2.2 d_MoReader_digit_17

theorem d_MoReader_blank_0 : decode b_MoReader_blank 0 = .ok (.iload_n 0, 1) := by decide +kernel
theorem d_MoReader_blank_1 : decode b_MoReader_blank 1 = .ok (.bipush 9, 2) := by decide +kernel
theorem d_MoReader_blank_3 : decode b_MoReader_blank 3 = .ok (.if_icmp .eq 21, 3) := by decide +kernel
theorem d_MoReader_blank_6 : decode b_MoReader_blank 6 = .ok (.iload_n 0, 1) := by decide +kernel
theorem d_MoReader_blank_7 : decode b_MoReader_blank 7 = .ok (.bipush 10, 2) := by decide +kernel
theorem d_MoReader_blank_9 : decode b_MoReader_blank 9 = .ok (.if_icmp .eq 15, 3) := by decide +kernel
theorem d_MoReader_blank_12 : decode b_MoReader_blank 12 = .ok (.iload_n 0, 1) := by decide +kernel
theorem d_MoReader_blank_13 : decode b_MoReader_blank 13 = .ok (.bipush 13, 2) := by decide +kernel
theorem d_MoReader_blank_15 : decode b_MoReader_blank 15 = .ok (.if_icmp .eq 9, 3) := by decide +kernel
theorem d_MoReader_blank_18 : decode b_MoReader_blank 18 = .ok (.iload_n 0, 1) := by decide +kernel
theorem d_MoReader_blank_19 : decode b_MoReader_blank 19 = .ok (.bipush 32, 2) := by decide +kernel
theorem d_MoReader_blank_21 : decode b_MoReader_blank 21 = .ok (.if_icmp .ne 7, 3) := by decide +kernel
theorem d_MoReader_blank_24 : decode b_MoReader_blank 24 = .ok (.iconst 1, 1) := by decide +kernel
theorem d_MoReader_blank_25 : decode b_MoReader_blank 25 = .ok (.goto 4, 3) := by decide +kernel
theorem d_MoReader_blank_28 : decode b_MoReader_blank 28 = .ok (.iconst 0, 1) := by decide +kernel
theorem d_MoReader_blank_29 : decode b_MoReader_blank 29 = .ok (.ireturn, 1) := by decide +kernel
def p_MoReader_blank (c0 : Int32) : Option Int32 := if c0 = 9 then (some (1 : Int32)) else (if c0 = 10 then (some (1 : Int32)) else (if c0 = 13 then (some (1 : Int32)) else (if c0 = 32 then (some (1 : Int32)) else (some (0 : Int32)))))
set_option maxHeartbeats 40000000 in
set_option maxRecDepth 100000 in
theorem c_MoReader_blank (l : Launch) (g : va_G) (cs : Nat → ClassId) (ka : Nat → Nat) (sz : Nat) (c0 : Int32) (r : Int32) (hok : p_MoReader_blank c0 = some r) : Met l y_MoReader_blank (.code y_MoReader_blank b_MoReader_blank 1 (some .boolean) :: GW) { frames := 0, cells := 0, slots := 0, locals := 0 } (va_Pc [.int c0] (gP g cs ka [] sz)) (va_Qi (fun (r' : Int32) (_ : Unit) => r = r') (fun _ t => va_P g classes [] t.heap ∧ va_D (va_A [] sz) []) (va_A [] sz)) 0 0 (va_A [] sz) := by
  refine Met.ofW (cc := b_MoReader_blank) (maxL := 1) (ret := (some .boolean)) (by decide) rfl ?_
  intro p e s m args below meth c s₁ B hml hv
  obtain ⟨rfl, hsz, hP, hK, hD0, hgl, hkn, hkr⟩ := hv
  have hx := B.exec
  have hb := B.bytes
  have hr := B.returns
  have hg : ∀ w ∈ GW, w.before ([.int c0] : List Value).toArray s = true := fun w hw => atoms_spec (ws := .code y_MoReader_blank b_MoReader_blank 1 (some .boolean) :: GW) B.pre w (List.mem_cons_of_mem _ hw)
  have hown : s.vm.findClass R_MoReader = some m.cls := findClass_of_methodNamed B.named
  have hlocks := B.notSynchronized
  subst hsz
  have hD := hD0.self (sz := s.heap.size)
  generalize hAe : va_A [] s.heap.size = A at hD hkn ⊢
  have hA : ∀ q : Nat, s.heap.size ≤ q → A q := fun q h => by rw [← hAe]; exact Or.inr h
  have hS : va_S A s.heap s.heap [] := va_S.rf
  have hP : va_P g classes [] s.heap := hP
  have hl := lv_entry ([.int c0]) (n := 1) (Nat.le_of_ble_eq_true rfl)
  rw [lg_entry_eq]
  generalize (lg_sl ([.int c0]) ++ List.replicate (1 - (lg_sl ([.int c0])).length) Slot.unset).toArray = ls at hl ⊢
  have hl : lv_has ls 1 [(0, .int c0)] := hl
  refine gq (fun Q hQ => ?_)
  obtain ⟨H, hH⟩ : ∃ H : Heap, H = s.heap := ⟨_, rfl⟩
  rw [← hH] at hP
  have hS : va_S A s.heap H [] := by rw [hH]; exact hS
  refine W.eqH hH ?_
  obtain ⟨locs, hlc⟩ : ∃ L : List Loc, L = [] := ⟨_, rfl⟩
  rw [← hlc] at hS ⊢
  unfold p_MoReader_blank at hok
  refine lv_iload_n hx hb d_MoReader_blank_0 rfl (lv_at hl 0 rfl) ?_
  refine lv_bipush (v := 9) hx hb d_MoReader_blank_1 (by decide) ?_
  refine lv_icmp_eq hx hb d_MoReader_blank_3 rfl (fun h1 => ?_) (fun h1 => ?_)
  · rw [if_pos h1] at hok
    refine lv_iconst (v := 1) hx hb d_MoReader_blank_24 (by decide) ?_
    refine lv_goto hx hb d_MoReader_blank_25 rfl ?_
    have hq := Option.some.inj hok
    have hq0 := hq
    subst hq0
    obtain ⟨hP9, hD9⟩ := sub2 (ws' := []) hP hD [] rfl (by decide) rfl
    rw [hQ]
    exact W.zret (v := 1) hx hb hr rfl (fun t ht hW => ⟨⟨_, (), rfl, rfl, by rw [ht]; exact hP9, hD9⟩, hS.F ht⟩) hS.2.2 d_MoReader_blank_29
  · rw [if_neg h1] at hok
    refine lv_iload_n hx hb d_MoReader_blank_6 rfl (lv_at hl 0 rfl) ?_
    refine lv_bipush (v := 10) hx hb d_MoReader_blank_7 (by decide) ?_
    refine lv_icmp_eq hx hb d_MoReader_blank_9 rfl (fun h2 => ?_) (fun h2 => ?_)
    · rw [if_pos h2] at hok
      refine lv_iconst (v := 1) hx hb d_MoReader_blank_24 (by decide) ?_
      refine lv_goto hx hb d_MoReader_blank_25 rfl ?_
      have hq := Option.some.inj hok
      have hq0 := hq
      subst hq0
      obtain ⟨hP9, hD9⟩ := sub2 (ws' := []) hP hD [] rfl (by decide) rfl
      rw [hQ]
      exact W.zret (v := 1) hx hb hr rfl (fun t ht hW => ⟨⟨_, (), rfl, rfl, by rw [ht]; exact hP9, hD9⟩, hS.F ht⟩) hS.2.2 d_MoReader_blank_29
    · rw [if_neg h2] at hok
      refine lv_iload_n hx hb d_MoReader_blank_12 rfl (lv_at hl 0 rfl) ?_
      refine lv_bipush (v := 13) hx hb d_MoReader_blank_13 (by decide) ?_
      refine lv_icmp_eq hx hb d_MoReader_blank_15 rfl (fun h3 => ?_) (fun h3 => ?_)
      · rw [if_pos h3] at hok
        refine lv_iconst (v := 1) hx hb d_MoReader_blank_24 (by decide) ?_
        refine lv_goto hx hb d_MoReader_blank_25 rfl ?_
        have hq := Option.some.inj hok
        have hq0 := hq
        subst hq0
        obtain ⟨hP9, hD9⟩ := sub2 (ws' := []) hP hD [] rfl (by decide) rfl
        rw [hQ]
        exact W.zret (v := 1) hx hb hr rfl (fun t ht hW => ⟨⟨_, (), rfl, rfl, by rw [ht]; exact hP9, hD9⟩, hS.F ht⟩) hS.2.2 d_MoReader_blank_29
      · rw [if_neg h3] at hok
        refine lv_iload_n hx hb d_MoReader_blank_18 rfl (lv_at hl 0 rfl) ?_
        refine lv_bipush (v := 32) hx hb d_MoReader_blank_19 (by decide) ?_
        refine lv_icmp_ne hx hb d_MoReader_blank_21 rfl (fun h4 => ?_) (fun h4 => ?_)
        · rw [if_neg h4] at hok
          refine lv_iconst (v := 0) hx hb d_MoReader_blank_28 (by decide) ?_
          have hq := Option.some.inj hok
          have hq0 := hq
          subst hq0
          obtain ⟨hP9, hD9⟩ := sub2 (ws' := []) hP hD [] rfl (by decide) rfl
          rw [hQ]
          exact W.zret (v := 0) hx hb hr rfl (fun t ht hW => ⟨⟨_, (), rfl, rfl, by rw [ht]; exact hP9, hD9⟩, hS.F ht⟩) hS.2.2 d_MoReader_blank_29
        · rw [if_pos h4] at hok
          refine lv_iconst (v := 1) hx hb d_MoReader_blank_24 (by decide) ?_
          refine lv_goto hx hb d_MoReader_blank_25 rfl ?_
          have hq := Option.some.inj hok
          have hq0 := hq
          subst hq0
          obtain ⟨hP9, hD9⟩ := sub2 (ws' := []) hP hD [] rfl (by decide) rfl
          rw [hQ]
          exact W.zret (v := 1) hx hb hr rfl (fun t ht hW => ⟨⟨_, (), rfl, rfl, by rw [ht]; exact hP9, hD9⟩, hS.F ht⟩) hS.2.2 d_MoReader_blank_29

theorem d_MoReader_letter_0 : decode b_MoReader_letter 0 = .ok (.aload_n 0, 1) := by decide +kernel
theorem d_MoReader_letter_1 : decode b_MoReader_letter 1 = .ok (.getfield 68, 3) := by decide +kernel
theorem d_MoReader_letter_4 : decode b_MoReader_letter 4 = .ok (.aload_n 0, 1) := by decide +kernel
theorem d_MoReader_letter_5 : decode b_MoReader_letter 5 = .ok (.getfield 139, 3) := by decide +kernel
theorem d_MoReader_letter_8 : decode b_MoReader_letter 8 = .ok (.iload_n 1, 1) := by decide +kernel
theorem d_MoReader_letter_9 : decode b_MoReader_letter 9 = .ok (.i2b, 1) := by decide +kernel
theorem d_MoReader_letter_10 : decode b_MoReader_letter 10 = .ok (.bastore, 1) := by decide +kernel
theorem d_MoReader_letter_11 : decode b_MoReader_letter 11 = .ok (.aload_n 0, 1) := by decide +kernel
theorem d_MoReader_letter_12 : decode b_MoReader_letter 12 = .ok (.dup, 1) := by decide +kernel
theorem d_MoReader_letter_13 : decode b_MoReader_letter 13 = .ok (.getfield 139, 3) := by decide +kernel
theorem d_MoReader_letter_16 : decode b_MoReader_letter 16 = .ok (.iconst 1, 1) := by decide +kernel
theorem d_MoReader_letter_17 : decode b_MoReader_letter 17 = .ok (.iadd, 1) := by decide +kernel
theorem d_MoReader_letter_18 : decode b_MoReader_letter 18 = .ok (.putfield 139, 3) := by decide +kernel
theorem d_MoReader_letter_21 : decode b_MoReader_letter 21 = .ok (.return_, 1) := by decide +kernel
def p_MoReader_letter (c0 : Int32) (a_n : Int32) (a_at : Int32) (a_behind : Int32) (a_token : Int32) (a_open : Int32) (a_number : Int64) (a_letters : Int32) (a_top : Int32) (a_place : Int32) (a_variabled : Int32) (a_known : Int32) (a_rank : Int32) (a_word_n : Nat) (a_word_f : Nat → Int32) : Option (Int32 × (Nat → Int32)) := ck (ixb a_letters a_word_n) (some (a_letters + 1, upd a_word_f a_letters.toNatClampNeg (vp_nar .byte c0.toInt8.toInt32)))
set_option maxHeartbeats 40000000 in
set_option maxRecDepth 100000 in
theorem c_MoReader_letter (l : Launch) (g : va_G) (cs : Nat → ClassId) (ka : Nat → Nat) (a_sides : Nat) (a_ranks : Nat) (a_stop : Nat) (a_terms : Nat) (a_names : Nat) (a_s : Nat) (a_stack : Nat) (a_variables : Nat) (a_kept : Nat) (a a_word : Nat) (sz : Nat) (c0 : Int32) (a_n : Int32) (a_at : Int32) (a_behind : Int32) (a_token : Int32) (a_open : Int32) (a_number : Int64) (a_letters : Int32) (a_top : Int32) (a_place : Int32) (a_variabled : Int32) (a_known : Int32) (a_rank : Int32) (a_word_n : Nat) (a_word_f : Nat → Int32) (o_a_letters : Int32) (o_a_word_f : Nat → Int32) (hok : p_MoReader_letter c0 a_n a_at a_behind a_token a_open a_number a_letters a_top a_place a_variabled a_known a_rank a_word_n a_word_f = some (o_a_letters, o_a_word_f)) : Met l y_MoReader_letter (.code y_MoReader_letter b_MoReader_letter 2 none :: GW) { frames := 0, cells := 0, slots := 0, locals := 0 } (va_Pc [.ref a, .int c0] (gP g cs ka [(a, .inr (12, [.ref a_sides, .ref a_ranks, .ref a_stop, .ref a_terms, .ref a_names, .ref a_s, .int a_n, .int a_at, .int a_behind, .int a_token, .int a_open, .long a_number, .ref a_word, .int a_letters, .ref a_stack, .int a_top, .int a_place, .ref a_variables, .int a_variabled, .int a_known, .int a_rank, .ref a_kept])), (a_word, .inl (cs 1, a_word_n, .inl a_word_f))] sz)) (va_Qv (fun _ : Unit => True) (fun _ t => va_P g classes [(a, .inr (12, [.ref a_sides, .ref a_ranks, .ref a_stop, .ref a_terms, .ref a_names, .ref a_s, .int a_n, .int a_at, .int a_behind, .int a_token, .int a_open, .long a_number, .ref a_word, .int o_a_letters, .ref a_stack, .int a_top, .int a_place, .ref a_variables, .int a_variabled, .int a_known, .int a_rank, .ref a_kept])), (a_word, .inl (cs 1, a_word_n, .inl o_a_word_f))] t.heap ∧ va_D (va_A [(a, .inr (12, [.ref a_sides, .ref a_ranks, .ref a_stop, .ref a_terms, .ref a_names, .ref a_s, .int a_n, .int a_at, .int a_behind, .int a_token, .int a_open, .long a_number, .ref a_word, .int a_letters, .ref a_stack, .int a_top, .int a_place, .ref a_variables, .int a_variabled, .int a_known, .int a_rank, .ref a_kept])), (a_word, .inl (cs 1, a_word_n, .inl a_word_f))] sz) [(a, .inr (12, [.ref a_sides, .ref a_ranks, .ref a_stop, .ref a_terms, .ref a_names, .ref a_s, .int a_n, .int a_at, .int a_behind, .int a_token, .int a_open, .long a_number, .ref a_word, .int o_a_letters, .ref a_stack, .int a_top, .int a_place, .ref a_variables, .int a_variabled, .int a_known, .int a_rank, .ref a_kept])), (a_word, .inl (cs 1, a_word_n, .inl o_a_word_f))]) (va_A [(a, .inr (12, [.ref a_sides, .ref a_ranks, .ref a_stop, .ref a_terms, .ref a_names, .ref a_s, .int a_n, .int a_at, .int a_behind, .int a_token, .int a_open, .long a_number, .ref a_word, .int a_letters, .ref a_stack, .int a_top, .int a_place, .ref a_variables, .int a_variabled, .int a_known, .int a_rank, .ref a_kept])), (a_word, .inl (cs 1, a_word_n, .inl a_word_f))] sz)) 0 0 (va_A [(a, .inr (12, [.ref a_sides, .ref a_ranks, .ref a_stop, .ref a_terms, .ref a_names, .ref a_s, .int a_n, .int a_at, .int a_behind, .int a_token, .int a_open, .long a_number, .ref a_word, .int a_letters, .ref a_stack, .int a_top, .int a_place, .ref a_variables, .int a_variabled, .int a_known, .int a_rank, .ref a_kept])), (a_word, .inl (cs 1, a_word_n, .inl a_word_f))] sz) := by
  refine Met.ofW (cc := b_MoReader_letter) (maxL := 2) (ret := none) (by decide) rfl ?_
  intro p e s m args below meth c s₁ B hml hv
  obtain ⟨rfl, hsz, hP, hK, hD0, hgl, hkn, hkr⟩ := hv
  have hx := B.exec
  have hb := B.bytes
  have hr := B.returns
  have hg : ∀ w ∈ GW, w.before ([.ref a, .int c0] : List Value).toArray s = true := fun w hw => atoms_spec (ws := .code y_MoReader_letter b_MoReader_letter 2 none :: GW) B.pre w (List.mem_cons_of_mem _ hw)
  have hown : s.vm.findClass R_MoReader = some m.cls := findClass_of_methodNamed B.named
  have hlocks := B.notSynchronized
  subst hsz
  have hD := hD0.self (sz := s.heap.size)
  generalize hAe : va_A [(a, .inr (12, [.ref a_sides, .ref a_ranks, .ref a_stop, .ref a_terms, .ref a_names, .ref a_s, .int a_n, .int a_at, .int a_behind, .int a_token, .int a_open, .long a_number, .ref a_word, .int a_letters, .ref a_stack, .int a_top, .int a_place, .ref a_variables, .int a_variabled, .int a_known, .int a_rank, .ref a_kept])), (a_word, .inl (cs 1, a_word_n, .inl a_word_f))] s.heap.size = A at hD hkn ⊢
  have hA : ∀ q : Nat, s.heap.size ≤ q → A q := fun q h => by rw [← hAe]; exact Or.inr h
  have hS : va_S A s.heap s.heap [] := va_S.rf
  have hP : va_P g classes [(a, .inr (12, [.ref a_sides, .ref a_ranks, .ref a_stop, .ref a_terms, .ref a_names, .ref a_s, .int a_n, .int a_at, .int a_behind, .int a_token, .int a_open, .long a_number, .ref a_word, .int a_letters, .ref a_stack, .int a_top, .int a_place, .ref a_variables, .int a_variabled, .int a_known, .int a_rank, .ref a_kept])), (a_word, .inl (cs 1, a_word_n, .inl a_word_f))] s.heap := hP
  have hl := lv_entry ([.ref a, .int c0]) (n := 2) (Nat.le_of_ble_eq_true rfl)
  rw [lg_entry_eq]
  generalize (lg_sl ([.ref a, .int c0]) ++ List.replicate (2 - (lg_sl ([.ref a, .int c0])).length) Slot.unset).toArray = ls at hl ⊢
  have hl : lv_has ls 2 [(0, .ref a), (1, .int c0)] := hl
  refine gq (fun Q hQ => ?_)
  obtain ⟨H, hH⟩ : ∃ H : Heap, H = s.heap := ⟨_, rfl⟩
  rw [← hH] at hP
  have hS : va_S A s.heap H [] := by rw [hH]; exact hS
  refine W.eqH hH ?_
  obtain ⟨locs, hlc⟩ : ∃ L : List Loc, L = [] := ⟨_, rfl⟩
  rw [← hlc] at hS ⊢
  unfold p_MoReader_letter at hok
  refine lv_aload_n hx hb d_MoReader_letter_0 rfl (lv_at hl 0 rfl) ?_
  refine va_get (D := g) (ci := 12) (v := .ref a_word) (C := R_MoReader) (T := F_MoReader) (N := 22) hx hb hg ul_MoReader hown hK hP 0 rfl rfl 12 (by decide) (hg _ wd_1177) (fun _ h9 => h9) rfl d_MoReader_letter_1 ?_
  refine lv_aload_n hx hb d_MoReader_letter_4 rfl (lv_at hl 0 rfl) ?_
  refine va_get (D := g) (ci := 12) (v := .int a_letters) (C := R_MoReader) (T := F_MoReader) (N := 22) hx hb hg ul_MoReader hown hK hP 0 rfl rfl 13 (by decide) (hg _ wd_1178) (fun _ h9 => h9) rfl d_MoReader_letter_5 ?_
  refine lv_iload_n hx hb d_MoReader_letter_8 rfl (lv_at hl 1 rfl) ?_
  refine lv_i2b hx hb d_MoReader_letter_9 rfl ?_
  obtain ⟨hi1, hok⟩ := ck_some hok
  refine va_bast hx hb hK hP hD hS 1 1 rfl rfl (ixb_in hi1) d_MoReader_letter_10 (fun H locs hP hD hS => ?_)
  obtain ⟨hP, hD⟩ : PD g A H [(a, .inr (12, [.ref a_sides, .ref a_ranks, .ref a_stop, .ref a_terms, .ref a_names, .ref a_s, .int a_n, .int a_at, .int a_behind, .int a_token, .int a_open, .long a_number, .ref a_word, .int a_letters, .ref a_stack, .int a_top, .int a_place, .ref a_variables, .int a_variabled, .int a_known, .int a_rank, .ref a_kept])), (a_word, .inl (cs 1, a_word_n, .inl (upd a_word_f a_letters.toNatClampNeg (vp_nar .byte c0.toInt8.toInt32))))] := ⟨hP, hD⟩
  refine lv_aload_n hx hb d_MoReader_letter_11 rfl (lv_at hl 0 rfl) ?_
  refine lv_dup hx hb d_MoReader_letter_12 rfl ?_
  refine va_get (D := g) (ci := 12) (v := .int a_letters) (C := R_MoReader) (T := F_MoReader) (N := 22) hx hb hg ul_MoReader hown hK hP 0 rfl rfl 13 (by decide) (hg _ wd_1178) (fun _ h9 => h9) rfl d_MoReader_letter_13 ?_
  refine lv_iconst (v := 1) hx hb d_MoReader_letter_16 (by decide) ?_
  refine lv_iadd hx hb d_MoReader_letter_17 ?_
  refine va_put (D := g) (ci := 12) (v := .int (a_letters + 1)) (ty := .int) (C := R_MoReader) (T := F_MoReader) (N := 22) hx hb hg ul_MoReader t_MoReader tk_MoReader n_MoReader hown hK hP hD hS 0 rfl rfl 13 (by decide) (hg _ wd_1178) (fun _ h9 => h9) rfl (by decide +kernel) rfl rfl (Nat.le_of_ble_eq_true rfl) d_MoReader_letter_18 (fun H locs hP hD hS => ?_)
  obtain ⟨hP, hD⟩ : PD g A H [(a, .inr (12, [.ref a_sides, .ref a_ranks, .ref a_stop, .ref a_terms, .ref a_names, .ref a_s, .int a_n, .int a_at, .int a_behind, .int a_token, .int a_open, .long a_number, .ref a_word, .int (a_letters + 1), .ref a_stack, .int a_top, .int a_place, .ref a_variables, .int a_variabled, .int a_known, .int a_rank, .ref a_kept])), (a_word, .inl (cs 1, a_word_n, .inl (upd a_word_f a_letters.toNatClampNeg (vp_nar .byte c0.toInt8.toInt32))))] := ⟨hP, hD⟩
  have hq := Option.some.inj hok
  obtain ⟨hq0, hq⟩ := Prod.mk.inj hq
  have hq1 := hq
  subst hq0
  subst hq1
  obtain ⟨hP9, hD9⟩ := sub2 (ws' := [(a, .inr (12, [.ref a_sides, .ref a_ranks, .ref a_stop, .ref a_terms, .ref a_names, .ref a_s, .int a_n, .int a_at, .int a_behind, .int a_token, .int a_open, .long a_number, .ref a_word, .int (a_letters + 1), .ref a_stack, .int a_top, .int a_place, .ref a_variables, .int a_variabled, .int a_known, .int a_rank, .ref a_kept])), (a_word, .inl (cs 1, a_word_n, .inl (upd a_word_f a_letters.toNatClampNeg (vp_nar .byte c0.toInt8.toInt32))))]) hP hD [0, 1] rfl (by decide) rfl
  rw [hQ]
  exact W.vret hx hb hr (fun t ht hW => ⟨⟨(), rfl, trivial, by rw [ht]; exact hP9, hD9⟩, hS.F ht⟩) hS.2.2 d_MoReader_letter_21

theorem d_MoReader_take_0 : decode b_MoReader_take 0 = .ok (.aload_n 0, 1) := by decide +kernel
theorem d_MoReader_take_1 : decode b_MoReader_take 1 = .ok (.iload_n 1, 1) := by decide +kernel
theorem d_MoReader_take_2 : decode b_MoReader_take 2 = .ok (.putfield 123, 3) := by decide +kernel
theorem d_MoReader_take_5 : decode b_MoReader_take 5 = .ok (.aload_n 0, 1) := by decide +kernel
theorem d_MoReader_take_6 : decode b_MoReader_take 6 = .ok (.iload_n 2, 1) := by decide +kernel
theorem d_MoReader_take_7 : decode b_MoReader_take 7 = .ok (.putfield 96, 3) := by decide +kernel
theorem d_MoReader_take_10 : decode b_MoReader_take 10 = .ok (.return_, 1) := by decide +kernel
def p_MoReader_take (which : Int32) (to_ : Int32) (a_n : Int32) (a_at : Int32) (a_behind : Int32) (a_token : Int32) (a_open : Int32) (a_number : Int64) (a_letters : Int32) (a_top : Int32) (a_place : Int32) (a_variabled : Int32) (a_known : Int32) (a_rank : Int32) : Option (Int32 × Int32) := some (to_, which)
set_option maxHeartbeats 40000000 in
set_option maxRecDepth 100000 in
theorem c_MoReader_take (l : Launch) (g : va_G) (cs : Nat → ClassId) (ka : Nat → Nat) (a_sides : Nat) (a_ranks : Nat) (a_stop : Nat) (a_terms : Nat) (a_names : Nat) (a_s : Nat) (a_word : Nat) (a_stack : Nat) (a_variables : Nat) (a_kept : Nat) (a : Nat) (sz : Nat) (which : Int32) (to_ : Int32) (a_n : Int32) (a_at : Int32) (a_behind : Int32) (a_token : Int32) (a_open : Int32) (a_number : Int64) (a_letters : Int32) (a_top : Int32) (a_place : Int32) (a_variabled : Int32) (a_known : Int32) (a_rank : Int32) (o_a_behind : Int32) (o_a_token : Int32) (hok : p_MoReader_take which to_ a_n a_at a_behind a_token a_open a_number a_letters a_top a_place a_variabled a_known a_rank = some (o_a_behind, o_a_token)) : Met l y_MoReader_take (.code y_MoReader_take b_MoReader_take 3 none :: GW) { frames := 0, cells := 0, slots := 0, locals := 0 } (va_Pc [.ref a, .int which, .int to_] (gP g cs ka [(a, .inr (12, [.ref a_sides, .ref a_ranks, .ref a_stop, .ref a_terms, .ref a_names, .ref a_s, .int a_n, .int a_at, .int a_behind, .int a_token, .int a_open, .long a_number, .ref a_word, .int a_letters, .ref a_stack, .int a_top, .int a_place, .ref a_variables, .int a_variabled, .int a_known, .int a_rank, .ref a_kept]))] sz)) (va_Qv (fun _ : Unit => True) (fun _ t => va_P g classes [(a, .inr (12, [.ref a_sides, .ref a_ranks, .ref a_stop, .ref a_terms, .ref a_names, .ref a_s, .int a_n, .int a_at, .int o_a_behind, .int o_a_token, .int a_open, .long a_number, .ref a_word, .int a_letters, .ref a_stack, .int a_top, .int a_place, .ref a_variables, .int a_variabled, .int a_known, .int a_rank, .ref a_kept]))] t.heap ∧ va_D (va_A [(a, .inr (12, [.ref a_sides, .ref a_ranks, .ref a_stop, .ref a_terms, .ref a_names, .ref a_s, .int a_n, .int a_at, .int a_behind, .int a_token, .int a_open, .long a_number, .ref a_word, .int a_letters, .ref a_stack, .int a_top, .int a_place, .ref a_variables, .int a_variabled, .int a_known, .int a_rank, .ref a_kept]))] sz) [(a, .inr (12, [.ref a_sides, .ref a_ranks, .ref a_stop, .ref a_terms, .ref a_names, .ref a_s, .int a_n, .int a_at, .int o_a_behind, .int o_a_token, .int a_open, .long a_number, .ref a_word, .int a_letters, .ref a_stack, .int a_top, .int a_place, .ref a_variables, .int a_variabled, .int a_known, .int a_rank, .ref a_kept]))]) (va_A [(a, .inr (12, [.ref a_sides, .ref a_ranks, .ref a_stop, .ref a_terms, .ref a_names, .ref a_s, .int a_n, .int a_at, .int a_behind, .int a_token, .int a_open, .long a_number, .ref a_word, .int a_letters, .ref a_stack, .int a_top, .int a_place, .ref a_variables, .int a_variabled, .int a_known, .int a_rank, .ref a_kept]))] sz)) 0 0 (va_A [(a, .inr (12, [.ref a_sides, .ref a_ranks, .ref a_stop, .ref a_terms, .ref a_names, .ref a_s, .int a_n, .int a_at, .int a_behind, .int a_token, .int a_open, .long a_number, .ref a_word, .int a_letters, .ref a_stack, .int a_top, .int a_place, .ref a_variables, .int a_variabled, .int a_known, .int a_rank, .ref a_kept]))] sz) := by
  refine Met.ofW (cc := b_MoReader_take) (maxL := 3) (ret := none) (by decide) rfl ?_
  intro p e s m args below meth c s₁ B hml hv
  obtain ⟨rfl, hsz, hP, hK, hD0, hgl, hkn, hkr⟩ := hv
  have hx := B.exec
  have hb := B.bytes
  have hr := B.returns
  have hg : ∀ w ∈ GW, w.before ([.ref a, .int which, .int to_] : List Value).toArray s = true := fun w hw => atoms_spec (ws := .code y_MoReader_take b_MoReader_take 3 none :: GW) B.pre w (List.mem_cons_of_mem _ hw)
  have hown : s.vm.findClass R_MoReader = some m.cls := findClass_of_methodNamed B.named
  have hlocks := B.notSynchronized
  subst hsz
  have hD := hD0.self (sz := s.heap.size)
  generalize hAe : va_A [(a, .inr (12, [.ref a_sides, .ref a_ranks, .ref a_stop, .ref a_terms, .ref a_names, .ref a_s, .int a_n, .int a_at, .int a_behind, .int a_token, .int a_open, .long a_number, .ref a_word, .int a_letters, .ref a_stack, .int a_top, .int a_place, .ref a_variables, .int a_variabled, .int a_known, .int a_rank, .ref a_kept]))] s.heap.size = A at hD hkn ⊢
  have hA : ∀ q : Nat, s.heap.size ≤ q → A q := fun q h => by rw [← hAe]; exact Or.inr h
  have hS : va_S A s.heap s.heap [] := va_S.rf
  have hP : va_P g classes [(a, .inr (12, [.ref a_sides, .ref a_ranks, .ref a_stop, .ref a_terms, .ref a_names, .ref a_s, .int a_n, .int a_at, .int a_behind, .int a_token, .int a_open, .long a_number, .ref a_word, .int a_letters, .ref a_stack, .int a_top, .int a_place, .ref a_variables, .int a_variabled, .int a_known, .int a_rank, .ref a_kept]))] s.heap := hP
  have hl := lv_entry ([.ref a, .int which, .int to_]) (n := 3) (Nat.le_of_ble_eq_true rfl)
  rw [lg_entry_eq]
  generalize (lg_sl ([.ref a, .int which, .int to_]) ++ List.replicate (3 - (lg_sl ([.ref a, .int which, .int to_])).length) Slot.unset).toArray = ls at hl ⊢
  have hl : lv_has ls 3 [(0, .ref a), (1, .int which), (2, .int to_)] := hl
  refine gq (fun Q hQ => ?_)
  obtain ⟨H, hH⟩ : ∃ H : Heap, H = s.heap := ⟨_, rfl⟩
  rw [← hH] at hP
  have hS : va_S A s.heap H [] := by rw [hH]; exact hS
  refine W.eqH hH ?_
  obtain ⟨locs, hlc⟩ : ∃ L : List Loc, L = [] := ⟨_, rfl⟩
  rw [← hlc] at hS ⊢
  unfold p_MoReader_take at hok
  refine lv_aload_n hx hb d_MoReader_take_0 rfl (lv_at hl 0 rfl) ?_
  refine lv_iload_n hx hb d_MoReader_take_1 rfl (lv_at hl 1 rfl) ?_
  refine va_put (D := g) (ci := 12) (v := .int which) (ty := .int) (C := R_MoReader) (T := F_MoReader) (N := 22) hx hb hg ul_MoReader t_MoReader tk_MoReader n_MoReader hown hK hP hD hS 0 rfl rfl 9 (by decide) (hg _ wd_1179) (fun _ h9 => h9) rfl (by decide +kernel) rfl rfl (Nat.le_of_ble_eq_true rfl) d_MoReader_take_2 (fun H locs hP hD hS => ?_)
  obtain ⟨hP, hD⟩ : PD g A H [(a, .inr (12, [.ref a_sides, .ref a_ranks, .ref a_stop, .ref a_terms, .ref a_names, .ref a_s, .int a_n, .int a_at, .int a_behind, .int which, .int a_open, .long a_number, .ref a_word, .int a_letters, .ref a_stack, .int a_top, .int a_place, .ref a_variables, .int a_variabled, .int a_known, .int a_rank, .ref a_kept]))] := ⟨hP, hD⟩
  refine lv_aload_n hx hb d_MoReader_take_5 rfl (lv_at hl 0 rfl) ?_
  refine lv_iload_n hx hb d_MoReader_take_6 rfl (lv_at hl 2 rfl) ?_
  refine va_put (D := g) (ci := 12) (v := .int to_) (ty := .int) (C := R_MoReader) (T := F_MoReader) (N := 22) hx hb hg ul_MoReader t_MoReader tk_MoReader n_MoReader hown hK hP hD hS 0 rfl rfl 8 (by decide) (hg _ wd_1180) (fun _ h9 => h9) rfl (by decide +kernel) rfl rfl (Nat.le_of_ble_eq_true rfl) d_MoReader_take_7 (fun H locs hP hD hS => ?_)
  obtain ⟨hP, hD⟩ : PD g A H [(a, .inr (12, [.ref a_sides, .ref a_ranks, .ref a_stop, .ref a_terms, .ref a_names, .ref a_s, .int a_n, .int a_at, .int to_, .int which, .int a_open, .long a_number, .ref a_word, .int a_letters, .ref a_stack, .int a_top, .int a_place, .ref a_variables, .int a_variabled, .int a_known, .int a_rank, .ref a_kept]))] := ⟨hP, hD⟩
  have hq := Option.some.inj hok
  obtain ⟨hq0, hq⟩ := Prod.mk.inj hq
  have hq1 := hq
  subst hq0
  subst hq1
  obtain ⟨hP9, hD9⟩ := sub2 (ws' := [(a, .inr (12, [.ref a_sides, .ref a_ranks, .ref a_stop, .ref a_terms, .ref a_names, .ref a_s, .int a_n, .int a_at, .int to_, .int which, .int a_open, .long a_number, .ref a_word, .int a_letters, .ref a_stack, .int a_top, .int a_place, .ref a_variables, .int a_variabled, .int a_known, .int a_rank, .ref a_kept]))]) hP hD [0] rfl (by decide) rfl
  rw [hQ]
  exact W.vret hx hb hr (fun t ht hW => ⟨⟨(), rfl, trivial, by rw [ht]; exact hP9, hD9⟩, hS.F ht⟩) hS.2.2 d_MoReader_take_10

theorem d_MoReader_digits_0 : decode b_MoReader_digits 0 = .ok (.aload_n 0, 1) := by decide +kernel
theorem d_MoReader_digits_1 : decode b_MoReader_digits 1 = .ok (.lconst 0, 1) := by decide +kernel
theorem d_MoReader_digits_2 : decode b_MoReader_digits 2 = .ok (.putfield 174, 3) := by decide +kernel
theorem d_MoReader_digits_5 : decode b_MoReader_digits 5 = .ok (.aload_n 0, 1) := by decide +kernel
theorem d_MoReader_digits_6 : decode b_MoReader_digits 6 = .ok (.getfield 116, 3) := by decide +kernel
theorem d_MoReader_digits_9 : decode b_MoReader_digits 9 = .ok (.istore_n 1, 1) := by decide +kernel
theorem d_MoReader_digits_10 : decode b_MoReader_digits 10 = .ok (.aload_n 0, 1) := by decide +kernel
theorem d_MoReader_digits_11 : decode b_MoReader_digits 11 = .ok (.iload_n 1, 1) := by decide +kernel
theorem d_MoReader_digits_12 : decode b_MoReader_digits 12 = .ok (.invokevirtual 148, 3) := by decide +kernel
theorem d_MoReader_digits_15 : decode b_MoReader_digits 15 = .ok (.invokestatic 151, 3) := by decide +kernel
theorem d_MoReader_digits_18 : decode b_MoReader_digits 18 = .ok (.ifCond .eq 44, 3) := by decide +kernel
theorem d_MoReader_digits_21 : decode b_MoReader_digits 21 = .ok (.aload_n 0, 1) := by decide +kernel
theorem d_MoReader_digits_22 : decode b_MoReader_digits 22 = .ok (.getfield 174, 3) := by decide +kernel
theorem d_MoReader_digits_25 : decode b_MoReader_digits 25 = .ok (.ldc2_w 178, 3) := by decide +kernel
theorem d_MoReader_digits_28 : decode b_MoReader_digits 28 = .ok (.lcmp, 1) := by decide +kernel
theorem d_MoReader_digits_29 : decode b_MoReader_digits 29 = .ok (.ifCond .ge 27, 3) := by decide +kernel
theorem d_MoReader_digits_32 : decode b_MoReader_digits 32 = .ok (.aload_n 0, 1) := by decide +kernel
theorem d_MoReader_digits_33 : decode b_MoReader_digits 33 = .ok (.ldc2_w 180, 3) := by decide +kernel
theorem d_MoReader_digits_36 : decode b_MoReader_digits 36 = .ok (.aload_n 0, 1) := by decide +kernel
theorem d_MoReader_digits_37 : decode b_MoReader_digits 37 = .ok (.getfield 174, 3) := by decide +kernel
theorem d_MoReader_digits_40 : decode b_MoReader_digits 40 = .ok (.lmul, 1) := by decide +kernel
theorem d_MoReader_digits_41 : decode b_MoReader_digits 41 = .ok (.aload_n 0, 1) := by decide +kernel
theorem d_MoReader_digits_42 : decode b_MoReader_digits 42 = .ok (.getfield 89, 3) := by decide +kernel
theorem d_MoReader_digits_45 : decode b_MoReader_digits 45 = .ok (.iload_n 1, 1) := by decide +kernel
theorem d_MoReader_digits_46 : decode b_MoReader_digits 46 = .ok (.baload, 1) := by decide +kernel
theorem d_MoReader_digits_47 : decode b_MoReader_digits 47 = .ok (.i2l, 1) := by decide +kernel
theorem d_MoReader_digits_48 : decode b_MoReader_digits 48 = .ok (.ladd, 1) := by decide +kernel
theorem d_MoReader_digits_49 : decode b_MoReader_digits 49 = .ok (.ldc2_w 182, 3) := by decide +kernel
theorem d_MoReader_digits_52 : decode b_MoReader_digits 52 = .ok (.lsub, 1) := by decide +kernel
theorem d_MoReader_digits_53 : decode b_MoReader_digits 53 = .ok (.putfield 174, 3) := by decide +kernel
theorem d_MoReader_digits_56 : decode b_MoReader_digits 56 = .ok (.iinc 1 1, 3) := by decide +kernel
theorem d_MoReader_digits_59 : decode b_MoReader_digits 59 = .ok (.goto (-49), 3) := by decide +kernel
theorem d_MoReader_digits_62 : decode b_MoReader_digits 62 = .ok (.aload_n 0, 1) := by decide +kernel
theorem d_MoReader_digits_63 : decode b_MoReader_digits 63 = .ok (.aload_n 0, 1) := by decide +kernel
theorem d_MoReader_digits_64 : decode b_MoReader_digits 64 = .ok (.getfield 174, 3) := by decide +kernel
theorem d_MoReader_digits_67 : decode b_MoReader_digits 67 = .ok (.ldc2_w 178, 3) := by decide +kernel
theorem d_MoReader_digits_70 : decode b_MoReader_digits 70 = .ok (.lcmp, 1) := by decide +kernel
theorem d_MoReader_digits_71 : decode b_MoReader_digits 71 = .ok (.ifCond .ge 7, 3) := by decide +kernel
theorem d_MoReader_digits_74 : decode b_MoReader_digits 74 = .ok (.iconst 2, 1) := by decide +kernel
theorem d_MoReader_digits_75 : decode b_MoReader_digits 75 = .ok (.goto 5, 3) := by decide +kernel
theorem d_MoReader_digits_78 : decode b_MoReader_digits 78 = .ok (.bipush 12, 2) := by decide +kernel
theorem d_MoReader_digits_80 : decode b_MoReader_digits 80 = .ok (.iload_n 1, 1) := by decide +kernel
theorem d_MoReader_digits_81 : decode b_MoReader_digits 81 = .ok (.invokevirtual 158, 3) := by decide +kernel
theorem d_MoReader_digits_84 : decode b_MoReader_digits 84 = .ok (.return_, 1) := by decide +kernel
def p_MoReader_digits_10 (n : Nat) (a_n : Int32) (a_at : Int32) (a_behind : Int32) (a_token : Int32) (a_open : Int32) (a_letters : Int32) (a_top : Int32) (a_place : Int32) (a_variabled : Int32) (a_known : Int32) (a_rank : Int32) (a_s_n : Nat) (a_s_f : Nat → Int32) (kf1 : Nat) (x1_1 : Int32) (a_number_1 : Int64) : Option (Int32 × Int32 × Int64) := match kf1 with
  | 0 => none
  | kf1 + 1 => (p_MoReader_look x1_1 a_n a_at a_behind a_token a_open a_number_1 a_letters a_top a_place a_variabled a_known a_rank a_s_n a_s_f).bind (fun r2 => (p_MoReader_digit r2).bind (fun r3 => if r3 = 0 then (if 0 ≤ (lg_cmp a_number_1 9007199254740992) then ((p_MoReader_take (12 : Int32) x1_1 a_n a_at a_behind a_token a_open a_number_1 a_letters a_top a_place a_variabled a_known a_rank).bind (fun (a_behind_6, a_token_6) => some (a_behind_6, a_token_6, a_number_1))) else ((p_MoReader_take (2 : Int32) x1_1 a_n a_at a_behind a_token a_open a_number_1 a_letters a_top a_place a_variabled a_known a_rank).bind (fun (a_behind_7, a_token_7) => some (a_behind_7, a_token_7, a_number_1)))) else (if 0 ≤ (lg_cmp a_number_1 9007199254740992) then (p_MoReader_digits_10 n a_n a_at a_behind a_token a_open a_letters a_top a_place a_variabled a_known a_rank a_s_n a_s_f kf1 (x1_1 + 1) a_number_1) else (ck (ixb x1_1 a_s_n) (p_MoReader_digits_10 n a_n a_at a_behind a_token a_open a_letters a_top a_place a_variabled a_known a_rank a_s_n a_s_f kf1 (x1_1 + 1) (((10 * a_number_1) + ((a_s_f x1_1.toNatClampNeg).toInt64)) - 48))))))
def p_MoReader_digits (n : Nat) (a_n : Int32) (a_at : Int32) (a_behind : Int32) (a_token : Int32) (a_open : Int32) (a_number : Int64) (a_letters : Int32) (a_top : Int32) (a_place : Int32) (a_variabled : Int32) (a_known : Int32) (a_rank : Int32) (a_s_n : Nat) (a_s_f : Nat → Int32) : Option (Int32 × Int32 × Int64) := p_MoReader_digits_10 n a_n a_at a_behind a_token a_open a_letters a_top a_place a_variabled a_known a_rank a_s_n a_s_f n a_at (0 : Int64)
set_option maxHeartbeats 40000000 in
set_option maxRecDepth 100000 in
theorem c_MoReader_digits (l : Launch) (g : va_G) (cs : Nat → ClassId) (ka : Nat → Nat) (a_sides : Nat) (a_ranks : Nat) (a_stop : Nat) (a_terms : Nat) (a_names : Nat) (a_word : Nat) (a_stack : Nat) (a_variables : Nat) (a_kept : Nat) (a a_s : Nat) (sz : Nat) (n : Nat) (a_n : Int32) (a_at : Int32) (a_behind : Int32) (a_token : Int32) (a_open : Int32) (a_number : Int64) (a_letters : Int32) (a_top : Int32) (a_place : Int32) (a_variabled : Int32) (a_known : Int32) (a_rank : Int32) (a_s_n : Nat) (a_s_f : Nat → Int32) (o_a_behind : Int32) (o_a_token : Int32) (o_a_number : Int64) (hok : p_MoReader_digits n a_n a_at a_behind a_token a_open a_number a_letters a_top a_place a_variabled a_known a_rank a_s_n a_s_f = some (o_a_behind, o_a_token, o_a_number)) : Met l y_MoReader_digits (.code y_MoReader_digits b_MoReader_digits 2 none :: GW) { frames := 1, cells := 0, slots := 0, locals := 22 } (va_Pc [.ref a] (gP g cs ka [(a, .inr (12, [.ref a_sides, .ref a_ranks, .ref a_stop, .ref a_terms, .ref a_names, .ref a_s, .int a_n, .int a_at, .int a_behind, .int a_token, .int a_open, .long a_number, .ref a_word, .int a_letters, .ref a_stack, .int a_top, .int a_place, .ref a_variables, .int a_variabled, .int a_known, .int a_rank, .ref a_kept])), (a_s, .inl (cs 1, a_s_n, .inl a_s_f))] sz)) (va_Qv (fun _ : Unit => True) (fun _ t => va_P g classes [(a, .inr (12, [.ref a_sides, .ref a_ranks, .ref a_stop, .ref a_terms, .ref a_names, .ref a_s, .int a_n, .int a_at, .int o_a_behind, .int o_a_token, .int a_open, .long o_a_number, .ref a_word, .int a_letters, .ref a_stack, .int a_top, .int a_place, .ref a_variables, .int a_variabled, .int a_known, .int a_rank, .ref a_kept])), (a_s, .inl (cs 1, a_s_n, .inl a_s_f))] t.heap ∧ va_D (va_A [(a, .inr (12, [.ref a_sides, .ref a_ranks, .ref a_stop, .ref a_terms, .ref a_names, .ref a_s, .int a_n, .int a_at, .int a_behind, .int a_token, .int a_open, .long a_number, .ref a_word, .int a_letters, .ref a_stack, .int a_top, .int a_place, .ref a_variables, .int a_variabled, .int a_known, .int a_rank, .ref a_kept])), (a_s, .inl (cs 1, a_s_n, .inl a_s_f))] sz) [(a, .inr (12, [.ref a_sides, .ref a_ranks, .ref a_stop, .ref a_terms, .ref a_names, .ref a_s, .int a_n, .int a_at, .int o_a_behind, .int o_a_token, .int a_open, .long o_a_number, .ref a_word, .int a_letters, .ref a_stack, .int a_top, .int a_place, .ref a_variables, .int a_variabled, .int a_known, .int a_rank, .ref a_kept])), (a_s, .inl (cs 1, a_s_n, .inl a_s_f))]) (va_A [(a, .inr (12, [.ref a_sides, .ref a_ranks, .ref a_stop, .ref a_terms, .ref a_names, .ref a_s, .int a_n, .int a_at, .int a_behind, .int a_token, .int a_open, .long a_number, .ref a_word, .int a_letters, .ref a_stack, .int a_top, .int a_place, .ref a_variables, .int a_variabled, .int a_known, .int a_rank, .ref a_kept])), (a_s, .inl (cs 1, a_s_n, .inl a_s_f))] sz)) 0 0 (va_A [(a, .inr (12, [.ref a_sides, .ref a_ranks, .ref a_stop, .ref a_terms, .ref a_names, .ref a_s, .int a_n, .int a_at, .int a_behind, .int a_token, .int a_open, .long a_number, .ref a_word, .int a_letters, .ref a_stack, .int a_top, .int a_place, .ref a_variables, .int a_variabled, .int a_known, .int a_rank, .ref a_kept])), (a_s, .inl (cs 1, a_s_n, .inl a_s_f))] sz) := by
  refine Met.ofW (cc := b_MoReader_digits) (maxL := 2) (ret := none) (by decide) rfl ?_
  intro p e s m args below meth c s₁ B hml hv
  obtain ⟨rfl, hsz, hP, hK, hD0, hgl, hkn, hkr⟩ := hv
  have hx := B.exec
  have hb := B.bytes
  have hr := B.returns
  have hg : ∀ w ∈ GW, w.before ([.ref a] : List Value).toArray s = true := fun w hw => atoms_spec (ws := .code y_MoReader_digits b_MoReader_digits 2 none :: GW) B.pre w (List.mem_cons_of_mem _ hw)
  have hown : s.vm.findClass R_MoReader = some m.cls := findClass_of_methodNamed B.named
  have hlocks := B.notSynchronized
  subst hsz
  have hD := hD0.self (sz := s.heap.size)
  generalize hAe : va_A [(a, .inr (12, [.ref a_sides, .ref a_ranks, .ref a_stop, .ref a_terms, .ref a_names, .ref a_s, .int a_n, .int a_at, .int a_behind, .int a_token, .int a_open, .long a_number, .ref a_word, .int a_letters, .ref a_stack, .int a_top, .int a_place, .ref a_variables, .int a_variabled, .int a_known, .int a_rank, .ref a_kept])), (a_s, .inl (cs 1, a_s_n, .inl a_s_f))] s.heap.size = A at hD hkn ⊢
  have hA : ∀ q : Nat, s.heap.size ≤ q → A q := fun q h => by rw [← hAe]; exact Or.inr h
  have hS : va_S A s.heap s.heap [] := va_S.rf
  have hP : va_P g classes [(a, .inr (12, [.ref a_sides, .ref a_ranks, .ref a_stop, .ref a_terms, .ref a_names, .ref a_s, .int a_n, .int a_at, .int a_behind, .int a_token, .int a_open, .long a_number, .ref a_word, .int a_letters, .ref a_stack, .int a_top, .int a_place, .ref a_variables, .int a_variabled, .int a_known, .int a_rank, .ref a_kept])), (a_s, .inl (cs 1, a_s_n, .inl a_s_f))] s.heap := hP
  have hl := lv_entry ([.ref a]) (n := 2) (Nat.le_of_ble_eq_true rfl)
  rw [lg_entry_eq]
  generalize (lg_sl ([.ref a]) ++ List.replicate (2 - (lg_sl ([.ref a])).length) Slot.unset).toArray = ls at hl ⊢
  have hl : lv_has ls 2 [(0, .ref a)] := hl
  refine gq (fun Q hQ => ?_)
  obtain ⟨H, hH⟩ : ∃ H : Heap, H = s.heap := ⟨_, rfl⟩
  rw [← hH] at hP
  have hS : va_S A s.heap H [] := by rw [hH]; exact hS
  refine W.eqH hH ?_
  obtain ⟨locs, hlc⟩ : ∃ L : List Loc, L = [] := ⟨_, rfl⟩
  rw [← hlc] at hS ⊢
  unfold p_MoReader_digits at hok
  refine lv_aload_n hx hb d_MoReader_digits_0 rfl (lv_at hl 0 rfl) ?_
  refine lv_lconst (v := 0) hx hb d_MoReader_digits_1 (by decide) ?_
  refine va_put (D := g) (ci := 12) (v := .long 0) (ty := .long) (C := R_MoReader) (T := F_MoReader) (N := 22) hx hb hg ul_MoReader t_MoReader tk_MoReader n_MoReader hown hK hP hD hS 0 rfl rfl 11 (by decide) (hg _ wd_1181) (fun _ h9 => h9) rfl (by decide +kernel) rfl rfl (Nat.le_of_ble_eq_true rfl) d_MoReader_digits_2 (fun H locs hP hD hS => ?_)
  obtain ⟨hP, hD⟩ : PD g A H [(a, .inr (12, [.ref a_sides, .ref a_ranks, .ref a_stop, .ref a_terms, .ref a_names, .ref a_s, .int a_n, .int a_at, .int a_behind, .int a_token, .int a_open, .long 0, .ref a_word, .int a_letters, .ref a_stack, .int a_top, .int a_place, .ref a_variables, .int a_variabled, .int a_known, .int a_rank, .ref a_kept])), (a_s, .inl (cs 1, a_s_n, .inl a_s_f))] := ⟨hP, hD⟩
  refine lv_aload_n hx hb d_MoReader_digits_5 rfl (lv_at hl 0 rfl) ?_
  refine va_get (D := g) (ci := 12) (v := .int a_at) (C := R_MoReader) (T := F_MoReader) (N := 22) hx hb hg ul_MoReader hown hK hP 0 rfl rfl 7 (by decide) (hg _ wd_1182) (fun _ h9 => h9) rfl d_MoReader_digits_6 ?_
  refine lv_istore_n hx hb d_MoReader_digits_9 rfl hl (by decide) rfl (fun ls hl => ?_)
  have hl : lv_has ls 2 [(1, .int a_at), (0, .ref a)] := hl
  have J1 : ∀ (kf1 : Nat) (H : Heap) (locs : List Loc) (ls : Array Slot) (x1_1 : Int32) (a_number_1 : Int64), lv_has ls 2 [(1, .int x1_1), (0, .ref a)] → PD g A H [(a, .inr (12, [.ref a_sides, .ref a_ranks, .ref a_stop, .ref a_terms, .ref a_names, .ref a_s, .int a_n, .int a_at, .int a_behind, .int a_token, .int a_open, .long a_number_1, .ref a_word, .int a_letters, .ref a_stack, .int a_top, .int a_place, .ref a_variables, .int a_variabled, .int a_known, .int a_rank, .ref a_kept])), (a_s, .inl (cs 1, a_s_n, .inl a_s_f))] → va_S A s.heap H locs → p_MoReader_digits_10 n a_n a_at a_behind a_token a_open a_letters a_top a_place a_variabled a_known a_rank a_s_n a_s_f kf1 x1_1 a_number_1 = some (o_a_behind, o_a_token, o_a_number) → W p l e (headSpec (.code y_MoReader_digits b_MoReader_digits 2 none :: GW) { frames := 1, cells := 0, slots := 0, locals := 22 }).room s m ([.ref a] : List Value).toArray below meth c H locs 0 0 Q (F0 m 10 ls []) := by
    intro kf1
    induction kf1 with
    | zero => intro H locs ls x1_1 a_number_1 hl ⟨hP, hD⟩ hS hok; rw [p_MoReader_digits_10] at hok; cases hok
    | succ kf1 ih1 =>
      intro H locs ls x1_1 a_number_1 hl ⟨hP, hD⟩ hS hok
      rw [p_MoReader_digits_10] at hok
      refine lv_aload_n hx hb d_MoReader_digits_10 rfl (lv_at hl 1 rfl) ?_
      refine lv_iload_n hx hb d_MoReader_digits_11 rfl (lv_at hl 0 rfl) ?_
      obtain ⟨r2, hc2, hok⟩ := bd_some hok
      obtain ⟨hPc, hDc, hFc⟩ := cut0 (wc := [(a, .inr (12, [.ref a_sides, .ref a_ranks, .ref a_stop, .ref a_terms, .ref a_names, .ref a_s, .int a_n, .int a_at, .int a_behind, .int a_token, .int a_open, .long a_number_1, .ref a_word, .int a_letters, .ref a_stack, .int a_top, .int a_place, .ref a_variables, .int a_variabled, .int a_known, .int a_rank, .ref a_kept])), (a_s, .inl (cs 1, a_s_n, .inl a_s_f))]) hP hD hS hA [0, 1] (by decide) rfl
      refine va_calli (va_runV (As := [.int x1_1]) (rest := []) ⟨hx, hb, hml, hown, hg⟩ (c_MoReader_look l g cs ka a_sides a_ranks a_stop a_terms a_names a_word a_stack a_variables a_kept a a_s H.size x1_1 a_n a_at a_behind a_token a_open a_number_1 a_letters a_top a_place a_variabled a_known a_rank a_s_n a_s_f r2 hc2) (cwV (C := R_MoReader) 1 hg (gw_V wd_1184 wd_1185 wd_1186 wd_754 wd_1183) rfl rfl rfl (by decide +kernel) ⟨Nat.le_of_ble_eq_true rfl, Nat.le_of_ble_eq_true rfl⟩) ⟨gP_blind, va_recv (q0 := 0) (ci := 12) (q := (R_MoReader, F_MoReader, 22)) hK hP rfl rfl, gP_pre hPc hDc hK hgl hkn hkr hS hFc⟩ rfl rfl hl.1 rfl (lv_room (Nat.le_of_ble_eq_true rfl)) d_MoReader_digits_12 ⟨Nat.le_of_ble_eq_true rfl, Nat.le_of_ble_eq_true rfl⟩) hS (fun q _ h => hFc q h) hFc (fun r2' u t H locs ht hvm hr2 hB hz1 hk1 hS => ?_)
      subst hr2
      rw [ht] at hB
      obtain ⟨hP1, hD1⟩ := hB
      obtain ⟨hP, hD⟩ := jn_A hP hD [0, 1] [] rfl rfl (by decide) (by decide) hk1 hFc hP1 hD1
      obtain ⟨hP, hD⟩ : PD g A H [(a, .inr (12, [.ref a_sides, .ref a_ranks, .ref a_stop, .ref a_terms, .ref a_names, .ref a_s, .int a_n, .int a_at, .int a_behind, .int a_token, .int a_open, .long a_number_1, .ref a_word, .int a_letters, .ref a_stack, .int a_top, .int a_place, .ref a_variables, .int a_variabled, .int a_known, .int a_rank, .ref a_kept])), (a_s, .inl (cs 1, a_s_n, .inl a_s_f))] := ⟨hP, hD⟩
      obtain ⟨r3, hc3, hok⟩ := bd_some hok
      obtain ⟨hPc, hDc, hFc⟩ := cut0 (wc := []) hP hD hS hA [] (by decide) rfl
      refine va_calli (va_runS (As := [.int r2]) (rest := []) ⟨hx, hb, hml, hown, hg⟩ (c_MoReader_digit l g cs ka H.size r2 r3 hc3) (va_cwS 1 hg (gw_S wd_1188 wd_1189 wd_754 wd_1187) rfl rfl rfl (by decide +kernel) ⟨Nat.le_of_ble_eq_true rfl, Nat.le_of_ble_eq_true rfl⟩) ⟨gP_blind, gP_pre hPc hDc hK hgl hkn hkr hS hFc⟩ rfl rfl hl.1 rfl (lv_room (Nat.le_of_ble_eq_true rfl)) d_MoReader_digits_15 ⟨Nat.le_of_ble_eq_true rfl, Nat.le_of_ble_eq_true rfl⟩) hS (fun q _ h => hFc q h) hFc (fun r3' u t H locs ht hvm hr3 hB hz1 hk1 hS => ?_)
      subst hr3
      rw [ht] at hB
      obtain ⟨hP1, hD1⟩ := hB
      obtain ⟨hP, hD⟩ := jn_A hP hD [] [0, 1] rfl rfl (by decide) (by decide) hk1 hFc hP1 hD1
      obtain ⟨hP, hD⟩ : PD g A H [(a, .inr (12, [.ref a_sides, .ref a_ranks, .ref a_stop, .ref a_terms, .ref a_names, .ref a_s, .int a_n, .int a_at, .int a_behind, .int a_token, .int a_open, .long a_number_1, .ref a_word, .int a_letters, .ref a_stack, .int a_top, .int a_place, .ref a_variables, .int a_variabled, .int a_known, .int a_rank, .ref a_kept])), (a_s, .inl (cs 1, a_s_n, .inl a_s_f))] := ⟨hP, hD⟩
      refine lv_if_eq hx hb d_MoReader_digits_18 rfl (fun h4 => ?_) (fun h4 => ?_)
      · rw [if_pos h4] at hok
        refine lv_aload_n hx hb d_MoReader_digits_62 rfl (lv_at hl 1 rfl) ?_
        refine lv_aload_n hx hb d_MoReader_digits_63 rfl (lv_at hl 1 rfl) ?_
        refine va_get (D := g) (ci := 12) (v := .long a_number_1) (C := R_MoReader) (T := F_MoReader) (N := 22) hx hb hg ul_MoReader hown hK hP 0 rfl rfl 11 (by decide) (hg _ wd_1181) (fun _ h9 => h9) rfl d_MoReader_digits_64 ?_
        refine lv_ldc2 hx hb hown (hg _ wd_1190) d_MoReader_digits_67 ?_
        refine W.lcmp hx hb d_MoReader_digits_70 ?_
        refine lv_if_ge hx hb d_MoReader_digits_71 rfl (fun h5 => ?_) (fun h5 => ?_)
        · rw [if_pos h5] at hok
          refine lv_bipush (v := 12) hx hb d_MoReader_digits_78 (by decide) ?_
          refine lv_iload_n hx hb d_MoReader_digits_80 rfl (lv_at hl 0 rfl) ?_
          obtain ⟨⟨a_behind_6, a_token_6⟩, hc6, hok⟩ := bd_some hok
          dsimp only at hok
          obtain ⟨hPc, hDc, hFc⟩ := cut0 (wc := [(a, .inr (12, [.ref a_sides, .ref a_ranks, .ref a_stop, .ref a_terms, .ref a_names, .ref a_s, .int a_n, .int a_at, .int a_behind, .int a_token, .int a_open, .long a_number_1, .ref a_word, .int a_letters, .ref a_stack, .int a_top, .int a_place, .ref a_variables, .int a_variabled, .int a_known, .int a_rank, .ref a_kept]))]) hP hD hS hA [0] (by decide) rfl
          refine va_callv (va_runV (As := [.int 12, .int x1_1]) (rest := []) ⟨hx, hb, hml, hown, hg⟩ (c_MoReader_take l g cs ka a_sides a_ranks a_stop a_terms a_names a_s a_word a_stack a_variables a_kept a H.size (12 : Int32) x1_1 a_n a_at a_behind a_token a_open a_number_1 a_letters a_top a_place a_variabled a_known a_rank a_behind_6 a_token_6 hc6) (cwV (C := R_MoReader) 2 hg (gw_V wd_1192 wd_1193 wd_1194 wd_754 wd_1191) rfl rfl rfl (by decide +kernel) ⟨Nat.le_of_ble_eq_true rfl, Nat.le_of_ble_eq_true rfl⟩) ⟨gP_blind, va_recv (q0 := 0) (ci := 12) (q := (R_MoReader, F_MoReader, 22)) hK hP rfl rfl, gP_pre hPc hDc hK hgl hkn hkr hS hFc⟩ rfl rfl hl.1 rfl (lv_room (Nat.le_of_ble_eq_true rfl)) d_MoReader_digits_81 ⟨Nat.le_of_ble_eq_true rfl, Nat.le_of_ble_eq_true rfl⟩) hS (fun q _ h => hFc q h) hFc (fun u t H locs ht hvm hr6 hB hz1 hk1 hS => ?_)
          rw [ht] at hB
          obtain ⟨hP1, hD1⟩ := hB
          obtain ⟨hP, hD⟩ := jn_A hP hD [0] [1] rfl rfl (by decide) (by decide) hk1 hFc hP1 hD1
          obtain ⟨hP, hD⟩ : PD g A H [(a_s, .inl (cs 1, a_s_n, .inl a_s_f)), (a, .inr (12, [.ref a_sides, .ref a_ranks, .ref a_stop, .ref a_terms, .ref a_names, .ref a_s, .int a_n, .int a_at, .int a_behind_6, .int a_token_6, .int a_open, .long a_number_1, .ref a_word, .int a_letters, .ref a_stack, .int a_top, .int a_place, .ref a_variables, .int a_variabled, .int a_known, .int a_rank, .ref a_kept]))] := ⟨hP, hD⟩
          have hq := Option.some.inj hok
          obtain ⟨hq0, hq⟩ := Prod.mk.inj hq
          obtain ⟨hq1, hq⟩ := Prod.mk.inj hq
          have hq2 := hq
          subst hq0
          subst hq1
          subst hq2
          obtain ⟨hP9, hD9⟩ := sub2 (ws' := [(a, .inr (12, [.ref a_sides, .ref a_ranks, .ref a_stop, .ref a_terms, .ref a_names, .ref a_s, .int a_n, .int a_at, .int a_behind_6, .int a_token_6, .int a_open, .long a_number_1, .ref a_word, .int a_letters, .ref a_stack, .int a_top, .int a_place, .ref a_variables, .int a_variabled, .int a_known, .int a_rank, .ref a_kept])), (a_s, .inl (cs 1, a_s_n, .inl a_s_f))]) hP hD [1, 0] rfl (by decide) rfl
          rw [hQ]
          exact W.vret hx hb hr (fun t ht hW => ⟨⟨(), rfl, trivial, by rw [ht]; exact hP9, hD9⟩, hS.F ht⟩) hS.2.2 d_MoReader_digits_84
        · rw [if_neg h5] at hok
          refine lv_iconst (v := 2) hx hb d_MoReader_digits_74 (by decide) ?_
          refine lv_goto hx hb d_MoReader_digits_75 rfl ?_
          refine lv_iload_n hx hb d_MoReader_digits_80 rfl (lv_at hl 0 rfl) ?_
          obtain ⟨⟨a_behind_7, a_token_7⟩, hc7, hok⟩ := bd_some hok
          dsimp only at hok
          obtain ⟨hPc, hDc, hFc⟩ := cut0 (wc := [(a, .inr (12, [.ref a_sides, .ref a_ranks, .ref a_stop, .ref a_terms, .ref a_names, .ref a_s, .int a_n, .int a_at, .int a_behind, .int a_token, .int a_open, .long a_number_1, .ref a_word, .int a_letters, .ref a_stack, .int a_top, .int a_place, .ref a_variables, .int a_variabled, .int a_known, .int a_rank, .ref a_kept]))]) hP hD hS hA [0] (by decide) rfl
          refine va_callv (va_runV (As := [.int 2, .int x1_1]) (rest := []) ⟨hx, hb, hml, hown, hg⟩ (c_MoReader_take l g cs ka a_sides a_ranks a_stop a_terms a_names a_s a_word a_stack a_variables a_kept a H.size (2 : Int32) x1_1 a_n a_at a_behind a_token a_open a_number_1 a_letters a_top a_place a_variabled a_known a_rank a_behind_7 a_token_7 hc7) (cwV (C := R_MoReader) 2 hg (gw_V wd_1192 wd_1193 wd_1194 wd_754 wd_1191) rfl rfl rfl (by decide +kernel) ⟨Nat.le_of_ble_eq_true rfl, Nat.le_of_ble_eq_true rfl⟩) ⟨gP_blind, va_recv (q0 := 0) (ci := 12) (q := (R_MoReader, F_MoReader, 22)) hK hP rfl rfl, gP_pre hPc hDc hK hgl hkn hkr hS hFc⟩ rfl rfl hl.1 rfl (lv_room (Nat.le_of_ble_eq_true rfl)) d_MoReader_digits_81 ⟨Nat.le_of_ble_eq_true rfl, Nat.le_of_ble_eq_true rfl⟩) hS (fun q _ h => hFc q h) hFc (fun u t H locs ht hvm hr7 hB hz1 hk1 hS => ?_)
          rw [ht] at hB
          obtain ⟨hP1, hD1⟩ := hB
          obtain ⟨hP, hD⟩ := jn_A hP hD [0] [1] rfl rfl (by decide) (by decide) hk1 hFc hP1 hD1
          obtain ⟨hP, hD⟩ : PD g A H [(a_s, .inl (cs 1, a_s_n, .inl a_s_f)), (a, .inr (12, [.ref a_sides, .ref a_ranks, .ref a_stop, .ref a_terms, .ref a_names, .ref a_s, .int a_n, .int a_at, .int a_behind_7, .int a_token_7, .int a_open, .long a_number_1, .ref a_word, .int a_letters, .ref a_stack, .int a_top, .int a_place, .ref a_variables, .int a_variabled, .int a_known, .int a_rank, .ref a_kept]))] := ⟨hP, hD⟩
          have hq := Option.some.inj hok
          obtain ⟨hq0, hq⟩ := Prod.mk.inj hq
          obtain ⟨hq1, hq⟩ := Prod.mk.inj hq
          have hq2 := hq
          subst hq0
          subst hq1
          subst hq2
          obtain ⟨hP9, hD9⟩ := sub2 (ws' := [(a, .inr (12, [.ref a_sides, .ref a_ranks, .ref a_stop, .ref a_terms, .ref a_names, .ref a_s, .int a_n, .int a_at, .int a_behind_7, .int a_token_7, .int a_open, .long a_number_1, .ref a_word, .int a_letters, .ref a_stack, .int a_top, .int a_place, .ref a_variables, .int a_variabled, .int a_known, .int a_rank, .ref a_kept])), (a_s, .inl (cs 1, a_s_n, .inl a_s_f))]) hP hD [1, 0] rfl (by decide) rfl
          rw [hQ]
          exact W.vret hx hb hr (fun t ht hW => ⟨⟨(), rfl, trivial, by rw [ht]; exact hP9, hD9⟩, hS.F ht⟩) hS.2.2 d_MoReader_digits_84
      · rw [if_neg h4] at hok
        refine lv_aload_n hx hb d_MoReader_digits_21 rfl (lv_at hl 1 rfl) ?_
        refine va_get (D := g) (ci := 12) (v := .long a_number_1) (C := R_MoReader) (T := F_MoReader) (N := 22) hx hb hg ul_MoReader hown hK hP 0 rfl rfl 11 (by decide) (hg _ wd_1181) (fun _ h9 => h9) rfl d_MoReader_digits_22 ?_
        refine lv_ldc2 hx hb hown (hg _ wd_1190) d_MoReader_digits_25 ?_
        refine W.lcmp hx hb d_MoReader_digits_28 ?_
        refine lv_if_ge hx hb d_MoReader_digits_29 rfl (fun h8 => ?_) (fun h8 => ?_)
        · rw [if_pos h8] at hok
          refine lv_iinc (k := 0) (v := x1_1 + 1) hx hb d_MoReader_digits_56 hl rfl rfl (by decide) rfl (fun ls hl => ?_)
          have hl : lv_has ls 2 [(1, .int (x1_1 + 1)), (0, .ref a)] := hl
          refine lv_goto hx hb d_MoReader_digits_59 rfl ?_
          exact ih1 _ _ _ (x1_1 + 1) a_number_1 (lv_sub hl [0, 1] rfl) (sub3 hP hD [0, 1] (by decide)) hS hok
        · rw [if_neg h8] at hok
          refine lv_aload_n hx hb d_MoReader_digits_32 rfl (lv_at hl 1 rfl) ?_
          refine lv_ldc2 hx hb hown (hg _ wd_1195) d_MoReader_digits_33 ?_
          refine lv_aload_n hx hb d_MoReader_digits_36 rfl (lv_at hl 1 rfl) ?_
          refine va_get (D := g) (ci := 12) (v := .long a_number_1) (C := R_MoReader) (T := F_MoReader) (N := 22) hx hb hg ul_MoReader hown hK hP 0 rfl rfl 11 (by decide) (hg _ wd_1181) (fun _ h9 => h9) rfl d_MoReader_digits_37 ?_
          refine lv_lmul hx hb d_MoReader_digits_40 ?_
          refine lv_aload_n hx hb d_MoReader_digits_41 rfl (lv_at hl 1 rfl) ?_
          refine va_get (D := g) (ci := 12) (v := .ref a_s) (C := R_MoReader) (T := F_MoReader) (N := 22) hx hb hg ul_MoReader hown hK hP 0 rfl rfl 5 (by decide) (hg _ wd_1176) (fun _ h9 => h9) rfl d_MoReader_digits_42 ?_
          refine lv_iload_n hx hb d_MoReader_digits_45 rfl (lv_at hl 0 rfl) ?_
          obtain ⟨hi9, hok⟩ := ck_some hok
          refine va_bald hx hb hK hP 1 1 rfl rfl (ixb_in hi9) d_MoReader_digits_46 ?_
          refine lv_i2l hx hb d_MoReader_digits_47 rfl ?_
          refine lv_ladd hx hb d_MoReader_digits_48 ?_
          refine lv_ldc2 hx hb hown (hg _ wd_1196) d_MoReader_digits_49 ?_
          refine lv_lsub hx hb d_MoReader_digits_52 ?_
          refine va_put (D := g) (ci := 12) (v := .long (((10 * a_number_1) + ((a_s_f x1_1.toNatClampNeg).toInt64)) - 48)) (ty := .long) (C := R_MoReader) (T := F_MoReader) (N := 22) hx hb hg ul_MoReader t_MoReader tk_MoReader n_MoReader hown hK hP hD hS 0 rfl rfl 11 (by decide) (hg _ wd_1181) (fun _ h9 => h9) rfl (by decide +kernel) rfl rfl (Nat.le_of_ble_eq_true rfl) d_MoReader_digits_53 (fun H locs hP hD hS => ?_)
          obtain ⟨hP, hD⟩ : PD g A H [(a, .inr (12, [.ref a_sides, .ref a_ranks, .ref a_stop, .ref a_terms, .ref a_names, .ref a_s, .int a_n, .int a_at, .int a_behind, .int a_token, .int a_open, .long (((10 * a_number_1) + ((a_s_f x1_1.toNatClampNeg).toInt64)) - 48), .ref a_word, .int a_letters, .ref a_stack, .int a_top, .int a_place, .ref a_variables, .int a_variabled, .int a_known, .int a_rank, .ref a_kept])), (a_s, .inl (cs 1, a_s_n, .inl a_s_f))] := ⟨hP, hD⟩
          refine lv_iinc (k := 0) (v := x1_1 + 1) hx hb d_MoReader_digits_56 hl rfl rfl (by decide) rfl (fun ls hl => ?_)
          have hl : lv_has ls 2 [(1, .int (x1_1 + 1)), (0, .ref a)] := hl
          refine lv_goto hx hb d_MoReader_digits_59 rfl ?_
          exact ih1 _ _ _ (x1_1 + 1) (((10 * a_number_1) + ((a_s_f x1_1.toNatClampNeg).toInt64)) - 48) (lv_sub hl [0, 1] rfl) (sub3 hP hD [0, 1] (by decide)) hS hok
  exact J1 n H locs ls a_at (0 : Int64) hl ⟨hP, hD⟩ hS hok

theorem d_MoReader_quoted_0 : decode b_MoReader_quoted 0 = .ok (.aload_n 0, 1) := by decide +kernel
theorem d_MoReader_quoted_1 : decode b_MoReader_quoted 1 = .ok (.getfield 116, 3) := by decide +kernel
theorem d_MoReader_quoted_4 : decode b_MoReader_quoted 4 = .ok (.iconst 1, 1) := by decide +kernel
theorem d_MoReader_quoted_5 : decode b_MoReader_quoted 5 = .ok (.iadd, 1) := by decide +kernel
theorem d_MoReader_quoted_6 : decode b_MoReader_quoted 6 = .ok (.istore_n 1, 1) := by decide +kernel
theorem d_MoReader_quoted_7 : decode b_MoReader_quoted 7 = .ok (.aload_n 0, 1) := by decide +kernel
theorem d_MoReader_quoted_8 : decode b_MoReader_quoted 8 = .ok (.iload_n 1, 1) := by decide +kernel
theorem d_MoReader_quoted_9 : decode b_MoReader_quoted 9 = .ok (.invokevirtual 148, 3) := by decide +kernel
theorem d_MoReader_quoted_12 : decode b_MoReader_quoted 12 = .ok (.istore_n 2, 1) := by decide +kernel
theorem d_MoReader_quoted_13 : decode b_MoReader_quoted 13 = .ok (.iload_n 2, 1) := by decide +kernel
theorem d_MoReader_quoted_14 : decode b_MoReader_quoted 14 = .ok (.bipush 32, 2) := by decide +kernel
theorem d_MoReader_quoted_16 : decode b_MoReader_quoted 16 = .ok (.if_icmp .lt 9, 3) := by decide +kernel
theorem d_MoReader_quoted_19 : decode b_MoReader_quoted 19 = .ok (.iload_n 2, 1) := by decide +kernel
theorem d_MoReader_quoted_20 : decode b_MoReader_quoted 20 = .ok (.bipush 126, 2) := by decide +kernel
theorem d_MoReader_quoted_22 : decode b_MoReader_quoted 22 = .ok (.if_icmp .le 16, 3) := by decide +kernel
theorem d_MoReader_quoted_25 : decode b_MoReader_quoted 25 = .ok (.aload_n 0, 1) := by decide +kernel
theorem d_MoReader_quoted_26 : decode b_MoReader_quoted 26 = .ok (.bipush 12, 2) := by decide +kernel
theorem d_MoReader_quoted_28 : decode b_MoReader_quoted 28 = .ok (.aload_n 0, 1) := by decide +kernel
theorem d_MoReader_quoted_29 : decode b_MoReader_quoted 29 = .ok (.getfield 116, 3) := by decide +kernel
theorem d_MoReader_quoted_32 : decode b_MoReader_quoted 32 = .ok (.iconst 1, 1) := by decide +kernel
theorem d_MoReader_quoted_33 : decode b_MoReader_quoted 33 = .ok (.iadd, 1) := by decide +kernel
theorem d_MoReader_quoted_34 : decode b_MoReader_quoted 34 = .ok (.invokevirtual 158, 3) := by decide +kernel
theorem d_MoReader_quoted_37 : decode b_MoReader_quoted 37 = .ok (.return_, 1) := by decide +kernel
theorem d_MoReader_quoted_38 : decode b_MoReader_quoted 38 = .ok (.iinc 1 1, 3) := by decide +kernel
theorem d_MoReader_quoted_41 : decode b_MoReader_quoted 41 = .ok (.iload_n 2, 1) := by decide +kernel
theorem d_MoReader_quoted_42 : decode b_MoReader_quoted 42 = .ok (.bipush 39, 2) := by decide +kernel
theorem d_MoReader_quoted_44 : decode b_MoReader_quoted 44 = .ok (.if_icmp .eq 11, 3) := by decide +kernel
theorem d_MoReader_quoted_47 : decode b_MoReader_quoted 47 = .ok (.aload_n 0, 1) := by decide +kernel
theorem d_MoReader_quoted_48 : decode b_MoReader_quoted 48 = .ok (.iload_n 2, 1) := by decide +kernel
theorem d_MoReader_quoted_49 : decode b_MoReader_quoted 49 = .ok (.invokevirtual 154, 3) := by decide +kernel
theorem d_MoReader_quoted_52 : decode b_MoReader_quoted 52 = .ok (.goto 32, 3) := by decide +kernel
theorem d_MoReader_quoted_55 : decode b_MoReader_quoted 55 = .ok (.aload_n 0, 1) := by decide +kernel
theorem d_MoReader_quoted_56 : decode b_MoReader_quoted 56 = .ok (.iload_n 1, 1) := by decide +kernel
theorem d_MoReader_quoted_57 : decode b_MoReader_quoted 57 = .ok (.invokevirtual 148, 3) := by decide +kernel
theorem d_MoReader_quoted_60 : decode b_MoReader_quoted 60 = .ok (.bipush 39, 2) := by decide +kernel
theorem d_MoReader_quoted_62 : decode b_MoReader_quoted 62 = .ok (.if_icmp .ne 15, 3) := by decide +kernel
theorem d_MoReader_quoted_65 : decode b_MoReader_quoted 65 = .ok (.aload_n 0, 1) := by decide +kernel
theorem d_MoReader_quoted_66 : decode b_MoReader_quoted 66 = .ok (.bipush 39, 2) := by decide +kernel
theorem d_MoReader_quoted_68 : decode b_MoReader_quoted 68 = .ok (.invokevirtual 154, 3) := by decide +kernel
theorem d_MoReader_quoted_71 : decode b_MoReader_quoted 71 = .ok (.iinc 1 1, 3) := by decide +kernel
theorem d_MoReader_quoted_74 : decode b_MoReader_quoted 74 = .ok (.goto 10, 3) := by decide +kernel
theorem d_MoReader_quoted_77 : decode b_MoReader_quoted 77 = .ok (.aload_n 0, 1) := by decide +kernel
theorem d_MoReader_quoted_78 : decode b_MoReader_quoted 78 = .ok (.iconst 3, 1) := by decide +kernel
theorem d_MoReader_quoted_79 : decode b_MoReader_quoted 79 = .ok (.iload_n 1, 1) := by decide +kernel
theorem d_MoReader_quoted_80 : decode b_MoReader_quoted 80 = .ok (.invokevirtual 158, 3) := by decide +kernel
theorem d_MoReader_quoted_83 : decode b_MoReader_quoted 83 = .ok (.return_, 1) := by decide +kernel
theorem d_MoReader_quoted_84 : decode b_MoReader_quoted 84 = .ok (.goto (-77), 3) := by decide +kernel
def p_MoReader_quoted_7 (n : Nat) (a_n : Int32) (a_at : Int32) (a_behind : Int32) (a_token : Int32) (a_open : Int32) (a_number : Int64) (a_top : Int32) (a_place : Int32) (a_variabled : Int32) (a_known : Int32) (a_rank : Int32) (a_s_n : Nat) (a_s_f : Nat → Int32) (a_word_n : Nat) (kf1 : Nat) (x1_1 : Int32) (a_letters_1 : Int32) (a_word_1f : Nat → Int32) : Option (Int32 × Int32 × Int32 × (Nat → Int32)) := match kf1 with
  | 0 => none
  | kf1 + 1 => (p_MoReader_look x1_1 a_n a_at a_behind a_token a_open a_number a_letters_1 a_top a_place a_variabled a_known a_rank a_s_n a_s_f).bind (fun r2 => if r2 < 32 then ((p_MoReader_take (12 : Int32) (a_at + 1) a_n a_at a_behind a_token a_open a_number a_letters_1 a_top a_place a_variabled a_known a_rank).bind (fun (a_behind_4, a_token_4) => some (a_behind_4, a_token_4, a_letters_1, a_word_1f))) else (if r2 ≤ 126 then (if r2 = 39 then ((p_MoReader_look (x1_1 + 1) a_n a_at a_behind a_token a_open a_number a_letters_1 a_top a_place a_variabled a_known a_rank a_s_n a_s_f).bind (fun r7 => if r7 = 39 then ((p_MoReader_letter (39 : Int32) a_n a_at a_behind a_token a_open a_number a_letters_1 a_top a_place a_variabled a_known a_rank a_word_n a_word_1f).bind (fun (a_letters_10, a_word_f_10) => p_MoReader_quoted_7 n a_n a_at a_behind a_token a_open a_number a_top a_place a_variabled a_known a_rank a_s_n a_s_f a_word_n kf1 ((x1_1 + 1) + 1) a_letters_10 a_word_f_10)) else ((p_MoReader_take (3 : Int32) (x1_1 + 1) a_n a_at a_behind a_token a_open a_number a_letters_1 a_top a_place a_variabled a_known a_rank).bind (fun (a_behind_9, a_token_9) => some (a_behind_9, a_token_9, a_letters_1, a_word_1f))))) else ((p_MoReader_letter r2 a_n a_at a_behind a_token a_open a_number a_letters_1 a_top a_place a_variabled a_known a_rank a_word_n a_word_1f).bind (fun (a_letters_11, a_word_f_11) => p_MoReader_quoted_7 n a_n a_at a_behind a_token a_open a_number a_top a_place a_variabled a_known a_rank a_s_n a_s_f a_word_n kf1 (x1_1 + 1) a_letters_11 a_word_f_11))) else ((p_MoReader_take (12 : Int32) (a_at + 1) a_n a_at a_behind a_token a_open a_number a_letters_1 a_top a_place a_variabled a_known a_rank).bind (fun (a_behind_12, a_token_12) => some (a_behind_12, a_token_12, a_letters_1, a_word_1f)))))
def p_MoReader_quoted (n : Nat) (a_n : Int32) (a_at : Int32) (a_behind : Int32) (a_token : Int32) (a_open : Int32) (a_number : Int64) (a_letters : Int32) (a_top : Int32) (a_place : Int32) (a_variabled : Int32) (a_known : Int32) (a_rank : Int32) (a_s_n : Nat) (a_s_f : Nat → Int32) (a_word_n : Nat) (a_word_f : Nat → Int32) : Option (Int32 × Int32 × Int32 × (Nat → Int32)) := p_MoReader_quoted_7 n a_n a_at a_behind a_token a_open a_number a_top a_place a_variabled a_known a_rank a_s_n a_s_f a_word_n n (a_at + 1) a_letters a_word_f
set_option maxHeartbeats 40000000 in
set_option maxRecDepth 100000 in
theorem c_MoReader_quoted (l : Launch) (g : va_G) (cs : Nat → ClassId) (ka : Nat → Nat) (a_sides : Nat) (a_ranks : Nat) (a_stop : Nat) (a_terms : Nat) (a_names : Nat) (a_stack : Nat) (a_variables : Nat) (a_kept : Nat) (a a_s a_word : Nat) (sz : Nat) (n : Nat) (a_n : Int32) (a_at : Int32) (a_behind : Int32) (a_token : Int32) (a_open : Int32) (a_number : Int64) (a_letters : Int32) (a_top : Int32) (a_place : Int32) (a_variabled : Int32) (a_known : Int32) (a_rank : Int32) (a_s_n : Nat) (a_s_f : Nat → Int32) (a_word_n : Nat) (a_word_f : Nat → Int32) (o_a_behind : Int32) (o_a_token : Int32) (o_a_letters : Int32) (o_a_word_f : Nat → Int32) (hok : p_MoReader_quoted n a_n a_at a_behind a_token a_open a_number a_letters a_top a_place a_variabled a_known a_rank a_s_n a_s_f a_word_n a_word_f = some (o_a_behind, o_a_token, o_a_letters, o_a_word_f)) : Met l y_MoReader_quoted (.code y_MoReader_quoted b_MoReader_quoted 3 none :: GW) { frames := 1, cells := 0, slots := 0, locals := 22 } (va_Pc [.ref a] (gP g cs ka [(a, .inr (12, [.ref a_sides, .ref a_ranks, .ref a_stop, .ref a_terms, .ref a_names, .ref a_s, .int a_n, .int a_at, .int a_behind, .int a_token, .int a_open, .long a_number, .ref a_word, .int a_letters, .ref a_stack, .int a_top, .int a_place, .ref a_variables, .int a_variabled, .int a_known, .int a_rank, .ref a_kept])), (a_s, .inl (cs 1, a_s_n, .inl a_s_f)), (a_word, .inl (cs 1, a_word_n, .inl a_word_f))] sz)) (va_Qv (fun _ : Unit => True) (fun _ t => va_P g classes [(a, .inr (12, [.ref a_sides, .ref a_ranks, .ref a_stop, .ref a_terms, .ref a_names, .ref a_s, .int a_n, .int a_at, .int o_a_behind, .int o_a_token, .int a_open, .long a_number, .ref a_word, .int o_a_letters, .ref a_stack, .int a_top, .int a_place, .ref a_variables, .int a_variabled, .int a_known, .int a_rank, .ref a_kept])), (a_s, .inl (cs 1, a_s_n, .inl a_s_f)), (a_word, .inl (cs 1, a_word_n, .inl o_a_word_f))] t.heap ∧ va_D (va_A [(a, .inr (12, [.ref a_sides, .ref a_ranks, .ref a_stop, .ref a_terms, .ref a_names, .ref a_s, .int a_n, .int a_at, .int a_behind, .int a_token, .int a_open, .long a_number, .ref a_word, .int a_letters, .ref a_stack, .int a_top, .int a_place, .ref a_variables, .int a_variabled, .int a_known, .int a_rank, .ref a_kept])), (a_s, .inl (cs 1, a_s_n, .inl a_s_f)), (a_word, .inl (cs 1, a_word_n, .inl a_word_f))] sz) [(a, .inr (12, [.ref a_sides, .ref a_ranks, .ref a_stop, .ref a_terms, .ref a_names, .ref a_s, .int a_n, .int a_at, .int o_a_behind, .int o_a_token, .int a_open, .long a_number, .ref a_word, .int o_a_letters, .ref a_stack, .int a_top, .int a_place, .ref a_variables, .int a_variabled, .int a_known, .int a_rank, .ref a_kept])), (a_s, .inl (cs 1, a_s_n, .inl a_s_f)), (a_word, .inl (cs 1, a_word_n, .inl o_a_word_f))]) (va_A [(a, .inr (12, [.ref a_sides, .ref a_ranks, .ref a_stop, .ref a_terms, .ref a_names, .ref a_s, .int a_n, .int a_at, .int a_behind, .int a_token, .int a_open, .long a_number, .ref a_word, .int a_letters, .ref a_stack, .int a_top, .int a_place, .ref a_variables, .int a_variabled, .int a_known, .int a_rank, .ref a_kept])), (a_s, .inl (cs 1, a_s_n, .inl a_s_f)), (a_word, .inl (cs 1, a_word_n, .inl a_word_f))] sz)) 0 0 (va_A [(a, .inr (12, [.ref a_sides, .ref a_ranks, .ref a_stop, .ref a_terms, .ref a_names, .ref a_s, .int a_n, .int a_at, .int a_behind, .int a_token, .int a_open, .long a_number, .ref a_word, .int a_letters, .ref a_stack, .int a_top, .int a_place, .ref a_variables, .int a_variabled, .int a_known, .int a_rank, .ref a_kept])), (a_s, .inl (cs 1, a_s_n, .inl a_s_f)), (a_word, .inl (cs 1, a_word_n, .inl a_word_f))] sz) := by
  refine Met.ofW (cc := b_MoReader_quoted) (maxL := 3) (ret := none) (by decide) rfl ?_
  intro p e s m args below meth c s₁ B hml hv
  obtain ⟨rfl, hsz, hP, hK, hD0, hgl, hkn, hkr⟩ := hv
  have hx := B.exec
  have hb := B.bytes
  have hr := B.returns
  have hg : ∀ w ∈ GW, w.before ([.ref a] : List Value).toArray s = true := fun w hw => atoms_spec (ws := .code y_MoReader_quoted b_MoReader_quoted 3 none :: GW) B.pre w (List.mem_cons_of_mem _ hw)
  have hown : s.vm.findClass R_MoReader = some m.cls := findClass_of_methodNamed B.named
  have hlocks := B.notSynchronized
  subst hsz
  have hD := hD0.self (sz := s.heap.size)
  generalize hAe : va_A [(a, .inr (12, [.ref a_sides, .ref a_ranks, .ref a_stop, .ref a_terms, .ref a_names, .ref a_s, .int a_n, .int a_at, .int a_behind, .int a_token, .int a_open, .long a_number, .ref a_word, .int a_letters, .ref a_stack, .int a_top, .int a_place, .ref a_variables, .int a_variabled, .int a_known, .int a_rank, .ref a_kept])), (a_s, .inl (cs 1, a_s_n, .inl a_s_f)), (a_word, .inl (cs 1, a_word_n, .inl a_word_f))] s.heap.size = A at hD hkn ⊢
  have hA : ∀ q : Nat, s.heap.size ≤ q → A q := fun q h => by rw [← hAe]; exact Or.inr h
  have hS : va_S A s.heap s.heap [] := va_S.rf
  have hP : va_P g classes [(a, .inr (12, [.ref a_sides, .ref a_ranks, .ref a_stop, .ref a_terms, .ref a_names, .ref a_s, .int a_n, .int a_at, .int a_behind, .int a_token, .int a_open, .long a_number, .ref a_word, .int a_letters, .ref a_stack, .int a_top, .int a_place, .ref a_variables, .int a_variabled, .int a_known, .int a_rank, .ref a_kept])), (a_s, .inl (cs 1, a_s_n, .inl a_s_f)), (a_word, .inl (cs 1, a_word_n, .inl a_word_f))] s.heap := hP
  have hl := lv_entry ([.ref a]) (n := 3) (Nat.le_of_ble_eq_true rfl)
  rw [lg_entry_eq]
  generalize (lg_sl ([.ref a]) ++ List.replicate (3 - (lg_sl ([.ref a])).length) Slot.unset).toArray = ls at hl ⊢
  have hl : lv_has ls 3 [(0, .ref a)] := hl
  refine gq (fun Q hQ => ?_)
  obtain ⟨H, hH⟩ : ∃ H : Heap, H = s.heap := ⟨_, rfl⟩
  rw [← hH] at hP
  have hS : va_S A s.heap H [] := by rw [hH]; exact hS
  refine W.eqH hH ?_
  obtain ⟨locs, hlc⟩ : ∃ L : List Loc, L = [] := ⟨_, rfl⟩
  rw [← hlc] at hS ⊢
  unfold p_MoReader_quoted at hok
  refine lv_aload_n hx hb d_MoReader_quoted_0 rfl (lv_at hl 0 rfl) ?_
  refine va_get (D := g) (ci := 12) (v := .int a_at) (C := R_MoReader) (T := F_MoReader) (N := 22) hx hb hg ul_MoReader hown hK hP 0 rfl rfl 7 (by decide) (hg _ wd_1182) (fun _ h9 => h9) rfl d_MoReader_quoted_1 ?_
  refine lv_iconst (v := 1) hx hb d_MoReader_quoted_4 (by decide) ?_
  refine lv_iadd hx hb d_MoReader_quoted_5 ?_
  refine lv_istore_n hx hb d_MoReader_quoted_6 rfl hl (by decide) rfl (fun ls hl => ?_)
  have hl : lv_has ls 3 [(1, .int (a_at + 1)), (0, .ref a)] := hl
  have J1 : ∀ (kf1 : Nat) (H : Heap) (locs : List Loc) (ls : Array Slot) (x1_1 : Int32) (a_letters_1 : Int32) (a_word_1f : Nat → Int32), lv_has ls 3 [(1, .int x1_1), (0, .ref a)] → PD g A H [(a, .inr (12, [.ref a_sides, .ref a_ranks, .ref a_stop, .ref a_terms, .ref a_names, .ref a_s, .int a_n, .int a_at, .int a_behind, .int a_token, .int a_open, .long a_number, .ref a_word, .int a_letters_1, .ref a_stack, .int a_top, .int a_place, .ref a_variables, .int a_variabled, .int a_known, .int a_rank, .ref a_kept])), (a_s, .inl (cs 1, a_s_n, .inl a_s_f)), (a_word, .inl (cs 1, a_word_n, .inl a_word_1f))] → va_S A s.heap H locs → p_MoReader_quoted_7 n a_n a_at a_behind a_token a_open a_number a_top a_place a_variabled a_known a_rank a_s_n a_s_f a_word_n kf1 x1_1 a_letters_1 a_word_1f = some (o_a_behind, o_a_token, o_a_letters, o_a_word_f) → W p l e (headSpec (.code y_MoReader_quoted b_MoReader_quoted 3 none :: GW) { frames := 1, cells := 0, slots := 0, locals := 22 }).room s m ([.ref a] : List Value).toArray below meth c H locs 0 0 Q (F0 m 7 ls []) := by
    intro kf1
    induction kf1 with
    | zero => intro H locs ls x1_1 a_letters_1 a_word_1f hl ⟨hP, hD⟩ hS hok; rw [p_MoReader_quoted_7] at hok; cases hok
    | succ kf1 ih1 =>
      intro H locs ls x1_1 a_letters_1 a_word_1f hl ⟨hP, hD⟩ hS hok
      rw [p_MoReader_quoted_7] at hok
      refine lv_aload_n hx hb d_MoReader_quoted_7 rfl (lv_at hl 1 rfl) ?_
      refine lv_iload_n hx hb d_MoReader_quoted_8 rfl (lv_at hl 0 rfl) ?_
      obtain ⟨r2, hc2, hok⟩ := bd_some hok
      obtain ⟨hPc, hDc, hFc⟩ := cut0 (wc := [(a, .inr (12, [.ref a_sides, .ref a_ranks, .ref a_stop, .ref a_terms, .ref a_names, .ref a_s, .int a_n, .int a_at, .int a_behind, .int a_token, .int a_open, .long a_number, .ref a_word, .int a_letters_1, .ref a_stack, .int a_top, .int a_place, .ref a_variables, .int a_variabled, .int a_known, .int a_rank, .ref a_kept])), (a_s, .inl (cs 1, a_s_n, .inl a_s_f))]) hP hD hS hA [0, 1] (by decide) rfl
      refine va_calli (va_runV (As := [.int x1_1]) (rest := []) ⟨hx, hb, hml, hown, hg⟩ (c_MoReader_look l g cs ka a_sides a_ranks a_stop a_terms a_names a_word a_stack a_variables a_kept a a_s H.size x1_1 a_n a_at a_behind a_token a_open a_number a_letters_1 a_top a_place a_variabled a_known a_rank a_s_n a_s_f r2 hc2) (cwV (C := R_MoReader) 1 hg (gw_V wd_1184 wd_1185 wd_1186 wd_754 wd_1183) rfl rfl rfl (by decide +kernel) ⟨Nat.le_of_ble_eq_true rfl, Nat.le_of_ble_eq_true rfl⟩) ⟨gP_blind, va_recv (q0 := 0) (ci := 12) (q := (R_MoReader, F_MoReader, 22)) hK hP rfl rfl, gP_pre hPc hDc hK hgl hkn hkr hS hFc⟩ rfl rfl hl.1 rfl (lv_room (Nat.le_of_ble_eq_true rfl)) d_MoReader_quoted_9 ⟨Nat.le_of_ble_eq_true rfl, Nat.le_of_ble_eq_true rfl⟩) hS (fun q _ h => hFc q h) hFc (fun r2' u t H locs ht hvm hr2 hB hz1 hk1 hS => ?_)
      subst hr2
      rw [ht] at hB
      obtain ⟨hP1, hD1⟩ := hB
      obtain ⟨hP, hD⟩ := jn_A hP hD [0, 1] [2] rfl rfl (by decide) (by decide) hk1 hFc hP1 hD1
      obtain ⟨hP, hD⟩ : PD g A H [(a_word, .inl (cs 1, a_word_n, .inl a_word_1f)), (a, .inr (12, [.ref a_sides, .ref a_ranks, .ref a_stop, .ref a_terms, .ref a_names, .ref a_s, .int a_n, .int a_at, .int a_behind, .int a_token, .int a_open, .long a_number, .ref a_word, .int a_letters_1, .ref a_stack, .int a_top, .int a_place, .ref a_variables, .int a_variabled, .int a_known, .int a_rank, .ref a_kept])), (a_s, .inl (cs 1, a_s_n, .inl a_s_f))] := ⟨hP, hD⟩
      refine lv_istore_n hx hb d_MoReader_quoted_12 rfl hl (by decide) rfl (fun ls hl => ?_)
      have hl : lv_has ls 3 [(2, .int r2), (1, .int x1_1), (0, .ref a)] := hl
      refine lv_iload_n hx hb d_MoReader_quoted_13 rfl (lv_at hl 0 rfl) ?_
      refine lv_bipush (v := 32) hx hb d_MoReader_quoted_14 (by decide) ?_
      refine lv_icmp_lt hx hb d_MoReader_quoted_16 rfl (fun h3 => ?_) (fun h3 => ?_)
      · rw [if_pos h3] at hok
        refine lv_aload_n hx hb d_MoReader_quoted_25 rfl (lv_at hl 2 rfl) ?_
        refine lv_bipush (v := 12) hx hb d_MoReader_quoted_26 (by decide) ?_
        refine lv_aload_n hx hb d_MoReader_quoted_28 rfl (lv_at hl 2 rfl) ?_
        refine va_get (D := g) (ci := 12) (v := .int a_at) (C := R_MoReader) (T := F_MoReader) (N := 22) hx hb hg ul_MoReader hown hK hP 1 rfl rfl 7 (by decide) (hg _ wd_1182) (fun _ h9 => h9) rfl d_MoReader_quoted_29 ?_
        refine lv_iconst (v := 1) hx hb d_MoReader_quoted_32 (by decide) ?_
        refine lv_iadd hx hb d_MoReader_quoted_33 ?_
        obtain ⟨⟨a_behind_4, a_token_4⟩, hc4, hok⟩ := bd_some hok
        dsimp only at hok
        obtain ⟨hPc, hDc, hFc⟩ := cut0 (wc := [(a, .inr (12, [.ref a_sides, .ref a_ranks, .ref a_stop, .ref a_terms, .ref a_names, .ref a_s, .int a_n, .int a_at, .int a_behind, .int a_token, .int a_open, .long a_number, .ref a_word, .int a_letters_1, .ref a_stack, .int a_top, .int a_place, .ref a_variables, .int a_variabled, .int a_known, .int a_rank, .ref a_kept]))]) hP hD hS hA [1] (by decide) rfl
        refine va_callv (va_runV (As := [.int 12, .int (a_at + 1)]) (rest := []) ⟨hx, hb, hml, hown, hg⟩ (c_MoReader_take l g cs ka a_sides a_ranks a_stop a_terms a_names a_s a_word a_stack a_variables a_kept a H.size (12 : Int32) (a_at + 1) a_n a_at a_behind a_token a_open a_number a_letters_1 a_top a_place a_variabled a_known a_rank a_behind_4 a_token_4 hc4) (cwV (C := R_MoReader) 2 hg (gw_V wd_1192 wd_1193 wd_1194 wd_754 wd_1191) rfl rfl rfl (by decide +kernel) ⟨Nat.le_of_ble_eq_true rfl, Nat.le_of_ble_eq_true rfl⟩) ⟨gP_blind, va_recv (q0 := 1) (ci := 12) (q := (R_MoReader, F_MoReader, 22)) hK hP rfl rfl, gP_pre hPc hDc hK hgl hkn hkr hS hFc⟩ rfl rfl hl.1 rfl (lv_room (Nat.le_of_ble_eq_true rfl)) d_MoReader_quoted_34 ⟨Nat.le_of_ble_eq_true rfl, Nat.le_of_ble_eq_true rfl⟩) hS (fun q _ h => hFc q h) hFc (fun u t H locs ht hvm hr4 hB hz1 hk1 hS => ?_)
        rw [ht] at hB
        obtain ⟨hP1, hD1⟩ := hB
        obtain ⟨hP, hD⟩ := jn_A hP hD [1] [0, 2] rfl rfl (by decide) (by decide) hk1 hFc hP1 hD1
        obtain ⟨hP, hD⟩ : PD g A H [(a_word, .inl (cs 1, a_word_n, .inl a_word_1f)), (a_s, .inl (cs 1, a_s_n, .inl a_s_f)), (a, .inr (12, [.ref a_sides, .ref a_ranks, .ref a_stop, .ref a_terms, .ref a_names, .ref a_s, .int a_n, .int a_at, .int a_behind_4, .int a_token_4, .int a_open, .long a_number, .ref a_word, .int a_letters_1, .ref a_stack, .int a_top, .int a_place, .ref a_variables, .int a_variabled, .int a_known, .int a_rank, .ref a_kept]))] := ⟨hP, hD⟩
        have hq := Option.some.inj hok
        obtain ⟨hq0, hq⟩ := Prod.mk.inj hq
        obtain ⟨hq1, hq⟩ := Prod.mk.inj hq
        obtain ⟨hq2, hq⟩ := Prod.mk.inj hq
        have hq3 := hq
        subst hq0
        subst hq1
        subst hq2
        subst hq3
        obtain ⟨hP9, hD9⟩ := sub2 (ws' := [(a, .inr (12, [.ref a_sides, .ref a_ranks, .ref a_stop, .ref a_terms, .ref a_names, .ref a_s, .int a_n, .int a_at, .int a_behind_4, .int a_token_4, .int a_open, .long a_number, .ref a_word, .int a_letters_1, .ref a_stack, .int a_top, .int a_place, .ref a_variables, .int a_variabled, .int a_known, .int a_rank, .ref a_kept])), (a_s, .inl (cs 1, a_s_n, .inl a_s_f)), (a_word, .inl (cs 1, a_word_n, .inl a_word_1f))]) hP hD [2, 1, 0] rfl (by decide) rfl
        rw [hQ]
        exact W.vret hx hb hr (fun t ht hW => ⟨⟨(), rfl, trivial, by rw [ht]; exact hP9, hD9⟩, hS.F ht⟩) hS.2.2 d_MoReader_quoted_37
      · rw [if_neg h3] at hok
        refine lv_iload_n hx hb d_MoReader_quoted_19 rfl (lv_at hl 0 rfl) ?_
        refine lv_bipush (v := 126) hx hb d_MoReader_quoted_20 (by decide) ?_
        refine lv_icmp_le hx hb d_MoReader_quoted_22 rfl (fun h5 => ?_) (fun h5 => ?_)
        · rw [if_pos h5] at hok
          refine lv_iinc (k := 1) (v := x1_1 + 1) hx hb d_MoReader_quoted_38 hl rfl rfl (by decide) rfl (fun ls hl => ?_)
          have hl : lv_has ls 3 [(1, .int (x1_1 + 1)), (2, .int r2), (0, .ref a)] := hl
          refine lv_iload_n hx hb d_MoReader_quoted_41 rfl (lv_at hl 1 rfl) ?_
          refine lv_bipush (v := 39) hx hb d_MoReader_quoted_42 (by decide) ?_
          refine lv_icmp_eq hx hb d_MoReader_quoted_44 rfl (fun h6 => ?_) (fun h6 => ?_)
          · rw [if_pos h6] at hok
            refine lv_aload_n hx hb d_MoReader_quoted_55 rfl (lv_at hl 2 rfl) ?_
            refine lv_iload_n hx hb d_MoReader_quoted_56 rfl (lv_at hl 0 rfl) ?_
            obtain ⟨r7, hc7, hok⟩ := bd_some hok
            obtain ⟨hPc, hDc, hFc⟩ := cut0 (wc := [(a, .inr (12, [.ref a_sides, .ref a_ranks, .ref a_stop, .ref a_terms, .ref a_names, .ref a_s, .int a_n, .int a_at, .int a_behind, .int a_token, .int a_open, .long a_number, .ref a_word, .int a_letters_1, .ref a_stack, .int a_top, .int a_place, .ref a_variables, .int a_variabled, .int a_known, .int a_rank, .ref a_kept])), (a_s, .inl (cs 1, a_s_n, .inl a_s_f))]) hP hD hS hA [1, 2] (by decide) rfl
            refine va_calli (va_runV (As := [.int (x1_1 + 1)]) (rest := []) ⟨hx, hb, hml, hown, hg⟩ (c_MoReader_look l g cs ka a_sides a_ranks a_stop a_terms a_names a_word a_stack a_variables a_kept a a_s H.size (x1_1 + 1) a_n a_at a_behind a_token a_open a_number a_letters_1 a_top a_place a_variabled a_known a_rank a_s_n a_s_f r7 hc7) (cwV (C := R_MoReader) 1 hg (gw_V wd_1184 wd_1185 wd_1186 wd_754 wd_1183) rfl rfl rfl (by decide +kernel) ⟨Nat.le_of_ble_eq_true rfl, Nat.le_of_ble_eq_true rfl⟩) ⟨gP_blind, va_recv (q0 := 1) (ci := 12) (q := (R_MoReader, F_MoReader, 22)) hK hP rfl rfl, gP_pre hPc hDc hK hgl hkn hkr hS hFc⟩ rfl rfl hl.1 rfl (lv_room (Nat.le_of_ble_eq_true rfl)) d_MoReader_quoted_57 ⟨Nat.le_of_ble_eq_true rfl, Nat.le_of_ble_eq_true rfl⟩) hS (fun q _ h => hFc q h) hFc (fun r7' u t H locs ht hvm hr7 hB hz1 hk1 hS => ?_)
            subst hr7
            rw [ht] at hB
            obtain ⟨hP1, hD1⟩ := hB
            obtain ⟨hP, hD⟩ := jn_A hP hD [1, 2] [0] rfl rfl (by decide) (by decide) hk1 hFc hP1 hD1
            obtain ⟨hP, hD⟩ : PD g A H [(a_word, .inl (cs 1, a_word_n, .inl a_word_1f)), (a, .inr (12, [.ref a_sides, .ref a_ranks, .ref a_stop, .ref a_terms, .ref a_names, .ref a_s, .int a_n, .int a_at, .int a_behind, .int a_token, .int a_open, .long a_number, .ref a_word, .int a_letters_1, .ref a_stack, .int a_top, .int a_place, .ref a_variables, .int a_variabled, .int a_known, .int a_rank, .ref a_kept])), (a_s, .inl (cs 1, a_s_n, .inl a_s_f))] := ⟨hP, hD⟩
            refine lv_bipush (v := 39) hx hb d_MoReader_quoted_60 (by decide) ?_
            refine lv_icmp_ne hx hb d_MoReader_quoted_62 rfl (fun h8 => ?_) (fun h8 => ?_)
            · rw [if_neg h8] at hok
              refine lv_aload_n hx hb d_MoReader_quoted_77 rfl (lv_at hl 2 rfl) ?_
              refine lv_iconst (v := 3) hx hb d_MoReader_quoted_78 (by decide) ?_
              refine lv_iload_n hx hb d_MoReader_quoted_79 rfl (lv_at hl 0 rfl) ?_
              obtain ⟨⟨a_behind_9, a_token_9⟩, hc9, hok⟩ := bd_some hok
              dsimp only at hok
              obtain ⟨hPc, hDc, hFc⟩ := cut0 (wc := [(a, .inr (12, [.ref a_sides, .ref a_ranks, .ref a_stop, .ref a_terms, .ref a_names, .ref a_s, .int a_n, .int a_at, .int a_behind, .int a_token, .int a_open, .long a_number, .ref a_word, .int a_letters_1, .ref a_stack, .int a_top, .int a_place, .ref a_variables, .int a_variabled, .int a_known, .int a_rank, .ref a_kept]))]) hP hD hS hA [1] (by decide) rfl
              refine va_callv (va_runV (As := [.int 3, .int (x1_1 + 1)]) (rest := []) ⟨hx, hb, hml, hown, hg⟩ (c_MoReader_take l g cs ka a_sides a_ranks a_stop a_terms a_names a_s a_word a_stack a_variables a_kept a H.size (3 : Int32) (x1_1 + 1) a_n a_at a_behind a_token a_open a_number a_letters_1 a_top a_place a_variabled a_known a_rank a_behind_9 a_token_9 hc9) (cwV (C := R_MoReader) 2 hg (gw_V wd_1192 wd_1193 wd_1194 wd_754 wd_1191) rfl rfl rfl (by decide +kernel) ⟨Nat.le_of_ble_eq_true rfl, Nat.le_of_ble_eq_true rfl⟩) ⟨gP_blind, va_recv (q0 := 1) (ci := 12) (q := (R_MoReader, F_MoReader, 22)) hK hP rfl rfl, gP_pre hPc hDc hK hgl hkn hkr hS hFc⟩ rfl rfl hl.1 rfl (lv_room (Nat.le_of_ble_eq_true rfl)) d_MoReader_quoted_80 ⟨Nat.le_of_ble_eq_true rfl, Nat.le_of_ble_eq_true rfl⟩) hS (fun q _ h => hFc q h) hFc (fun u t H locs ht hvm hr9 hB hz1 hk1 hS => ?_)
              rw [ht] at hB
              obtain ⟨hP1, hD1⟩ := hB
              obtain ⟨hP, hD⟩ := jn_A hP hD [1] [0, 2] rfl rfl (by decide) (by decide) hk1 hFc hP1 hD1
              obtain ⟨hP, hD⟩ : PD g A H [(a_word, .inl (cs 1, a_word_n, .inl a_word_1f)), (a_s, .inl (cs 1, a_s_n, .inl a_s_f)), (a, .inr (12, [.ref a_sides, .ref a_ranks, .ref a_stop, .ref a_terms, .ref a_names, .ref a_s, .int a_n, .int a_at, .int a_behind_9, .int a_token_9, .int a_open, .long a_number, .ref a_word, .int a_letters_1, .ref a_stack, .int a_top, .int a_place, .ref a_variables, .int a_variabled, .int a_known, .int a_rank, .ref a_kept]))] := ⟨hP, hD⟩
              have hq := Option.some.inj hok
              obtain ⟨hq0, hq⟩ := Prod.mk.inj hq
              obtain ⟨hq1, hq⟩ := Prod.mk.inj hq
              obtain ⟨hq2, hq⟩ := Prod.mk.inj hq
              have hq3 := hq
              subst hq0
              subst hq1
              subst hq2
              subst hq3
              obtain ⟨hP9, hD9⟩ := sub2 (ws' := [(a, .inr (12, [.ref a_sides, .ref a_ranks, .ref a_stop, .ref a_terms, .ref a_names, .ref a_s, .int a_n, .int a_at, .int a_behind_9, .int a_token_9, .int a_open, .long a_number, .ref a_word, .int a_letters_1, .ref a_stack, .int a_top, .int a_place, .ref a_variables, .int a_variabled, .int a_known, .int a_rank, .ref a_kept])), (a_s, .inl (cs 1, a_s_n, .inl a_s_f)), (a_word, .inl (cs 1, a_word_n, .inl a_word_1f))]) hP hD [2, 1, 0] rfl (by decide) rfl
              rw [hQ]
              exact W.vret hx hb hr (fun t ht hW => ⟨⟨(), rfl, trivial, by rw [ht]; exact hP9, hD9⟩, hS.F ht⟩) hS.2.2 d_MoReader_quoted_83
            · rw [if_pos h8] at hok
              refine lv_aload_n hx hb d_MoReader_quoted_65 rfl (lv_at hl 2 rfl) ?_
              refine lv_bipush (v := 39) hx hb d_MoReader_quoted_66 (by decide) ?_
              obtain ⟨⟨a_letters_10, a_word_f_10⟩, hc10, hok⟩ := bd_some hok
              dsimp only at hok
              obtain ⟨hPc, hDc, hFc⟩ := cut0 (wc := [(a, .inr (12, [.ref a_sides, .ref a_ranks, .ref a_stop, .ref a_terms, .ref a_names, .ref a_s, .int a_n, .int a_at, .int a_behind, .int a_token, .int a_open, .long a_number, .ref a_word, .int a_letters_1, .ref a_stack, .int a_top, .int a_place, .ref a_variables, .int a_variabled, .int a_known, .int a_rank, .ref a_kept])), (a_word, .inl (cs 1, a_word_n, .inl a_word_1f))]) hP hD hS hA [1, 0] (by decide) rfl
              refine va_callv (va_runV (As := [.int 39]) (rest := []) ⟨hx, hb, hml, hown, hg⟩ (c_MoReader_letter l g cs ka a_sides a_ranks a_stop a_terms a_names a_s a_stack a_variables a_kept a a_word H.size (39 : Int32) a_n a_at a_behind a_token a_open a_number a_letters_1 a_top a_place a_variabled a_known a_rank a_word_n a_word_1f a_letters_10 a_word_f_10 hc10) (cwV (C := R_MoReader) 1 hg (gw_V wd_1198 wd_1199 wd_1200 wd_754 wd_1197) rfl rfl rfl (by decide +kernel) ⟨Nat.le_of_ble_eq_true rfl, Nat.le_of_ble_eq_true rfl⟩) ⟨gP_blind, va_recv (q0 := 1) (ci := 12) (q := (R_MoReader, F_MoReader, 22)) hK hP rfl rfl, gP_pre hPc hDc hK hgl hkn hkr hS hFc⟩ rfl rfl hl.1 rfl (lv_room (Nat.le_of_ble_eq_true rfl)) d_MoReader_quoted_68 ⟨Nat.le_of_ble_eq_true rfl, Nat.le_of_ble_eq_true rfl⟩) hS (fun q _ h => hFc q h) hFc (fun u t H locs ht hvm hr10 hB hz1 hk1 hS => ?_)
              rw [ht] at hB
              obtain ⟨hP1, hD1⟩ := hB
              obtain ⟨hP, hD⟩ := jn_A hP hD [1, 0] [2] rfl rfl (by decide) (by decide) hk1 hFc hP1 hD1
              obtain ⟨hP, hD⟩ : PD g A H [(a_s, .inl (cs 1, a_s_n, .inl a_s_f)), (a, .inr (12, [.ref a_sides, .ref a_ranks, .ref a_stop, .ref a_terms, .ref a_names, .ref a_s, .int a_n, .int a_at, .int a_behind, .int a_token, .int a_open, .long a_number, .ref a_word, .int a_letters_10, .ref a_stack, .int a_top, .int a_place, .ref a_variables, .int a_variabled, .int a_known, .int a_rank, .ref a_kept])), (a_word, .inl (cs 1, a_word_n, .inl a_word_f_10))] := ⟨hP, hD⟩
              refine lv_iinc (k := 0) (v := (x1_1 + 1) + 1) hx hb d_MoReader_quoted_71 hl rfl rfl (by decide) rfl (fun ls hl => ?_)
              have hl : lv_has ls 3 [(1, .int ((x1_1 + 1) + 1)), (2, .int r2), (0, .ref a)] := hl
              refine lv_goto hx hb d_MoReader_quoted_74 rfl ?_
              refine lv_goto hx hb d_MoReader_quoted_84 rfl ?_
              exact ih1 _ _ _ ((x1_1 + 1) + 1) a_letters_10 a_word_f_10 (lv_sub hl [0, 2] rfl) (sub3 hP hD [1, 0, 2] (by decide)) hS hok
          · rw [if_neg h6] at hok
            refine lv_aload_n hx hb d_MoReader_quoted_47 rfl (lv_at hl 2 rfl) ?_
            refine lv_iload_n hx hb d_MoReader_quoted_48 rfl (lv_at hl 1 rfl) ?_
            obtain ⟨⟨a_letters_11, a_word_f_11⟩, hc11, hok⟩ := bd_some hok
            dsimp only at hok
            obtain ⟨hPc, hDc, hFc⟩ := cut0 (wc := [(a, .inr (12, [.ref a_sides, .ref a_ranks, .ref a_stop, .ref a_terms, .ref a_names, .ref a_s, .int a_n, .int a_at, .int a_behind, .int a_token, .int a_open, .long a_number, .ref a_word, .int a_letters_1, .ref a_stack, .int a_top, .int a_place, .ref a_variables, .int a_variabled, .int a_known, .int a_rank, .ref a_kept])), (a_word, .inl (cs 1, a_word_n, .inl a_word_1f))]) hP hD hS hA [1, 0] (by decide) rfl
            refine va_callv (va_runV (As := [.int r2]) (rest := []) ⟨hx, hb, hml, hown, hg⟩ (c_MoReader_letter l g cs ka a_sides a_ranks a_stop a_terms a_names a_s a_stack a_variables a_kept a a_word H.size r2 a_n a_at a_behind a_token a_open a_number a_letters_1 a_top a_place a_variabled a_known a_rank a_word_n a_word_1f a_letters_11 a_word_f_11 hc11) (cwV (C := R_MoReader) 1 hg (gw_V wd_1198 wd_1199 wd_1200 wd_754 wd_1197) rfl rfl rfl (by decide +kernel) ⟨Nat.le_of_ble_eq_true rfl, Nat.le_of_ble_eq_true rfl⟩) ⟨gP_blind, va_recv (q0 := 1) (ci := 12) (q := (R_MoReader, F_MoReader, 22)) hK hP rfl rfl, gP_pre hPc hDc hK hgl hkn hkr hS hFc⟩ rfl rfl hl.1 rfl (lv_room (Nat.le_of_ble_eq_true rfl)) d_MoReader_quoted_49 ⟨Nat.le_of_ble_eq_true rfl, Nat.le_of_ble_eq_true rfl⟩) hS (fun q _ h => hFc q h) hFc (fun u t H locs ht hvm hr11 hB hz1 hk1 hS => ?_)
            rw [ht] at hB
            obtain ⟨hP1, hD1⟩ := hB
            obtain ⟨hP, hD⟩ := jn_A hP hD [1, 0] [2] rfl rfl (by decide) (by decide) hk1 hFc hP1 hD1
            obtain ⟨hP, hD⟩ : PD g A H [(a_s, .inl (cs 1, a_s_n, .inl a_s_f)), (a, .inr (12, [.ref a_sides, .ref a_ranks, .ref a_stop, .ref a_terms, .ref a_names, .ref a_s, .int a_n, .int a_at, .int a_behind, .int a_token, .int a_open, .long a_number, .ref a_word, .int a_letters_11, .ref a_stack, .int a_top, .int a_place, .ref a_variables, .int a_variabled, .int a_known, .int a_rank, .ref a_kept])), (a_word, .inl (cs 1, a_word_n, .inl a_word_f_11))] := ⟨hP, hD⟩
            refine lv_goto hx hb d_MoReader_quoted_52 rfl ?_
            refine lv_goto hx hb d_MoReader_quoted_84 rfl ?_
            exact ih1 _ _ _ (x1_1 + 1) a_letters_11 a_word_f_11 (lv_sub hl [0, 2] rfl) (sub3 hP hD [1, 0, 2] (by decide)) hS hok
        · rw [if_neg h5] at hok
          refine lv_aload_n hx hb d_MoReader_quoted_25 rfl (lv_at hl 2 rfl) ?_
          refine lv_bipush (v := 12) hx hb d_MoReader_quoted_26 (by decide) ?_
          refine lv_aload_n hx hb d_MoReader_quoted_28 rfl (lv_at hl 2 rfl) ?_
          refine va_get (D := g) (ci := 12) (v := .int a_at) (C := R_MoReader) (T := F_MoReader) (N := 22) hx hb hg ul_MoReader hown hK hP 1 rfl rfl 7 (by decide) (hg _ wd_1182) (fun _ h9 => h9) rfl d_MoReader_quoted_29 ?_
          refine lv_iconst (v := 1) hx hb d_MoReader_quoted_32 (by decide) ?_
          refine lv_iadd hx hb d_MoReader_quoted_33 ?_
          obtain ⟨⟨a_behind_12, a_token_12⟩, hc12, hok⟩ := bd_some hok
          dsimp only at hok
          obtain ⟨hPc, hDc, hFc⟩ := cut0 (wc := [(a, .inr (12, [.ref a_sides, .ref a_ranks, .ref a_stop, .ref a_terms, .ref a_names, .ref a_s, .int a_n, .int a_at, .int a_behind, .int a_token, .int a_open, .long a_number, .ref a_word, .int a_letters_1, .ref a_stack, .int a_top, .int a_place, .ref a_variables, .int a_variabled, .int a_known, .int a_rank, .ref a_kept]))]) hP hD hS hA [1] (by decide) rfl
          refine va_callv (va_runV (As := [.int 12, .int (a_at + 1)]) (rest := []) ⟨hx, hb, hml, hown, hg⟩ (c_MoReader_take l g cs ka a_sides a_ranks a_stop a_terms a_names a_s a_word a_stack a_variables a_kept a H.size (12 : Int32) (a_at + 1) a_n a_at a_behind a_token a_open a_number a_letters_1 a_top a_place a_variabled a_known a_rank a_behind_12 a_token_12 hc12) (cwV (C := R_MoReader) 2 hg (gw_V wd_1192 wd_1193 wd_1194 wd_754 wd_1191) rfl rfl rfl (by decide +kernel) ⟨Nat.le_of_ble_eq_true rfl, Nat.le_of_ble_eq_true rfl⟩) ⟨gP_blind, va_recv (q0 := 1) (ci := 12) (q := (R_MoReader, F_MoReader, 22)) hK hP rfl rfl, gP_pre hPc hDc hK hgl hkn hkr hS hFc⟩ rfl rfl hl.1 rfl (lv_room (Nat.le_of_ble_eq_true rfl)) d_MoReader_quoted_34 ⟨Nat.le_of_ble_eq_true rfl, Nat.le_of_ble_eq_true rfl⟩) hS (fun q _ h => hFc q h) hFc (fun u t H locs ht hvm hr12 hB hz1 hk1 hS => ?_)
          rw [ht] at hB
          obtain ⟨hP1, hD1⟩ := hB
          obtain ⟨hP, hD⟩ := jn_A hP hD [1] [0, 2] rfl rfl (by decide) (by decide) hk1 hFc hP1 hD1
          obtain ⟨hP, hD⟩ : PD g A H [(a_word, .inl (cs 1, a_word_n, .inl a_word_1f)), (a_s, .inl (cs 1, a_s_n, .inl a_s_f)), (a, .inr (12, [.ref a_sides, .ref a_ranks, .ref a_stop, .ref a_terms, .ref a_names, .ref a_s, .int a_n, .int a_at, .int a_behind_12, .int a_token_12, .int a_open, .long a_number, .ref a_word, .int a_letters_1, .ref a_stack, .int a_top, .int a_place, .ref a_variables, .int a_variabled, .int a_known, .int a_rank, .ref a_kept]))] := ⟨hP, hD⟩
          have hq := Option.some.inj hok
          obtain ⟨hq0, hq⟩ := Prod.mk.inj hq
          obtain ⟨hq1, hq⟩ := Prod.mk.inj hq
          obtain ⟨hq2, hq⟩ := Prod.mk.inj hq
          have hq3 := hq
          subst hq0
          subst hq1
          subst hq2
          subst hq3
          obtain ⟨hP9, hD9⟩ := sub2 (ws' := [(a, .inr (12, [.ref a_sides, .ref a_ranks, .ref a_stop, .ref a_terms, .ref a_names, .ref a_s, .int a_n, .int a_at, .int a_behind_12, .int a_token_12, .int a_open, .long a_number, .ref a_word, .int a_letters_1, .ref a_stack, .int a_top, .int a_place, .ref a_variables, .int a_variabled, .int a_known, .int a_rank, .ref a_kept])), (a_s, .inl (cs 1, a_s_n, .inl a_s_f)), (a_word, .inl (cs 1, a_word_n, .inl a_word_1f))]) hP hD [2, 1, 0] rfl (by decide) rfl
          rw [hQ]
          exact W.vret hx hb hr (fun t ht hW => ⟨⟨(), rfl, trivial, by rw [ht]; exact hP9, hD9⟩, hS.F ht⟩) hS.2.2 d_MoReader_quoted_37
  exact J1 n H locs ls (a_at + 1) a_letters a_word_f hl ⟨hP, hD⟩ hS hok

theorem d_MoReader_sign_0 : decode b_MoReader_sign 0 = .ok (.iload_n 1, 1) := by decide +kernel
theorem d_MoReader_sign_1 : decode b_MoReader_sign 1 = .ok (.lookupswitch 269 #[(33, 91), (40, 110), (41, 124), (44, 239), (59, 91), (91, 138), (93, 194), (123, 209), (124, 254), (125, 224)], 91) := by decide +kernel
theorem d_MoReader_sign_92 : decode b_MoReader_sign 92 = .ok (.aload_n 0, 1) := by decide +kernel
theorem d_MoReader_sign_93 : decode b_MoReader_sign 93 = .ok (.iload_n 1, 1) := by decide +kernel
theorem d_MoReader_sign_94 : decode b_MoReader_sign 94 = .ok (.invokevirtual 154, 3) := by decide +kernel
theorem d_MoReader_sign_97 : decode b_MoReader_sign 97 = .ok (.aload_n 0, 1) := by decide +kernel
theorem d_MoReader_sign_98 : decode b_MoReader_sign 98 = .ok (.iconst 3, 1) := by decide +kernel
theorem d_MoReader_sign_99 : decode b_MoReader_sign 99 = .ok (.aload_n 0, 1) := by decide +kernel
theorem d_MoReader_sign_100 : decode b_MoReader_sign 100 = .ok (.getfield 116, 3) := by decide +kernel
theorem d_MoReader_sign_103 : decode b_MoReader_sign 103 = .ok (.iconst 1, 1) := by decide +kernel
theorem d_MoReader_sign_104 : decode b_MoReader_sign 104 = .ok (.iadd, 1) := by decide +kernel
theorem d_MoReader_sign_105 : decode b_MoReader_sign 105 = .ok (.invokevirtual 158, 3) := by decide +kernel
theorem d_MoReader_sign_108 : decode b_MoReader_sign 108 = .ok (.goto 174, 3) := by decide +kernel
theorem d_MoReader_sign_111 : decode b_MoReader_sign 111 = .ok (.aload_n 0, 1) := by decide +kernel
theorem d_MoReader_sign_112 : decode b_MoReader_sign 112 = .ok (.iconst 4, 1) := by decide +kernel
theorem d_MoReader_sign_113 : decode b_MoReader_sign 113 = .ok (.aload_n 0, 1) := by decide +kernel
theorem d_MoReader_sign_114 : decode b_MoReader_sign 114 = .ok (.getfield 116, 3) := by decide +kernel
theorem d_MoReader_sign_117 : decode b_MoReader_sign 117 = .ok (.iconst 1, 1) := by decide +kernel
theorem d_MoReader_sign_118 : decode b_MoReader_sign 118 = .ok (.iadd, 1) := by decide +kernel
theorem d_MoReader_sign_119 : decode b_MoReader_sign 119 = .ok (.invokevirtual 158, 3) := by decide +kernel
theorem d_MoReader_sign_122 : decode b_MoReader_sign 122 = .ok (.goto 160, 3) := by decide +kernel
theorem d_MoReader_sign_125 : decode b_MoReader_sign 125 = .ok (.aload_n 0, 1) := by decide +kernel
theorem d_MoReader_sign_126 : decode b_MoReader_sign 126 = .ok (.iconst 5, 1) := by decide +kernel
theorem d_MoReader_sign_127 : decode b_MoReader_sign 127 = .ok (.aload_n 0, 1) := by decide +kernel
theorem d_MoReader_sign_128 : decode b_MoReader_sign 128 = .ok (.getfield 116, 3) := by decide +kernel
theorem d_MoReader_sign_131 : decode b_MoReader_sign 131 = .ok (.iconst 1, 1) := by decide +kernel
theorem d_MoReader_sign_132 : decode b_MoReader_sign 132 = .ok (.iadd, 1) := by decide +kernel
theorem d_MoReader_sign_133 : decode b_MoReader_sign 133 = .ok (.invokevirtual 158, 3) := by decide +kernel
theorem d_MoReader_sign_136 : decode b_MoReader_sign 136 = .ok (.goto 146, 3) := by decide +kernel
theorem d_MoReader_sign_139 : decode b_MoReader_sign 139 = .ok (.aload_n 0, 1) := by decide +kernel
theorem d_MoReader_sign_140 : decode b_MoReader_sign 140 = .ok (.aload_n 0, 1) := by decide +kernel
theorem d_MoReader_sign_141 : decode b_MoReader_sign 141 = .ok (.getfield 116, 3) := by decide +kernel
theorem d_MoReader_sign_144 : decode b_MoReader_sign 144 = .ok (.iconst 1, 1) := by decide +kernel
theorem d_MoReader_sign_145 : decode b_MoReader_sign 145 = .ok (.iadd, 1) := by decide +kernel
theorem d_MoReader_sign_146 : decode b_MoReader_sign 146 = .ok (.invokevirtual 148, 3) := by decide +kernel
theorem d_MoReader_sign_149 : decode b_MoReader_sign 149 = .ok (.bipush 93, 2) := by decide +kernel
theorem d_MoReader_sign_151 : decode b_MoReader_sign 151 = .ok (.if_icmp .ne 29, 3) := by decide +kernel
theorem d_MoReader_sign_154 : decode b_MoReader_sign 154 = .ok (.aload_n 0, 1) := by decide +kernel
theorem d_MoReader_sign_155 : decode b_MoReader_sign 155 = .ok (.bipush 91, 2) := by decide +kernel
theorem d_MoReader_sign_157 : decode b_MoReader_sign 157 = .ok (.invokevirtual 154, 3) := by decide +kernel
theorem d_MoReader_sign_160 : decode b_MoReader_sign 160 = .ok (.aload_n 0, 1) := by decide +kernel
theorem d_MoReader_sign_161 : decode b_MoReader_sign 161 = .ok (.bipush 93, 2) := by decide +kernel
theorem d_MoReader_sign_163 : decode b_MoReader_sign 163 = .ok (.invokevirtual 154, 3) := by decide +kernel
theorem d_MoReader_sign_166 : decode b_MoReader_sign 166 = .ok (.aload_n 0, 1) := by decide +kernel
theorem d_MoReader_sign_167 : decode b_MoReader_sign 167 = .ok (.iconst 3, 1) := by decide +kernel
theorem d_MoReader_sign_168 : decode b_MoReader_sign 168 = .ok (.aload_n 0, 1) := by decide +kernel
theorem d_MoReader_sign_169 : decode b_MoReader_sign 169 = .ok (.getfield 116, 3) := by decide +kernel
theorem d_MoReader_sign_172 : decode b_MoReader_sign 172 = .ok (.iconst 2, 1) := by decide +kernel
theorem d_MoReader_sign_173 : decode b_MoReader_sign 173 = .ok (.iadd, 1) := by decide +kernel
theorem d_MoReader_sign_174 : decode b_MoReader_sign 174 = .ok (.invokevirtual 158, 3) := by decide +kernel
theorem d_MoReader_sign_177 : decode b_MoReader_sign 177 = .ok (.goto 105, 3) := by decide +kernel
theorem d_MoReader_sign_180 : decode b_MoReader_sign 180 = .ok (.aload_n 0, 1) := by decide +kernel
theorem d_MoReader_sign_181 : decode b_MoReader_sign 181 = .ok (.bipush 6, 2) := by decide +kernel
theorem d_MoReader_sign_183 : decode b_MoReader_sign 183 = .ok (.aload_n 0, 1) := by decide +kernel
theorem d_MoReader_sign_184 : decode b_MoReader_sign 184 = .ok (.getfield 116, 3) := by decide +kernel
theorem d_MoReader_sign_187 : decode b_MoReader_sign 187 = .ok (.iconst 1, 1) := by decide +kernel
theorem d_MoReader_sign_188 : decode b_MoReader_sign 188 = .ok (.iadd, 1) := by decide +kernel
theorem d_MoReader_sign_189 : decode b_MoReader_sign 189 = .ok (.invokevirtual 158, 3) := by decide +kernel
theorem d_MoReader_sign_192 : decode b_MoReader_sign 192 = .ok (.goto 90, 3) := by decide +kernel
theorem d_MoReader_sign_195 : decode b_MoReader_sign 195 = .ok (.aload_n 0, 1) := by decide +kernel
theorem d_MoReader_sign_196 : decode b_MoReader_sign 196 = .ok (.bipush 7, 2) := by decide +kernel
theorem d_MoReader_sign_198 : decode b_MoReader_sign 198 = .ok (.aload_n 0, 1) := by decide +kernel
theorem d_MoReader_sign_199 : decode b_MoReader_sign 199 = .ok (.getfield 116, 3) := by decide +kernel
theorem d_MoReader_sign_202 : decode b_MoReader_sign 202 = .ok (.iconst 1, 1) := by decide +kernel
theorem d_MoReader_sign_203 : decode b_MoReader_sign 203 = .ok (.iadd, 1) := by decide +kernel
theorem d_MoReader_sign_204 : decode b_MoReader_sign 204 = .ok (.invokevirtual 158, 3) := by decide +kernel
theorem d_MoReader_sign_207 : decode b_MoReader_sign 207 = .ok (.goto 75, 3) := by decide +kernel
theorem d_MoReader_sign_210 : decode b_MoReader_sign 210 = .ok (.aload_n 0, 1) := by decide +kernel
theorem d_MoReader_sign_211 : decode b_MoReader_sign 211 = .ok (.bipush 8, 2) := by decide +kernel
theorem d_MoReader_sign_213 : decode b_MoReader_sign 213 = .ok (.aload_n 0, 1) := by decide +kernel
theorem d_MoReader_sign_214 : decode b_MoReader_sign 214 = .ok (.getfield 116, 3) := by decide +kernel
theorem d_MoReader_sign_217 : decode b_MoReader_sign 217 = .ok (.iconst 1, 1) := by decide +kernel
theorem d_MoReader_sign_218 : decode b_MoReader_sign 218 = .ok (.iadd, 1) := by decide +kernel
theorem d_MoReader_sign_219 : decode b_MoReader_sign 219 = .ok (.invokevirtual 158, 3) := by decide +kernel
theorem d_MoReader_sign_222 : decode b_MoReader_sign 222 = .ok (.goto 60, 3) := by decide +kernel
theorem d_MoReader_sign_225 : decode b_MoReader_sign 225 = .ok (.aload_n 0, 1) := by decide +kernel
theorem d_MoReader_sign_226 : decode b_MoReader_sign 226 = .ok (.bipush 9, 2) := by decide +kernel
theorem d_MoReader_sign_228 : decode b_MoReader_sign 228 = .ok (.aload_n 0, 1) := by decide +kernel
theorem d_MoReader_sign_229 : decode b_MoReader_sign 229 = .ok (.getfield 116, 3) := by decide +kernel
theorem d_MoReader_sign_232 : decode b_MoReader_sign 232 = .ok (.iconst 1, 1) := by decide +kernel
theorem d_MoReader_sign_233 : decode b_MoReader_sign 233 = .ok (.iadd, 1) := by decide +kernel
theorem d_MoReader_sign_234 : decode b_MoReader_sign 234 = .ok (.invokevirtual 158, 3) := by decide +kernel
theorem d_MoReader_sign_237 : decode b_MoReader_sign 237 = .ok (.goto 45, 3) := by decide +kernel
theorem d_MoReader_sign_240 : decode b_MoReader_sign 240 = .ok (.aload_n 0, 1) := by decide +kernel
theorem d_MoReader_sign_241 : decode b_MoReader_sign 241 = .ok (.bipush 10, 2) := by decide +kernel
theorem d_MoReader_sign_243 : decode b_MoReader_sign 243 = .ok (.aload_n 0, 1) := by decide +kernel
theorem d_MoReader_sign_244 : decode b_MoReader_sign 244 = .ok (.getfield 116, 3) := by decide +kernel
theorem d_MoReader_sign_247 : decode b_MoReader_sign 247 = .ok (.iconst 1, 1) := by decide +kernel
theorem d_MoReader_sign_248 : decode b_MoReader_sign 248 = .ok (.iadd, 1) := by decide +kernel
theorem d_MoReader_sign_249 : decode b_MoReader_sign 249 = .ok (.invokevirtual 158, 3) := by decide +kernel
theorem d_MoReader_sign_252 : decode b_MoReader_sign 252 = .ok (.goto 30, 3) := by decide +kernel
theorem d_MoReader_sign_255 : decode b_MoReader_sign 255 = .ok (.aload_n 0, 1) := by decide +kernel
theorem d_MoReader_sign_256 : decode b_MoReader_sign 256 = .ok (.bipush 11, 2) := by decide +kernel
theorem d_MoReader_sign_258 : decode b_MoReader_sign 258 = .ok (.aload_n 0, 1) := by decide +kernel
theorem d_MoReader_sign_259 : decode b_MoReader_sign 259 = .ok (.getfield 116, 3) := by decide +kernel
theorem d_MoReader_sign_262 : decode b_MoReader_sign 262 = .ok (.iconst 1, 1) := by decide +kernel
theorem d_MoReader_sign_263 : decode b_MoReader_sign 263 = .ok (.iadd, 1) := by decide +kernel
theorem d_MoReader_sign_264 : decode b_MoReader_sign 264 = .ok (.invokevirtual 158, 3) := by decide +kernel
theorem d_MoReader_sign_267 : decode b_MoReader_sign 267 = .ok (.goto 15, 3) := by decide +kernel
theorem d_MoReader_sign_270 : decode b_MoReader_sign 270 = .ok (.aload_n 0, 1) := by decide +kernel
theorem d_MoReader_sign_271 : decode b_MoReader_sign 271 = .ok (.bipush 12, 2) := by decide +kernel
theorem d_MoReader_sign_273 : decode b_MoReader_sign 273 = .ok (.aload_n 0, 1) := by decide +kernel
theorem d_MoReader_sign_274 : decode b_MoReader_sign 274 = .ok (.getfield 116, 3) := by decide +kernel
theorem d_MoReader_sign_277 : decode b_MoReader_sign 277 = .ok (.iconst 1, 1) := by decide +kernel
theorem d_MoReader_sign_278 : decode b_MoReader_sign 278 = .ok (.iadd, 1) := by decide +kernel
theorem d_MoReader_sign_279 : decode b_MoReader_sign 279 = .ok (.invokevirtual 158, 3) := by decide +kernel
theorem d_MoReader_sign_282 : decode b_MoReader_sign 282 = .ok (.return_, 1) := by decide +kernel
def p_MoReader_sign (c0 : Int32) (a_n : Int32) (a_at : Int32) (a_behind : Int32) (a_token : Int32) (a_open : Int32) (a_number : Int64) (a_letters : Int32) (a_top : Int32) (a_place : Int32) (a_variabled : Int32) (a_known : Int32) (a_rank : Int32) (a_s_n : Nat) (a_s_f : Nat → Int32) (a_word_n : Nat) (a_word_f : Nat → Int32) : Option (Int32 × Int32 × Int32 × (Nat → Int32)) := if c0 = 33 then ((p_MoReader_letter c0 a_n a_at a_behind a_token a_open a_number a_letters a_top a_place a_variabled a_known a_rank a_word_n a_word_f).bind (fun (a_letters_2, a_word_f_2) => (p_MoReader_take (3 : Int32) (a_at + 1) a_n a_at a_behind a_token a_open a_number a_letters_2 a_top a_place a_variabled a_known a_rank).bind (fun (a_behind_3, a_token_3) => some (a_behind_3, a_token_3, a_letters_2, a_word_f_2)))) else (if c0 = 40 then ((p_MoReader_take (4 : Int32) (a_at + 1) a_n a_at a_behind a_token a_open a_number a_letters a_top a_place a_variabled a_known a_rank).bind (fun (a_behind_4, a_token_4) => some (a_behind_4, a_token_4, a_letters, a_word_f))) else (if c0 = 41 then ((p_MoReader_take (5 : Int32) (a_at + 1) a_n a_at a_behind a_token a_open a_number a_letters a_top a_place a_variabled a_known a_rank).bind (fun (a_behind_5, a_token_5) => some (a_behind_5, a_token_5, a_letters, a_word_f))) else (if c0 = 44 then ((p_MoReader_take (10 : Int32) (a_at + 1) a_n a_at a_behind a_token a_open a_number a_letters a_top a_place a_variabled a_known a_rank).bind (fun (a_behind_6, a_token_6) => some (a_behind_6, a_token_6, a_letters, a_word_f))) else (if c0 = 59 then ((p_MoReader_letter c0 a_n a_at a_behind a_token a_open a_number a_letters a_top a_place a_variabled a_known a_rank a_word_n a_word_f).bind (fun (a_letters_7, a_word_f_7) => (p_MoReader_take (3 : Int32) (a_at + 1) a_n a_at a_behind a_token a_open a_number a_letters_7 a_top a_place a_variabled a_known a_rank).bind (fun (a_behind_8, a_token_8) => some (a_behind_8, a_token_8, a_letters_7, a_word_f_7)))) else (if c0 = 91 then ((p_MoReader_look (a_at + 1) a_n a_at a_behind a_token a_open a_number a_letters a_top a_place a_variabled a_known a_rank a_s_n a_s_f).bind (fun r9 => if r9 = 93 then ((p_MoReader_letter (91 : Int32) a_n a_at a_behind a_token a_open a_number a_letters a_top a_place a_variabled a_known a_rank a_word_n a_word_f).bind (fun (a_letters_12, a_word_f_12) => (p_MoReader_letter (93 : Int32) a_n a_at a_behind a_token a_open a_number a_letters_12 a_top a_place a_variabled a_known a_rank a_word_n a_word_f_12).bind (fun (a_letters_13, a_word_f_13) => (p_MoReader_take (3 : Int32) (a_at + 2) a_n a_at a_behind a_token a_open a_number a_letters_13 a_top a_place a_variabled a_known a_rank).bind (fun (a_behind_14, a_token_14) => some (a_behind_14, a_token_14, a_letters_13, a_word_f_13))))) else ((p_MoReader_take (6 : Int32) (a_at + 1) a_n a_at a_behind a_token a_open a_number a_letters a_top a_place a_variabled a_known a_rank).bind (fun (a_behind_11, a_token_11) => some (a_behind_11, a_token_11, a_letters, a_word_f))))) else (if c0 = 93 then ((p_MoReader_take (7 : Int32) (a_at + 1) a_n a_at a_behind a_token a_open a_number a_letters a_top a_place a_variabled a_known a_rank).bind (fun (a_behind_15, a_token_15) => some (a_behind_15, a_token_15, a_letters, a_word_f))) else (if c0 = 123 then ((p_MoReader_take (8 : Int32) (a_at + 1) a_n a_at a_behind a_token a_open a_number a_letters a_top a_place a_variabled a_known a_rank).bind (fun (a_behind_16, a_token_16) => some (a_behind_16, a_token_16, a_letters, a_word_f))) else (if c0 = 124 then ((p_MoReader_take (11 : Int32) (a_at + 1) a_n a_at a_behind a_token a_open a_number a_letters a_top a_place a_variabled a_known a_rank).bind (fun (a_behind_17, a_token_17) => some (a_behind_17, a_token_17, a_letters, a_word_f))) else (if c0 = 125 then ((p_MoReader_take (9 : Int32) (a_at + 1) a_n a_at a_behind a_token a_open a_number a_letters a_top a_place a_variabled a_known a_rank).bind (fun (a_behind_18, a_token_18) => some (a_behind_18, a_token_18, a_letters, a_word_f))) else ((p_MoReader_take (12 : Int32) (a_at + 1) a_n a_at a_behind a_token a_open a_number a_letters a_top a_place a_variabled a_known a_rank).bind (fun (a_behind_19, a_token_19) => some (a_behind_19, a_token_19, a_letters, a_word_f))))))))))))
set_option maxHeartbeats 40000000 in
set_option maxRecDepth 100000 in
theorem c_MoReader_sign (l : Launch) (g : va_G) (cs : Nat → ClassId) (ka : Nat → Nat) (a_sides : Nat) (a_ranks : Nat) (a_stop : Nat) (a_terms : Nat) (a_names : Nat) (a_stack : Nat) (a_variables : Nat) (a_kept : Nat) (a a_s a_word : Nat) (sz : Nat) (c0 : Int32) (a_n : Int32) (a_at : Int32) (a_behind : Int32) (a_token : Int32) (a_open : Int32) (a_number : Int64) (a_letters : Int32) (a_top : Int32) (a_place : Int32) (a_variabled : Int32) (a_known : Int32) (a_rank : Int32) (a_s_n : Nat) (a_s_f : Nat → Int32) (a_word_n : Nat) (a_word_f : Nat → Int32) (o_a_behind : Int32) (o_a_token : Int32) (o_a_letters : Int32) (o_a_word_f : Nat → Int32) (hok : p_MoReader_sign c0 a_n a_at a_behind a_token a_open a_number a_letters a_top a_place a_variabled a_known a_rank a_s_n a_s_f a_word_n a_word_f = some (o_a_behind, o_a_token, o_a_letters, o_a_word_f)) : Met l y_MoReader_sign (.code y_MoReader_sign b_MoReader_sign 2 none :: GW) { frames := 1, cells := 0, slots := 0, locals := 22 } (va_Pc [.ref a, .int c0] (gP g cs ka [(a, .inr (12, [.ref a_sides, .ref a_ranks, .ref a_stop, .ref a_terms, .ref a_names, .ref a_s, .int a_n, .int a_at, .int a_behind, .int a_token, .int a_open, .long a_number, .ref a_word, .int a_letters, .ref a_stack, .int a_top, .int a_place, .ref a_variables, .int a_variabled, .int a_known, .int a_rank, .ref a_kept])), (a_s, .inl (cs 1, a_s_n, .inl a_s_f)), (a_word, .inl (cs 1, a_word_n, .inl a_word_f))] sz)) (va_Qv (fun _ : Unit => True) (fun _ t => va_P g classes [(a, .inr (12, [.ref a_sides, .ref a_ranks, .ref a_stop, .ref a_terms, .ref a_names, .ref a_s, .int a_n, .int a_at, .int o_a_behind, .int o_a_token, .int a_open, .long a_number, .ref a_word, .int o_a_letters, .ref a_stack, .int a_top, .int a_place, .ref a_variables, .int a_variabled, .int a_known, .int a_rank, .ref a_kept])), (a_s, .inl (cs 1, a_s_n, .inl a_s_f)), (a_word, .inl (cs 1, a_word_n, .inl o_a_word_f))] t.heap ∧ va_D (va_A [(a, .inr (12, [.ref a_sides, .ref a_ranks, .ref a_stop, .ref a_terms, .ref a_names, .ref a_s, .int a_n, .int a_at, .int a_behind, .int a_token, .int a_open, .long a_number, .ref a_word, .int a_letters, .ref a_stack, .int a_top, .int a_place, .ref a_variables, .int a_variabled, .int a_known, .int a_rank, .ref a_kept])), (a_s, .inl (cs 1, a_s_n, .inl a_s_f)), (a_word, .inl (cs 1, a_word_n, .inl a_word_f))] sz) [(a, .inr (12, [.ref a_sides, .ref a_ranks, .ref a_stop, .ref a_terms, .ref a_names, .ref a_s, .int a_n, .int a_at, .int o_a_behind, .int o_a_token, .int a_open, .long a_number, .ref a_word, .int o_a_letters, .ref a_stack, .int a_top, .int a_place, .ref a_variables, .int a_variabled, .int a_known, .int a_rank, .ref a_kept])), (a_s, .inl (cs 1, a_s_n, .inl a_s_f)), (a_word, .inl (cs 1, a_word_n, .inl o_a_word_f))]) (va_A [(a, .inr (12, [.ref a_sides, .ref a_ranks, .ref a_stop, .ref a_terms, .ref a_names, .ref a_s, .int a_n, .int a_at, .int a_behind, .int a_token, .int a_open, .long a_number, .ref a_word, .int a_letters, .ref a_stack, .int a_top, .int a_place, .ref a_variables, .int a_variabled, .int a_known, .int a_rank, .ref a_kept])), (a_s, .inl (cs 1, a_s_n, .inl a_s_f)), (a_word, .inl (cs 1, a_word_n, .inl a_word_f))] sz)) 0 0 (va_A [(a, .inr (12, [.ref a_sides, .ref a_ranks, .ref a_stop, .ref a_terms, .ref a_names, .ref a_s, .int a_n, .int a_at, .int a_behind, .int a_token, .int a_open, .long a_number, .ref a_word, .int a_letters, .ref a_stack, .int a_top, .int a_place, .ref a_variables, .int a_variabled, .int a_known, .int a_rank, .ref a_kept])), (a_s, .inl (cs 1, a_s_n, .inl a_s_f)), (a_word, .inl (cs 1, a_word_n, .inl a_word_f))] sz) := by
  refine Met.ofW (cc := b_MoReader_sign) (maxL := 2) (ret := none) (by decide) rfl ?_
  intro p e s m args below meth c s₁ B hml hv
  obtain ⟨rfl, hsz, hP, hK, hD0, hgl, hkn, hkr⟩ := hv
  have hx := B.exec
  have hb := B.bytes
  have hr := B.returns
  have hg : ∀ w ∈ GW, w.before ([.ref a, .int c0] : List Value).toArray s = true := fun w hw => atoms_spec (ws := .code y_MoReader_sign b_MoReader_sign 2 none :: GW) B.pre w (List.mem_cons_of_mem _ hw)
  have hown : s.vm.findClass R_MoReader = some m.cls := findClass_of_methodNamed B.named
  have hlocks := B.notSynchronized
  subst hsz
  have hD := hD0.self (sz := s.heap.size)
  generalize hAe : va_A [(a, .inr (12, [.ref a_sides, .ref a_ranks, .ref a_stop, .ref a_terms, .ref a_names, .ref a_s, .int a_n, .int a_at, .int a_behind, .int a_token, .int a_open, .long a_number, .ref a_word, .int a_letters, .ref a_stack, .int a_top, .int a_place, .ref a_variables, .int a_variabled, .int a_known, .int a_rank, .ref a_kept])), (a_s, .inl (cs 1, a_s_n, .inl a_s_f)), (a_word, .inl (cs 1, a_word_n, .inl a_word_f))] s.heap.size = A at hD hkn ⊢
  have hA : ∀ q : Nat, s.heap.size ≤ q → A q := fun q h => by rw [← hAe]; exact Or.inr h
  have hS : va_S A s.heap s.heap [] := va_S.rf
  have hP : va_P g classes [(a, .inr (12, [.ref a_sides, .ref a_ranks, .ref a_stop, .ref a_terms, .ref a_names, .ref a_s, .int a_n, .int a_at, .int a_behind, .int a_token, .int a_open, .long a_number, .ref a_word, .int a_letters, .ref a_stack, .int a_top, .int a_place, .ref a_variables, .int a_variabled, .int a_known, .int a_rank, .ref a_kept])), (a_s, .inl (cs 1, a_s_n, .inl a_s_f)), (a_word, .inl (cs 1, a_word_n, .inl a_word_f))] s.heap := hP
  have hl := lv_entry ([.ref a, .int c0]) (n := 2) (Nat.le_of_ble_eq_true rfl)
  rw [lg_entry_eq]
  generalize (lg_sl ([.ref a, .int c0]) ++ List.replicate (2 - (lg_sl ([.ref a, .int c0])).length) Slot.unset).toArray = ls at hl ⊢
  have hl : lv_has ls 2 [(0, .ref a), (1, .int c0)] := hl
  refine gq (fun Q hQ => ?_)
  obtain ⟨H, hH⟩ : ∃ H : Heap, H = s.heap := ⟨_, rfl⟩
  rw [← hH] at hP
  have hS : va_S A s.heap H [] := by rw [hH]; exact hS
  refine W.eqH hH ?_
  obtain ⟨locs, hlc⟩ : ∃ L : List Loc, L = [] := ⟨_, rfl⟩
  rw [← hlc] at hS ⊢
  unfold p_MoReader_sign at hok
  refine lv_iload_n hx hb d_MoReader_sign_0 rfl (lv_at hl 1 rfl) ?_
  by_cases hw1_0 : c0 = 33
  · rw [if_pos hw1_0] at hok
    refine lv_lookup hx hb d_MoReader_sign_1 (by decide) (by first | (rw [hw1_0]; rfl) | rw [hw1_0]) rfl ?_
    refine lv_aload_n hx hb d_MoReader_sign_92 rfl (lv_at hl 0 rfl) ?_
    refine lv_iload_n hx hb d_MoReader_sign_93 rfl (lv_at hl 1 rfl) ?_
    obtain ⟨⟨a_letters_2, a_word_f_2⟩, hc2, hok⟩ := bd_some hok
    dsimp only at hok
    obtain ⟨hPc, hDc, hFc⟩ := cut0 (wc := [(a, .inr (12, [.ref a_sides, .ref a_ranks, .ref a_stop, .ref a_terms, .ref a_names, .ref a_s, .int a_n, .int a_at, .int a_behind, .int a_token, .int a_open, .long a_number, .ref a_word, .int a_letters, .ref a_stack, .int a_top, .int a_place, .ref a_variables, .int a_variabled, .int a_known, .int a_rank, .ref a_kept])), (a_word, .inl (cs 1, a_word_n, .inl a_word_f))]) hP hD hS hA [0, 2] (by decide) rfl
    refine va_callv (va_runV (As := [.int c0]) (rest := []) ⟨hx, hb, hml, hown, hg⟩ (c_MoReader_letter l g cs ka a_sides a_ranks a_stop a_terms a_names a_s a_stack a_variables a_kept a a_word H.size c0 a_n a_at a_behind a_token a_open a_number a_letters a_top a_place a_variabled a_known a_rank a_word_n a_word_f a_letters_2 a_word_f_2 hc2) (cwV (C := R_MoReader) 1 hg (gw_V wd_1198 wd_1199 wd_1200 wd_754 wd_1197) rfl rfl rfl (by decide +kernel) ⟨Nat.le_of_ble_eq_true rfl, Nat.le_of_ble_eq_true rfl⟩) ⟨gP_blind, va_recv (q0 := 0) (ci := 12) (q := (R_MoReader, F_MoReader, 22)) hK hP rfl rfl, gP_pre hPc hDc hK hgl hkn hkr hS hFc⟩ rfl rfl hl.1 rfl (lv_room (Nat.le_of_ble_eq_true rfl)) d_MoReader_sign_94 ⟨Nat.le_of_ble_eq_true rfl, Nat.le_of_ble_eq_true rfl⟩) hS (fun q _ h => hFc q h) hFc (fun u t H locs ht hvm hr2 hB hz1 hk1 hS => ?_)
    rw [ht] at hB
    obtain ⟨hP1, hD1⟩ := hB
    obtain ⟨hP, hD⟩ := jn_A hP hD [0, 2] [1] rfl rfl (by decide) (by decide) hk1 hFc hP1 hD1
    obtain ⟨hP, hD⟩ : PD g A H [(a_s, .inl (cs 1, a_s_n, .inl a_s_f)), (a, .inr (12, [.ref a_sides, .ref a_ranks, .ref a_stop, .ref a_terms, .ref a_names, .ref a_s, .int a_n, .int a_at, .int a_behind, .int a_token, .int a_open, .long a_number, .ref a_word, .int a_letters_2, .ref a_stack, .int a_top, .int a_place, .ref a_variables, .int a_variabled, .int a_known, .int a_rank, .ref a_kept])), (a_word, .inl (cs 1, a_word_n, .inl a_word_f_2))] := ⟨hP, hD⟩
    refine lv_aload_n hx hb d_MoReader_sign_97 rfl (lv_at hl 0 rfl) ?_
    refine lv_iconst (v := 3) hx hb d_MoReader_sign_98 (by decide) ?_
    refine lv_aload_n hx hb d_MoReader_sign_99 rfl (lv_at hl 0 rfl) ?_
    refine va_get (D := g) (ci := 12) (v := .int a_at) (C := R_MoReader) (T := F_MoReader) (N := 22) hx hb hg ul_MoReader hown hK hP 1 rfl rfl 7 (by decide) (hg _ wd_1182) (fun _ h9 => h9) rfl d_MoReader_sign_100 ?_
    refine lv_iconst (v := 1) hx hb d_MoReader_sign_103 (by decide) ?_
    refine lv_iadd hx hb d_MoReader_sign_104 ?_
    obtain ⟨⟨a_behind_3, a_token_3⟩, hc3, hok⟩ := bd_some hok
    dsimp only at hok
    obtain ⟨hPc, hDc, hFc⟩ := cut0 (wc := [(a, .inr (12, [.ref a_sides, .ref a_ranks, .ref a_stop, .ref a_terms, .ref a_names, .ref a_s, .int a_n, .int a_at, .int a_behind, .int a_token, .int a_open, .long a_number, .ref a_word, .int a_letters_2, .ref a_stack, .int a_top, .int a_place, .ref a_variables, .int a_variabled, .int a_known, .int a_rank, .ref a_kept]))]) hP hD hS hA [1] (by decide) rfl
    refine va_callv (va_runV (As := [.int 3, .int (a_at + 1)]) (rest := []) ⟨hx, hb, hml, hown, hg⟩ (c_MoReader_take l g cs ka a_sides a_ranks a_stop a_terms a_names a_s a_word a_stack a_variables a_kept a H.size (3 : Int32) (a_at + 1) a_n a_at a_behind a_token a_open a_number a_letters_2 a_top a_place a_variabled a_known a_rank a_behind_3 a_token_3 hc3) (cwV (C := R_MoReader) 2 hg (gw_V wd_1192 wd_1193 wd_1194 wd_754 wd_1191) rfl rfl rfl (by decide +kernel) ⟨Nat.le_of_ble_eq_true rfl, Nat.le_of_ble_eq_true rfl⟩) ⟨gP_blind, va_recv (q0 := 1) (ci := 12) (q := (R_MoReader, F_MoReader, 22)) hK hP rfl rfl, gP_pre hPc hDc hK hgl hkn hkr hS hFc⟩ rfl rfl hl.1 rfl (lv_room (Nat.le_of_ble_eq_true rfl)) d_MoReader_sign_105 ⟨Nat.le_of_ble_eq_true rfl, Nat.le_of_ble_eq_true rfl⟩) hS (fun q _ h => hFc q h) hFc (fun u t H locs ht hvm hr3 hB hz1 hk1 hS => ?_)
    rw [ht] at hB
    obtain ⟨hP1, hD1⟩ := hB
    obtain ⟨hP, hD⟩ := jn_A hP hD [1] [0, 2] rfl rfl (by decide) (by decide) hk1 hFc hP1 hD1
    obtain ⟨hP, hD⟩ : PD g A H [(a_s, .inl (cs 1, a_s_n, .inl a_s_f)), (a_word, .inl (cs 1, a_word_n, .inl a_word_f_2)), (a, .inr (12, [.ref a_sides, .ref a_ranks, .ref a_stop, .ref a_terms, .ref a_names, .ref a_s, .int a_n, .int a_at, .int a_behind_3, .int a_token_3, .int a_open, .long a_number, .ref a_word, .int a_letters_2, .ref a_stack, .int a_top, .int a_place, .ref a_variables, .int a_variabled, .int a_known, .int a_rank, .ref a_kept]))] := ⟨hP, hD⟩
    refine lv_goto hx hb d_MoReader_sign_108 rfl ?_
    have hq := Option.some.inj hok
    obtain ⟨hq0, hq⟩ := Prod.mk.inj hq
    obtain ⟨hq1, hq⟩ := Prod.mk.inj hq
    obtain ⟨hq2, hq⟩ := Prod.mk.inj hq
    have hq3 := hq
    subst hq0
    subst hq1
    subst hq2
    subst hq3
    obtain ⟨hP9, hD9⟩ := sub2 (ws' := [(a, .inr (12, [.ref a_sides, .ref a_ranks, .ref a_stop, .ref a_terms, .ref a_names, .ref a_s, .int a_n, .int a_at, .int a_behind_3, .int a_token_3, .int a_open, .long a_number, .ref a_word, .int a_letters_2, .ref a_stack, .int a_top, .int a_place, .ref a_variables, .int a_variabled, .int a_known, .int a_rank, .ref a_kept])), (a_s, .inl (cs 1, a_s_n, .inl a_s_f)), (a_word, .inl (cs 1, a_word_n, .inl a_word_f_2))]) hP hD [2, 0, 1] rfl (by decide) rfl
    rw [hQ]
    exact W.vret hx hb hr (fun t ht hW => ⟨⟨(), rfl, trivial, by rw [ht]; exact hP9, hD9⟩, hS.F ht⟩) hS.2.2 d_MoReader_sign_282
  · rw [if_neg hw1_0] at hok
    by_cases hw1_1 : c0 = 40
    · rw [if_pos hw1_1] at hok
      refine lv_lookup hx hb d_MoReader_sign_1 (by decide) (by first | (rw [hw1_1]; rfl) | rw [hw1_1]) rfl ?_
      refine lv_aload_n hx hb d_MoReader_sign_111 rfl (lv_at hl 0 rfl) ?_
      refine lv_iconst (v := 4) hx hb d_MoReader_sign_112 (by decide) ?_
      refine lv_aload_n hx hb d_MoReader_sign_113 rfl (lv_at hl 0 rfl) ?_
      refine va_get (D := g) (ci := 12) (v := .int a_at) (C := R_MoReader) (T := F_MoReader) (N := 22) hx hb hg ul_MoReader hown hK hP 0 rfl rfl 7 (by decide) (hg _ wd_1182) (fun _ h9 => h9) rfl d_MoReader_sign_114 ?_
      refine lv_iconst (v := 1) hx hb d_MoReader_sign_117 (by decide) ?_
      refine lv_iadd hx hb d_MoReader_sign_118 ?_
      obtain ⟨⟨a_behind_4, a_token_4⟩, hc4, hok⟩ := bd_some hok
      dsimp only at hok
      obtain ⟨hPc, hDc, hFc⟩ := cut0 (wc := [(a, .inr (12, [.ref a_sides, .ref a_ranks, .ref a_stop, .ref a_terms, .ref a_names, .ref a_s, .int a_n, .int a_at, .int a_behind, .int a_token, .int a_open, .long a_number, .ref a_word, .int a_letters, .ref a_stack, .int a_top, .int a_place, .ref a_variables, .int a_variabled, .int a_known, .int a_rank, .ref a_kept]))]) hP hD hS hA [0] (by decide) rfl
      refine va_callv (va_runV (As := [.int 4, .int (a_at + 1)]) (rest := []) ⟨hx, hb, hml, hown, hg⟩ (c_MoReader_take l g cs ka a_sides a_ranks a_stop a_terms a_names a_s a_word a_stack a_variables a_kept a H.size (4 : Int32) (a_at + 1) a_n a_at a_behind a_token a_open a_number a_letters a_top a_place a_variabled a_known a_rank a_behind_4 a_token_4 hc4) (cwV (C := R_MoReader) 2 hg (gw_V wd_1192 wd_1193 wd_1194 wd_754 wd_1191) rfl rfl rfl (by decide +kernel) ⟨Nat.le_of_ble_eq_true rfl, Nat.le_of_ble_eq_true rfl⟩) ⟨gP_blind, va_recv (q0 := 0) (ci := 12) (q := (R_MoReader, F_MoReader, 22)) hK hP rfl rfl, gP_pre hPc hDc hK hgl hkn hkr hS hFc⟩ rfl rfl hl.1 rfl (lv_room (Nat.le_of_ble_eq_true rfl)) d_MoReader_sign_119 ⟨Nat.le_of_ble_eq_true rfl, Nat.le_of_ble_eq_true rfl⟩) hS (fun q _ h => hFc q h) hFc (fun u t H locs ht hvm hr4 hB hz1 hk1 hS => ?_)
      rw [ht] at hB
      obtain ⟨hP1, hD1⟩ := hB
      obtain ⟨hP, hD⟩ := jn_A hP hD [0] [1, 2] rfl rfl (by decide) (by decide) hk1 hFc hP1 hD1
      obtain ⟨hP, hD⟩ : PD g A H [(a_s, .inl (cs 1, a_s_n, .inl a_s_f)), (a_word, .inl (cs 1, a_word_n, .inl a_word_f)), (a, .inr (12, [.ref a_sides, .ref a_ranks, .ref a_stop, .ref a_terms, .ref a_names, .ref a_s, .int a_n, .int a_at, .int a_behind_4, .int a_token_4, .int a_open, .long a_number, .ref a_word, .int a_letters, .ref a_stack, .int a_top, .int a_place, .ref a_variables, .int a_variabled, .int a_known, .int a_rank, .ref a_kept]))] := ⟨hP, hD⟩
      refine lv_goto hx hb d_MoReader_sign_122 rfl ?_
      have hq := Option.some.inj hok
      obtain ⟨hq0, hq⟩ := Prod.mk.inj hq
      obtain ⟨hq1, hq⟩ := Prod.mk.inj hq
      obtain ⟨hq2, hq⟩ := Prod.mk.inj hq
      have hq3 := hq
      subst hq0
      subst hq1
      subst hq2
      subst hq3
      obtain ⟨hP9, hD9⟩ := sub2 (ws' := [(a, .inr (12, [.ref a_sides, .ref a_ranks, .ref a_stop, .ref a_terms, .ref a_names, .ref a_s, .int a_n, .int a_at, .int a_behind_4, .int a_token_4, .int a_open, .long a_number, .ref a_word, .int a_letters, .ref a_stack, .int a_top, .int a_place, .ref a_variables, .int a_variabled, .int a_known, .int a_rank, .ref a_kept])), (a_s, .inl (cs 1, a_s_n, .inl a_s_f)), (a_word, .inl (cs 1, a_word_n, .inl a_word_f))]) hP hD [2, 0, 1] rfl (by decide) rfl
      rw [hQ]
      exact W.vret hx hb hr (fun t ht hW => ⟨⟨(), rfl, trivial, by rw [ht]; exact hP9, hD9⟩, hS.F ht⟩) hS.2.2 d_MoReader_sign_282
    · rw [if_neg hw1_1] at hok
      by_cases hw1_2 : c0 = 41
      · rw [if_pos hw1_2] at hok
        refine lv_lookup hx hb d_MoReader_sign_1 (by decide) (by first | (rw [hw1_2]; rfl) | rw [hw1_2]) rfl ?_
        refine lv_aload_n hx hb d_MoReader_sign_125 rfl (lv_at hl 0 rfl) ?_
        refine lv_iconst (v := 5) hx hb d_MoReader_sign_126 (by decide) ?_
        refine lv_aload_n hx hb d_MoReader_sign_127 rfl (lv_at hl 0 rfl) ?_
        refine va_get (D := g) (ci := 12) (v := .int a_at) (C := R_MoReader) (T := F_MoReader) (N := 22) hx hb hg ul_MoReader hown hK hP 0 rfl rfl 7 (by decide) (hg _ wd_1182) (fun _ h9 => h9) rfl d_MoReader_sign_128 ?_
        refine lv_iconst (v := 1) hx hb d_MoReader_sign_131 (by decide) ?_
        refine lv_iadd hx hb d_MoReader_sign_132 ?_
        obtain ⟨⟨a_behind_5, a_token_5⟩, hc5, hok⟩ := bd_some hok
        dsimp only at hok
        obtain ⟨hPc, hDc, hFc⟩ := cut0 (wc := [(a, .inr (12, [.ref a_sides, .ref a_ranks, .ref a_stop, .ref a_terms, .ref a_names, .ref a_s, .int a_n, .int a_at, .int a_behind, .int a_token, .int a_open, .long a_number, .ref a_word, .int a_letters, .ref a_stack, .int a_top, .int a_place, .ref a_variables, .int a_variabled, .int a_known, .int a_rank, .ref a_kept]))]) hP hD hS hA [0] (by decide) rfl
        refine va_callv (va_runV (As := [.int 5, .int (a_at + 1)]) (rest := []) ⟨hx, hb, hml, hown, hg⟩ (c_MoReader_take l g cs ka a_sides a_ranks a_stop a_terms a_names a_s a_word a_stack a_variables a_kept a H.size (5 : Int32) (a_at + 1) a_n a_at a_behind a_token a_open a_number a_letters a_top a_place a_variabled a_known a_rank a_behind_5 a_token_5 hc5) (cwV (C := R_MoReader) 2 hg (gw_V wd_1192 wd_1193 wd_1194 wd_754 wd_1191) rfl rfl rfl (by decide +kernel) ⟨Nat.le_of_ble_eq_true rfl, Nat.le_of_ble_eq_true rfl⟩) ⟨gP_blind, va_recv (q0 := 0) (ci := 12) (q := (R_MoReader, F_MoReader, 22)) hK hP rfl rfl, gP_pre hPc hDc hK hgl hkn hkr hS hFc⟩ rfl rfl hl.1 rfl (lv_room (Nat.le_of_ble_eq_true rfl)) d_MoReader_sign_133 ⟨Nat.le_of_ble_eq_true rfl, Nat.le_of_ble_eq_true rfl⟩) hS (fun q _ h => hFc q h) hFc (fun u t H locs ht hvm hr5 hB hz1 hk1 hS => ?_)
        rw [ht] at hB
        obtain ⟨hP1, hD1⟩ := hB
        obtain ⟨hP, hD⟩ := jn_A hP hD [0] [1, 2] rfl rfl (by decide) (by decide) hk1 hFc hP1 hD1
        obtain ⟨hP, hD⟩ : PD g A H [(a_s, .inl (cs 1, a_s_n, .inl a_s_f)), (a_word, .inl (cs 1, a_word_n, .inl a_word_f)), (a, .inr (12, [.ref a_sides, .ref a_ranks, .ref a_stop, .ref a_terms, .ref a_names, .ref a_s, .int a_n, .int a_at, .int a_behind_5, .int a_token_5, .int a_open, .long a_number, .ref a_word, .int a_letters, .ref a_stack, .int a_top, .int a_place, .ref a_variables, .int a_variabled, .int a_known, .int a_rank, .ref a_kept]))] := ⟨hP, hD⟩
        refine lv_goto hx hb d_MoReader_sign_136 rfl ?_
        have hq := Option.some.inj hok
        obtain ⟨hq0, hq⟩ := Prod.mk.inj hq
        obtain ⟨hq1, hq⟩ := Prod.mk.inj hq
        obtain ⟨hq2, hq⟩ := Prod.mk.inj hq
        have hq3 := hq
        subst hq0
        subst hq1
        subst hq2
        subst hq3
        obtain ⟨hP9, hD9⟩ := sub2 (ws' := [(a, .inr (12, [.ref a_sides, .ref a_ranks, .ref a_stop, .ref a_terms, .ref a_names, .ref a_s, .int a_n, .int a_at, .int a_behind_5, .int a_token_5, .int a_open, .long a_number, .ref a_word, .int a_letters, .ref a_stack, .int a_top, .int a_place, .ref a_variables, .int a_variabled, .int a_known, .int a_rank, .ref a_kept])), (a_s, .inl (cs 1, a_s_n, .inl a_s_f)), (a_word, .inl (cs 1, a_word_n, .inl a_word_f))]) hP hD [2, 0, 1] rfl (by decide) rfl
        rw [hQ]
        exact W.vret hx hb hr (fun t ht hW => ⟨⟨(), rfl, trivial, by rw [ht]; exact hP9, hD9⟩, hS.F ht⟩) hS.2.2 d_MoReader_sign_282
      · rw [if_neg hw1_2] at hok
        by_cases hw1_3 : c0 = 44
        · rw [if_pos hw1_3] at hok
          refine lv_lookup hx hb d_MoReader_sign_1 (by decide) (by first | (rw [hw1_3]; rfl) | rw [hw1_3]) rfl ?_
          refine lv_aload_n hx hb d_MoReader_sign_240 rfl (lv_at hl 0 rfl) ?_
          refine lv_bipush (v := 10) hx hb d_MoReader_sign_241 (by decide) ?_
          refine lv_aload_n hx hb d_MoReader_sign_243 rfl (lv_at hl 0 rfl) ?_
          refine va_get (D := g) (ci := 12) (v := .int a_at) (C := R_MoReader) (T := F_MoReader) (N := 22) hx hb hg ul_MoReader hown hK hP 0 rfl rfl 7 (by decide) (hg _ wd_1182) (fun _ h9 => h9) rfl d_MoReader_sign_244 ?_
          refine lv_iconst (v := 1) hx hb d_MoReader_sign_247 (by decide) ?_
          refine lv_iadd hx hb d_MoReader_sign_248 ?_
          obtain ⟨⟨a_behind_6, a_token_6⟩, hc6, hok⟩ := bd_some hok
          dsimp only at hok
          obtain ⟨hPc, hDc, hFc⟩ := cut0 (wc := [(a, .inr (12, [.ref a_sides, .ref a_ranks, .ref a_stop, .ref a_terms, .ref a_names, .ref a_s, .int a_n, .int a_at, .int a_behind, .int a_token, .int a_open, .long a_number, .ref a_word, .int a_letters, .ref a_stack, .int a_top, .int a_place, .ref a_variables, .int a_variabled, .int a_known, .int a_rank, .ref a_kept]))]) hP hD hS hA [0] (by decide) rfl
          refine va_callv (va_runV (As := [.int 10, .int (a_at + 1)]) (rest := []) ⟨hx, hb, hml, hown, hg⟩ (c_MoReader_take l g cs ka a_sides a_ranks a_stop a_terms a_names a_s a_word a_stack a_variables a_kept a H.size (10 : Int32) (a_at + 1) a_n a_at a_behind a_token a_open a_number a_letters a_top a_place a_variabled a_known a_rank a_behind_6 a_token_6 hc6) (cwV (C := R_MoReader) 2 hg (gw_V wd_1192 wd_1193 wd_1194 wd_754 wd_1191) rfl rfl rfl (by decide +kernel) ⟨Nat.le_of_ble_eq_true rfl, Nat.le_of_ble_eq_true rfl⟩) ⟨gP_blind, va_recv (q0 := 0) (ci := 12) (q := (R_MoReader, F_MoReader, 22)) hK hP rfl rfl, gP_pre hPc hDc hK hgl hkn hkr hS hFc⟩ rfl rfl hl.1 rfl (lv_room (Nat.le_of_ble_eq_true rfl)) d_MoReader_sign_249 ⟨Nat.le_of_ble_eq_true rfl, Nat.le_of_ble_eq_true rfl⟩) hS (fun q _ h => hFc q h) hFc (fun u t H locs ht hvm hr6 hB hz1 hk1 hS => ?_)
          rw [ht] at hB
          obtain ⟨hP1, hD1⟩ := hB
          obtain ⟨hP, hD⟩ := jn_A hP hD [0] [1, 2] rfl rfl (by decide) (by decide) hk1 hFc hP1 hD1
          obtain ⟨hP, hD⟩ : PD g A H [(a_s, .inl (cs 1, a_s_n, .inl a_s_f)), (a_word, .inl (cs 1, a_word_n, .inl a_word_f)), (a, .inr (12, [.ref a_sides, .ref a_ranks, .ref a_stop, .ref a_terms, .ref a_names, .ref a_s, .int a_n, .int a_at, .int a_behind_6, .int a_token_6, .int a_open, .long a_number, .ref a_word, .int a_letters, .ref a_stack, .int a_top, .int a_place, .ref a_variables, .int a_variabled, .int a_known, .int a_rank, .ref a_kept]))] := ⟨hP, hD⟩
          refine lv_goto hx hb d_MoReader_sign_252 rfl ?_
          have hq := Option.some.inj hok
          obtain ⟨hq0, hq⟩ := Prod.mk.inj hq
          obtain ⟨hq1, hq⟩ := Prod.mk.inj hq
          obtain ⟨hq2, hq⟩ := Prod.mk.inj hq
          have hq3 := hq
          subst hq0
          subst hq1
          subst hq2
          subst hq3
          obtain ⟨hP9, hD9⟩ := sub2 (ws' := [(a, .inr (12, [.ref a_sides, .ref a_ranks, .ref a_stop, .ref a_terms, .ref a_names, .ref a_s, .int a_n, .int a_at, .int a_behind_6, .int a_token_6, .int a_open, .long a_number, .ref a_word, .int a_letters, .ref a_stack, .int a_top, .int a_place, .ref a_variables, .int a_variabled, .int a_known, .int a_rank, .ref a_kept])), (a_s, .inl (cs 1, a_s_n, .inl a_s_f)), (a_word, .inl (cs 1, a_word_n, .inl a_word_f))]) hP hD [2, 0, 1] rfl (by decide) rfl
          rw [hQ]
          exact W.vret hx hb hr (fun t ht hW => ⟨⟨(), rfl, trivial, by rw [ht]; exact hP9, hD9⟩, hS.F ht⟩) hS.2.2 d_MoReader_sign_282
        · rw [if_neg hw1_3] at hok
          by_cases hw1_4 : c0 = 59
          · rw [if_pos hw1_4] at hok
            refine lv_lookup hx hb d_MoReader_sign_1 (by decide) (by first | (rw [hw1_4]; rfl) | rw [hw1_4]) rfl ?_
            refine lv_aload_n hx hb d_MoReader_sign_92 rfl (lv_at hl 0 rfl) ?_
            refine lv_iload_n hx hb d_MoReader_sign_93 rfl (lv_at hl 1 rfl) ?_
            obtain ⟨⟨a_letters_7, a_word_f_7⟩, hc7, hok⟩ := bd_some hok
            dsimp only at hok
            obtain ⟨hPc, hDc, hFc⟩ := cut0 (wc := [(a, .inr (12, [.ref a_sides, .ref a_ranks, .ref a_stop, .ref a_terms, .ref a_names, .ref a_s, .int a_n, .int a_at, .int a_behind, .int a_token, .int a_open, .long a_number, .ref a_word, .int a_letters, .ref a_stack, .int a_top, .int a_place, .ref a_variables, .int a_variabled, .int a_known, .int a_rank, .ref a_kept])), (a_word, .inl (cs 1, a_word_n, .inl a_word_f))]) hP hD hS hA [0, 2] (by decide) rfl
            refine va_callv (va_runV (As := [.int c0]) (rest := []) ⟨hx, hb, hml, hown, hg⟩ (c_MoReader_letter l g cs ka a_sides a_ranks a_stop a_terms a_names a_s a_stack a_variables a_kept a a_word H.size c0 a_n a_at a_behind a_token a_open a_number a_letters a_top a_place a_variabled a_known a_rank a_word_n a_word_f a_letters_7 a_word_f_7 hc7) (cwV (C := R_MoReader) 1 hg (gw_V wd_1198 wd_1199 wd_1200 wd_754 wd_1197) rfl rfl rfl (by decide +kernel) ⟨Nat.le_of_ble_eq_true rfl, Nat.le_of_ble_eq_true rfl⟩) ⟨gP_blind, va_recv (q0 := 0) (ci := 12) (q := (R_MoReader, F_MoReader, 22)) hK hP rfl rfl, gP_pre hPc hDc hK hgl hkn hkr hS hFc⟩ rfl rfl hl.1 rfl (lv_room (Nat.le_of_ble_eq_true rfl)) d_MoReader_sign_94 ⟨Nat.le_of_ble_eq_true rfl, Nat.le_of_ble_eq_true rfl⟩) hS (fun q _ h => hFc q h) hFc (fun u t H locs ht hvm hr7 hB hz1 hk1 hS => ?_)
            rw [ht] at hB
            obtain ⟨hP1, hD1⟩ := hB
            obtain ⟨hP, hD⟩ := jn_A hP hD [0, 2] [1] rfl rfl (by decide) (by decide) hk1 hFc hP1 hD1
            obtain ⟨hP, hD⟩ : PD g A H [(a_s, .inl (cs 1, a_s_n, .inl a_s_f)), (a, .inr (12, [.ref a_sides, .ref a_ranks, .ref a_stop, .ref a_terms, .ref a_names, .ref a_s, .int a_n, .int a_at, .int a_behind, .int a_token, .int a_open, .long a_number, .ref a_word, .int a_letters_7, .ref a_stack, .int a_top, .int a_place, .ref a_variables, .int a_variabled, .int a_known, .int a_rank, .ref a_kept])), (a_word, .inl (cs 1, a_word_n, .inl a_word_f_7))] := ⟨hP, hD⟩
            refine lv_aload_n hx hb d_MoReader_sign_97 rfl (lv_at hl 0 rfl) ?_
            refine lv_iconst (v := 3) hx hb d_MoReader_sign_98 (by decide) ?_
            refine lv_aload_n hx hb d_MoReader_sign_99 rfl (lv_at hl 0 rfl) ?_
            refine va_get (D := g) (ci := 12) (v := .int a_at) (C := R_MoReader) (T := F_MoReader) (N := 22) hx hb hg ul_MoReader hown hK hP 1 rfl rfl 7 (by decide) (hg _ wd_1182) (fun _ h9 => h9) rfl d_MoReader_sign_100 ?_
            refine lv_iconst (v := 1) hx hb d_MoReader_sign_103 (by decide) ?_
            refine lv_iadd hx hb d_MoReader_sign_104 ?_
            obtain ⟨⟨a_behind_8, a_token_8⟩, hc8, hok⟩ := bd_some hok
            dsimp only at hok
            obtain ⟨hPc, hDc, hFc⟩ := cut0 (wc := [(a, .inr (12, [.ref a_sides, .ref a_ranks, .ref a_stop, .ref a_terms, .ref a_names, .ref a_s, .int a_n, .int a_at, .int a_behind, .int a_token, .int a_open, .long a_number, .ref a_word, .int a_letters_7, .ref a_stack, .int a_top, .int a_place, .ref a_variables, .int a_variabled, .int a_known, .int a_rank, .ref a_kept]))]) hP hD hS hA [1] (by decide) rfl
            refine va_callv (va_runV (As := [.int 3, .int (a_at + 1)]) (rest := []) ⟨hx, hb, hml, hown, hg⟩ (c_MoReader_take l g cs ka a_sides a_ranks a_stop a_terms a_names a_s a_word a_stack a_variables a_kept a H.size (3 : Int32) (a_at + 1) a_n a_at a_behind a_token a_open a_number a_letters_7 a_top a_place a_variabled a_known a_rank a_behind_8 a_token_8 hc8) (cwV (C := R_MoReader) 2 hg (gw_V wd_1192 wd_1193 wd_1194 wd_754 wd_1191) rfl rfl rfl (by decide +kernel) ⟨Nat.le_of_ble_eq_true rfl, Nat.le_of_ble_eq_true rfl⟩) ⟨gP_blind, va_recv (q0 := 1) (ci := 12) (q := (R_MoReader, F_MoReader, 22)) hK hP rfl rfl, gP_pre hPc hDc hK hgl hkn hkr hS hFc⟩ rfl rfl hl.1 rfl (lv_room (Nat.le_of_ble_eq_true rfl)) d_MoReader_sign_105 ⟨Nat.le_of_ble_eq_true rfl, Nat.le_of_ble_eq_true rfl⟩) hS (fun q _ h => hFc q h) hFc (fun u t H locs ht hvm hr8 hB hz1 hk1 hS => ?_)
            rw [ht] at hB
            obtain ⟨hP1, hD1⟩ := hB
            obtain ⟨hP, hD⟩ := jn_A hP hD [1] [0, 2] rfl rfl (by decide) (by decide) hk1 hFc hP1 hD1
            obtain ⟨hP, hD⟩ : PD g A H [(a_s, .inl (cs 1, a_s_n, .inl a_s_f)), (a_word, .inl (cs 1, a_word_n, .inl a_word_f_7)), (a, .inr (12, [.ref a_sides, .ref a_ranks, .ref a_stop, .ref a_terms, .ref a_names, .ref a_s, .int a_n, .int a_at, .int a_behind_8, .int a_token_8, .int a_open, .long a_number, .ref a_word, .int a_letters_7, .ref a_stack, .int a_top, .int a_place, .ref a_variables, .int a_variabled, .int a_known, .int a_rank, .ref a_kept]))] := ⟨hP, hD⟩
            refine lv_goto hx hb d_MoReader_sign_108 rfl ?_
            have hq := Option.some.inj hok
            obtain ⟨hq0, hq⟩ := Prod.mk.inj hq
            obtain ⟨hq1, hq⟩ := Prod.mk.inj hq
            obtain ⟨hq2, hq⟩ := Prod.mk.inj hq
            have hq3 := hq
            subst hq0
            subst hq1
            subst hq2
            subst hq3
            obtain ⟨hP9, hD9⟩ := sub2 (ws' := [(a, .inr (12, [.ref a_sides, .ref a_ranks, .ref a_stop, .ref a_terms, .ref a_names, .ref a_s, .int a_n, .int a_at, .int a_behind_8, .int a_token_8, .int a_open, .long a_number, .ref a_word, .int a_letters_7, .ref a_stack, .int a_top, .int a_place, .ref a_variables, .int a_variabled, .int a_known, .int a_rank, .ref a_kept])), (a_s, .inl (cs 1, a_s_n, .inl a_s_f)), (a_word, .inl (cs 1, a_word_n, .inl a_word_f_7))]) hP hD [2, 0, 1] rfl (by decide) rfl
            rw [hQ]
            exact W.vret hx hb hr (fun t ht hW => ⟨⟨(), rfl, trivial, by rw [ht]; exact hP9, hD9⟩, hS.F ht⟩) hS.2.2 d_MoReader_sign_282
          · rw [if_neg hw1_4] at hok
            by_cases hw1_5 : c0 = 91
            · rw [if_pos hw1_5] at hok
              refine lv_lookup hx hb d_MoReader_sign_1 (by decide) (by first | (rw [hw1_5]; rfl) | rw [hw1_5]) rfl ?_
              refine lv_aload_n hx hb d_MoReader_sign_139 rfl (lv_at hl 0 rfl) ?_
              refine lv_aload_n hx hb d_MoReader_sign_140 rfl (lv_at hl 0 rfl) ?_
              refine va_get (D := g) (ci := 12) (v := .int a_at) (C := R_MoReader) (T := F_MoReader) (N := 22) hx hb hg ul_MoReader hown hK hP 0 rfl rfl 7 (by decide) (hg _ wd_1182) (fun _ h9 => h9) rfl d_MoReader_sign_141 ?_
              refine lv_iconst (v := 1) hx hb d_MoReader_sign_144 (by decide) ?_
              refine lv_iadd hx hb d_MoReader_sign_145 ?_
              obtain ⟨r9, hc9, hok⟩ := bd_some hok
              obtain ⟨hPc, hDc, hFc⟩ := cut0 (wc := [(a, .inr (12, [.ref a_sides, .ref a_ranks, .ref a_stop, .ref a_terms, .ref a_names, .ref a_s, .int a_n, .int a_at, .int a_behind, .int a_token, .int a_open, .long a_number, .ref a_word, .int a_letters, .ref a_stack, .int a_top, .int a_place, .ref a_variables, .int a_variabled, .int a_known, .int a_rank, .ref a_kept])), (a_s, .inl (cs 1, a_s_n, .inl a_s_f))]) hP hD hS hA [0, 1] (by decide) rfl
              refine va_calli (va_runV (As := [.int (a_at + 1)]) (rest := []) ⟨hx, hb, hml, hown, hg⟩ (c_MoReader_look l g cs ka a_sides a_ranks a_stop a_terms a_names a_word a_stack a_variables a_kept a a_s H.size (a_at + 1) a_n a_at a_behind a_token a_open a_number a_letters a_top a_place a_variabled a_known a_rank a_s_n a_s_f r9 hc9) (cwV (C := R_MoReader) 1 hg (gw_V wd_1184 wd_1185 wd_1186 wd_754 wd_1183) rfl rfl rfl (by decide +kernel) ⟨Nat.le_of_ble_eq_true rfl, Nat.le_of_ble_eq_true rfl⟩) ⟨gP_blind, va_recv (q0 := 0) (ci := 12) (q := (R_MoReader, F_MoReader, 22)) hK hP rfl rfl, gP_pre hPc hDc hK hgl hkn hkr hS hFc⟩ rfl rfl hl.1 rfl (lv_room (Nat.le_of_ble_eq_true rfl)) d_MoReader_sign_146 ⟨Nat.le_of_ble_eq_true rfl, Nat.le_of_ble_eq_true rfl⟩) hS (fun q _ h => hFc q h) hFc (fun r9' u t H locs ht hvm hr9 hB hz1 hk1 hS => ?_)
              subst hr9
              rw [ht] at hB
              obtain ⟨hP1, hD1⟩ := hB
              obtain ⟨hP, hD⟩ := jn_A hP hD [0, 1] [2] rfl rfl (by decide) (by decide) hk1 hFc hP1 hD1
              obtain ⟨hP, hD⟩ : PD g A H [(a_word, .inl (cs 1, a_word_n, .inl a_word_f)), (a, .inr (12, [.ref a_sides, .ref a_ranks, .ref a_stop, .ref a_terms, .ref a_names, .ref a_s, .int a_n, .int a_at, .int a_behind, .int a_token, .int a_open, .long a_number, .ref a_word, .int a_letters, .ref a_stack, .int a_top, .int a_place, .ref a_variables, .int a_variabled, .int a_known, .int a_rank, .ref a_kept])), (a_s, .inl (cs 1, a_s_n, .inl a_s_f))] := ⟨hP, hD⟩
              refine lv_bipush (v := 93) hx hb d_MoReader_sign_149 (by decide) ?_
              refine lv_icmp_ne hx hb d_MoReader_sign_151 rfl (fun h10 => ?_) (fun h10 => ?_)
              · rw [if_neg h10] at hok
                refine lv_aload_n hx hb d_MoReader_sign_180 rfl (lv_at hl 0 rfl) ?_
                refine lv_bipush (v := 6) hx hb d_MoReader_sign_181 (by decide) ?_
                refine lv_aload_n hx hb d_MoReader_sign_183 rfl (lv_at hl 0 rfl) ?_
                refine va_get (D := g) (ci := 12) (v := .int a_at) (C := R_MoReader) (T := F_MoReader) (N := 22) hx hb hg ul_MoReader hown hK hP 1 rfl rfl 7 (by decide) (hg _ wd_1182) (fun _ h9 => h9) rfl d_MoReader_sign_184 ?_
                refine lv_iconst (v := 1) hx hb d_MoReader_sign_187 (by decide) ?_
                refine lv_iadd hx hb d_MoReader_sign_188 ?_
                obtain ⟨⟨a_behind_11, a_token_11⟩, hc11, hok⟩ := bd_some hok
                dsimp only at hok
                obtain ⟨hPc, hDc, hFc⟩ := cut0 (wc := [(a, .inr (12, [.ref a_sides, .ref a_ranks, .ref a_stop, .ref a_terms, .ref a_names, .ref a_s, .int a_n, .int a_at, .int a_behind, .int a_token, .int a_open, .long a_number, .ref a_word, .int a_letters, .ref a_stack, .int a_top, .int a_place, .ref a_variables, .int a_variabled, .int a_known, .int a_rank, .ref a_kept]))]) hP hD hS hA [1] (by decide) rfl
                refine va_callv (va_runV (As := [.int 6, .int (a_at + 1)]) (rest := []) ⟨hx, hb, hml, hown, hg⟩ (c_MoReader_take l g cs ka a_sides a_ranks a_stop a_terms a_names a_s a_word a_stack a_variables a_kept a H.size (6 : Int32) (a_at + 1) a_n a_at a_behind a_token a_open a_number a_letters a_top a_place a_variabled a_known a_rank a_behind_11 a_token_11 hc11) (cwV (C := R_MoReader) 2 hg (gw_V wd_1192 wd_1193 wd_1194 wd_754 wd_1191) rfl rfl rfl (by decide +kernel) ⟨Nat.le_of_ble_eq_true rfl, Nat.le_of_ble_eq_true rfl⟩) ⟨gP_blind, va_recv (q0 := 1) (ci := 12) (q := (R_MoReader, F_MoReader, 22)) hK hP rfl rfl, gP_pre hPc hDc hK hgl hkn hkr hS hFc⟩ rfl rfl hl.1 rfl (lv_room (Nat.le_of_ble_eq_true rfl)) d_MoReader_sign_189 ⟨Nat.le_of_ble_eq_true rfl, Nat.le_of_ble_eq_true rfl⟩) hS (fun q _ h => hFc q h) hFc (fun u t H locs ht hvm hr11 hB hz1 hk1 hS => ?_)
                rw [ht] at hB
                obtain ⟨hP1, hD1⟩ := hB
                obtain ⟨hP, hD⟩ := jn_A hP hD [1] [0, 2] rfl rfl (by decide) (by decide) hk1 hFc hP1 hD1
                obtain ⟨hP, hD⟩ : PD g A H [(a_word, .inl (cs 1, a_word_n, .inl a_word_f)), (a_s, .inl (cs 1, a_s_n, .inl a_s_f)), (a, .inr (12, [.ref a_sides, .ref a_ranks, .ref a_stop, .ref a_terms, .ref a_names, .ref a_s, .int a_n, .int a_at, .int a_behind_11, .int a_token_11, .int a_open, .long a_number, .ref a_word, .int a_letters, .ref a_stack, .int a_top, .int a_place, .ref a_variables, .int a_variabled, .int a_known, .int a_rank, .ref a_kept]))] := ⟨hP, hD⟩
                refine lv_goto hx hb d_MoReader_sign_192 rfl ?_
                have hq := Option.some.inj hok
                obtain ⟨hq0, hq⟩ := Prod.mk.inj hq
                obtain ⟨hq1, hq⟩ := Prod.mk.inj hq
                obtain ⟨hq2, hq⟩ := Prod.mk.inj hq
                have hq3 := hq
                subst hq0
                subst hq1
                subst hq2
                subst hq3
                obtain ⟨hP9, hD9⟩ := sub2 (ws' := [(a, .inr (12, [.ref a_sides, .ref a_ranks, .ref a_stop, .ref a_terms, .ref a_names, .ref a_s, .int a_n, .int a_at, .int a_behind_11, .int a_token_11, .int a_open, .long a_number, .ref a_word, .int a_letters, .ref a_stack, .int a_top, .int a_place, .ref a_variables, .int a_variabled, .int a_known, .int a_rank, .ref a_kept])), (a_s, .inl (cs 1, a_s_n, .inl a_s_f)), (a_word, .inl (cs 1, a_word_n, .inl a_word_f))]) hP hD [2, 1, 0] rfl (by decide) rfl
                rw [hQ]
                exact W.vret hx hb hr (fun t ht hW => ⟨⟨(), rfl, trivial, by rw [ht]; exact hP9, hD9⟩, hS.F ht⟩) hS.2.2 d_MoReader_sign_282
              · rw [if_pos h10] at hok
                refine lv_aload_n hx hb d_MoReader_sign_154 rfl (lv_at hl 0 rfl) ?_
                refine lv_bipush (v := 91) hx hb d_MoReader_sign_155 (by decide) ?_
                obtain ⟨⟨a_letters_12, a_word_f_12⟩, hc12, hok⟩ := bd_some hok
                dsimp only at hok
                obtain ⟨hPc, hDc, hFc⟩ := cut0 (wc := [(a, .inr (12, [.ref a_sides, .ref a_ranks, .ref a_stop, .ref a_terms, .ref a_names, .ref a_s, .int a_n, .int a_at, .int a_behind, .int a_token, .int a_open, .long a_number, .ref a_word, .int a_letters, .ref a_stack, .int a_top, .int a_place, .ref a_variables, .int a_variabled, .int a_known, .int a_rank, .ref a_kept])), (a_word, .inl (cs 1, a_word_n, .inl a_word_f))]) hP hD hS hA [1, 0] (by decide) rfl
                refine va_callv (va_runV (As := [.int 91]) (rest := []) ⟨hx, hb, hml, hown, hg⟩ (c_MoReader_letter l g cs ka a_sides a_ranks a_stop a_terms a_names a_s a_stack a_variables a_kept a a_word H.size (91 : Int32) a_n a_at a_behind a_token a_open a_number a_letters a_top a_place a_variabled a_known a_rank a_word_n a_word_f a_letters_12 a_word_f_12 hc12) (cwV (C := R_MoReader) 1 hg (gw_V wd_1198 wd_1199 wd_1200 wd_754 wd_1197) rfl rfl rfl (by decide +kernel) ⟨Nat.le_of_ble_eq_true rfl, Nat.le_of_ble_eq_true rfl⟩) ⟨gP_blind, va_recv (q0 := 1) (ci := 12) (q := (R_MoReader, F_MoReader, 22)) hK hP rfl rfl, gP_pre hPc hDc hK hgl hkn hkr hS hFc⟩ rfl rfl hl.1 rfl (lv_room (Nat.le_of_ble_eq_true rfl)) d_MoReader_sign_157 ⟨Nat.le_of_ble_eq_true rfl, Nat.le_of_ble_eq_true rfl⟩) hS (fun q _ h => hFc q h) hFc (fun u t H locs ht hvm hr12 hB hz1 hk1 hS => ?_)
                rw [ht] at hB
                obtain ⟨hP1, hD1⟩ := hB
                obtain ⟨hP, hD⟩ := jn_A hP hD [1, 0] [2] rfl rfl (by decide) (by decide) hk1 hFc hP1 hD1
                obtain ⟨hP, hD⟩ : PD g A H [(a_s, .inl (cs 1, a_s_n, .inl a_s_f)), (a, .inr (12, [.ref a_sides, .ref a_ranks, .ref a_stop, .ref a_terms, .ref a_names, .ref a_s, .int a_n, .int a_at, .int a_behind, .int a_token, .int a_open, .long a_number, .ref a_word, .int a_letters_12, .ref a_stack, .int a_top, .int a_place, .ref a_variables, .int a_variabled, .int a_known, .int a_rank, .ref a_kept])), (a_word, .inl (cs 1, a_word_n, .inl a_word_f_12))] := ⟨hP, hD⟩
                refine lv_aload_n hx hb d_MoReader_sign_160 rfl (lv_at hl 0 rfl) ?_
                refine lv_bipush (v := 93) hx hb d_MoReader_sign_161 (by decide) ?_
                obtain ⟨⟨a_letters_13, a_word_f_13⟩, hc13, hok⟩ := bd_some hok
                dsimp only at hok
                obtain ⟨hPc, hDc, hFc⟩ := cut0 (wc := [(a, .inr (12, [.ref a_sides, .ref a_ranks, .ref a_stop, .ref a_terms, .ref a_names, .ref a_s, .int a_n, .int a_at, .int a_behind, .int a_token, .int a_open, .long a_number, .ref a_word, .int a_letters_12, .ref a_stack, .int a_top, .int a_place, .ref a_variables, .int a_variabled, .int a_known, .int a_rank, .ref a_kept])), (a_word, .inl (cs 1, a_word_n, .inl a_word_f_12))]) hP hD hS hA [1, 2] (by decide) rfl
                refine va_callv (va_runV (As := [.int 93]) (rest := []) ⟨hx, hb, hml, hown, hg⟩ (c_MoReader_letter l g cs ka a_sides a_ranks a_stop a_terms a_names a_s a_stack a_variables a_kept a a_word H.size (93 : Int32) a_n a_at a_behind a_token a_open a_number a_letters_12 a_top a_place a_variabled a_known a_rank a_word_n a_word_f_12 a_letters_13 a_word_f_13 hc13) (cwV (C := R_MoReader) 1 hg (gw_V wd_1198 wd_1199 wd_1200 wd_754 wd_1197) rfl rfl rfl (by decide +kernel) ⟨Nat.le_of_ble_eq_true rfl, Nat.le_of_ble_eq_true rfl⟩) ⟨gP_blind, va_recv (q0 := 1) (ci := 12) (q := (R_MoReader, F_MoReader, 22)) hK hP rfl rfl, gP_pre hPc hDc hK hgl hkn hkr hS hFc⟩ rfl rfl hl.1 rfl (lv_room (Nat.le_of_ble_eq_true rfl)) d_MoReader_sign_163 ⟨Nat.le_of_ble_eq_true rfl, Nat.le_of_ble_eq_true rfl⟩) hS (fun q _ h => hFc q h) hFc (fun u t H locs ht hvm hr13 hB hz1 hk1 hS => ?_)
                rw [ht] at hB
                obtain ⟨hP1, hD1⟩ := hB
                obtain ⟨hP, hD⟩ := jn_A hP hD [1, 2] [0] rfl rfl (by decide) (by decide) hk1 hFc hP1 hD1
                obtain ⟨hP, hD⟩ : PD g A H [(a_s, .inl (cs 1, a_s_n, .inl a_s_f)), (a, .inr (12, [.ref a_sides, .ref a_ranks, .ref a_stop, .ref a_terms, .ref a_names, .ref a_s, .int a_n, .int a_at, .int a_behind, .int a_token, .int a_open, .long a_number, .ref a_word, .int a_letters_13, .ref a_stack, .int a_top, .int a_place, .ref a_variables, .int a_variabled, .int a_known, .int a_rank, .ref a_kept])), (a_word, .inl (cs 1, a_word_n, .inl a_word_f_13))] := ⟨hP, hD⟩
                refine lv_aload_n hx hb d_MoReader_sign_166 rfl (lv_at hl 0 rfl) ?_
                refine lv_iconst (v := 3) hx hb d_MoReader_sign_167 (by decide) ?_
                refine lv_aload_n hx hb d_MoReader_sign_168 rfl (lv_at hl 0 rfl) ?_
                refine va_get (D := g) (ci := 12) (v := .int a_at) (C := R_MoReader) (T := F_MoReader) (N := 22) hx hb hg ul_MoReader hown hK hP 1 rfl rfl 7 (by decide) (hg _ wd_1182) (fun _ h9 => h9) rfl d_MoReader_sign_169 ?_
                refine lv_iconst (v := 2) hx hb d_MoReader_sign_172 (by decide) ?_
                refine lv_iadd hx hb d_MoReader_sign_173 ?_
                obtain ⟨⟨a_behind_14, a_token_14⟩, hc14, hok⟩ := bd_some hok
                dsimp only at hok
                obtain ⟨hPc, hDc, hFc⟩ := cut0 (wc := [(a, .inr (12, [.ref a_sides, .ref a_ranks, .ref a_stop, .ref a_terms, .ref a_names, .ref a_s, .int a_n, .int a_at, .int a_behind, .int a_token, .int a_open, .long a_number, .ref a_word, .int a_letters_13, .ref a_stack, .int a_top, .int a_place, .ref a_variables, .int a_variabled, .int a_known, .int a_rank, .ref a_kept]))]) hP hD hS hA [1] (by decide) rfl
                refine va_callv (va_runV (As := [.int 3, .int (a_at + 2)]) (rest := []) ⟨hx, hb, hml, hown, hg⟩ (c_MoReader_take l g cs ka a_sides a_ranks a_stop a_terms a_names a_s a_word a_stack a_variables a_kept a H.size (3 : Int32) (a_at + 2) a_n a_at a_behind a_token a_open a_number a_letters_13 a_top a_place a_variabled a_known a_rank a_behind_14 a_token_14 hc14) (cwV (C := R_MoReader) 2 hg (gw_V wd_1192 wd_1193 wd_1194 wd_754 wd_1191) rfl rfl rfl (by decide +kernel) ⟨Nat.le_of_ble_eq_true rfl, Nat.le_of_ble_eq_true rfl⟩) ⟨gP_blind, va_recv (q0 := 1) (ci := 12) (q := (R_MoReader, F_MoReader, 22)) hK hP rfl rfl, gP_pre hPc hDc hK hgl hkn hkr hS hFc⟩ rfl rfl hl.1 rfl (lv_room (Nat.le_of_ble_eq_true rfl)) d_MoReader_sign_174 ⟨Nat.le_of_ble_eq_true rfl, Nat.le_of_ble_eq_true rfl⟩) hS (fun q _ h => hFc q h) hFc (fun u t H locs ht hvm hr14 hB hz1 hk1 hS => ?_)
                rw [ht] at hB
                obtain ⟨hP1, hD1⟩ := hB
                obtain ⟨hP, hD⟩ := jn_A hP hD [1] [0, 2] rfl rfl (by decide) (by decide) hk1 hFc hP1 hD1
                obtain ⟨hP, hD⟩ : PD g A H [(a_s, .inl (cs 1, a_s_n, .inl a_s_f)), (a_word, .inl (cs 1, a_word_n, .inl a_word_f_13)), (a, .inr (12, [.ref a_sides, .ref a_ranks, .ref a_stop, .ref a_terms, .ref a_names, .ref a_s, .int a_n, .int a_at, .int a_behind_14, .int a_token_14, .int a_open, .long a_number, .ref a_word, .int a_letters_13, .ref a_stack, .int a_top, .int a_place, .ref a_variables, .int a_variabled, .int a_known, .int a_rank, .ref a_kept]))] := ⟨hP, hD⟩
                refine lv_goto hx hb d_MoReader_sign_177 rfl ?_
                have hq := Option.some.inj hok
                obtain ⟨hq0, hq⟩ := Prod.mk.inj hq
                obtain ⟨hq1, hq⟩ := Prod.mk.inj hq
                obtain ⟨hq2, hq⟩ := Prod.mk.inj hq
                have hq3 := hq
                subst hq0
                subst hq1
                subst hq2
                subst hq3
                obtain ⟨hP9, hD9⟩ := sub2 (ws' := [(a, .inr (12, [.ref a_sides, .ref a_ranks, .ref a_stop, .ref a_terms, .ref a_names, .ref a_s, .int a_n, .int a_at, .int a_behind_14, .int a_token_14, .int a_open, .long a_number, .ref a_word, .int a_letters_13, .ref a_stack, .int a_top, .int a_place, .ref a_variables, .int a_variabled, .int a_known, .int a_rank, .ref a_kept])), (a_s, .inl (cs 1, a_s_n, .inl a_s_f)), (a_word, .inl (cs 1, a_word_n, .inl a_word_f_13))]) hP hD [2, 0, 1] rfl (by decide) rfl
                rw [hQ]
                exact W.vret hx hb hr (fun t ht hW => ⟨⟨(), rfl, trivial, by rw [ht]; exact hP9, hD9⟩, hS.F ht⟩) hS.2.2 d_MoReader_sign_282
            · rw [if_neg hw1_5] at hok
              by_cases hw1_6 : c0 = 93
              · rw [if_pos hw1_6] at hok
                refine lv_lookup hx hb d_MoReader_sign_1 (by decide) (by first | (rw [hw1_6]; rfl) | rw [hw1_6]) rfl ?_
                refine lv_aload_n hx hb d_MoReader_sign_195 rfl (lv_at hl 0 rfl) ?_
                refine lv_bipush (v := 7) hx hb d_MoReader_sign_196 (by decide) ?_
                refine lv_aload_n hx hb d_MoReader_sign_198 rfl (lv_at hl 0 rfl) ?_
                refine va_get (D := g) (ci := 12) (v := .int a_at) (C := R_MoReader) (T := F_MoReader) (N := 22) hx hb hg ul_MoReader hown hK hP 0 rfl rfl 7 (by decide) (hg _ wd_1182) (fun _ h9 => h9) rfl d_MoReader_sign_199 ?_
                refine lv_iconst (v := 1) hx hb d_MoReader_sign_202 (by decide) ?_
                refine lv_iadd hx hb d_MoReader_sign_203 ?_
                obtain ⟨⟨a_behind_15, a_token_15⟩, hc15, hok⟩ := bd_some hok
                dsimp only at hok
                obtain ⟨hPc, hDc, hFc⟩ := cut0 (wc := [(a, .inr (12, [.ref a_sides, .ref a_ranks, .ref a_stop, .ref a_terms, .ref a_names, .ref a_s, .int a_n, .int a_at, .int a_behind, .int a_token, .int a_open, .long a_number, .ref a_word, .int a_letters, .ref a_stack, .int a_top, .int a_place, .ref a_variables, .int a_variabled, .int a_known, .int a_rank, .ref a_kept]))]) hP hD hS hA [0] (by decide) rfl
                refine va_callv (va_runV (As := [.int 7, .int (a_at + 1)]) (rest := []) ⟨hx, hb, hml, hown, hg⟩ (c_MoReader_take l g cs ka a_sides a_ranks a_stop a_terms a_names a_s a_word a_stack a_variables a_kept a H.size (7 : Int32) (a_at + 1) a_n a_at a_behind a_token a_open a_number a_letters a_top a_place a_variabled a_known a_rank a_behind_15 a_token_15 hc15) (cwV (C := R_MoReader) 2 hg (gw_V wd_1192 wd_1193 wd_1194 wd_754 wd_1191) rfl rfl rfl (by decide +kernel) ⟨Nat.le_of_ble_eq_true rfl, Nat.le_of_ble_eq_true rfl⟩) ⟨gP_blind, va_recv (q0 := 0) (ci := 12) (q := (R_MoReader, F_MoReader, 22)) hK hP rfl rfl, gP_pre hPc hDc hK hgl hkn hkr hS hFc⟩ rfl rfl hl.1 rfl (lv_room (Nat.le_of_ble_eq_true rfl)) d_MoReader_sign_204 ⟨Nat.le_of_ble_eq_true rfl, Nat.le_of_ble_eq_true rfl⟩) hS (fun q _ h => hFc q h) hFc (fun u t H locs ht hvm hr15 hB hz1 hk1 hS => ?_)
                rw [ht] at hB
                obtain ⟨hP1, hD1⟩ := hB
                obtain ⟨hP, hD⟩ := jn_A hP hD [0] [1, 2] rfl rfl (by decide) (by decide) hk1 hFc hP1 hD1
                obtain ⟨hP, hD⟩ : PD g A H [(a_s, .inl (cs 1, a_s_n, .inl a_s_f)), (a_word, .inl (cs 1, a_word_n, .inl a_word_f)), (a, .inr (12, [.ref a_sides, .ref a_ranks, .ref a_stop, .ref a_terms, .ref a_names, .ref a_s, .int a_n, .int a_at, .int a_behind_15, .int a_token_15, .int a_open, .long a_number, .ref a_word, .int a_letters, .ref a_stack, .int a_top, .int a_place, .ref a_variables, .int a_variabled, .int a_known, .int a_rank, .ref a_kept]))] := ⟨hP, hD⟩
                refine lv_goto hx hb d_MoReader_sign_207 rfl ?_
                have hq := Option.some.inj hok
                obtain ⟨hq0, hq⟩ := Prod.mk.inj hq
                obtain ⟨hq1, hq⟩ := Prod.mk.inj hq
                obtain ⟨hq2, hq⟩ := Prod.mk.inj hq
                have hq3 := hq
                subst hq0
                subst hq1
                subst hq2
                subst hq3
                obtain ⟨hP9, hD9⟩ := sub2 (ws' := [(a, .inr (12, [.ref a_sides, .ref a_ranks, .ref a_stop, .ref a_terms, .ref a_names, .ref a_s, .int a_n, .int a_at, .int a_behind_15, .int a_token_15, .int a_open, .long a_number, .ref a_word, .int a_letters, .ref a_stack, .int a_top, .int a_place, .ref a_variables, .int a_variabled, .int a_known, .int a_rank, .ref a_kept])), (a_s, .inl (cs 1, a_s_n, .inl a_s_f)), (a_word, .inl (cs 1, a_word_n, .inl a_word_f))]) hP hD [2, 0, 1] rfl (by decide) rfl
                rw [hQ]
                exact W.vret hx hb hr (fun t ht hW => ⟨⟨(), rfl, trivial, by rw [ht]; exact hP9, hD9⟩, hS.F ht⟩) hS.2.2 d_MoReader_sign_282
              · rw [if_neg hw1_6] at hok
                by_cases hw1_7 : c0 = 123
                · rw [if_pos hw1_7] at hok
                  refine lv_lookup hx hb d_MoReader_sign_1 (by decide) (by first | (rw [hw1_7]; rfl) | rw [hw1_7]) rfl ?_
                  refine lv_aload_n hx hb d_MoReader_sign_210 rfl (lv_at hl 0 rfl) ?_
                  refine lv_bipush (v := 8) hx hb d_MoReader_sign_211 (by decide) ?_
                  refine lv_aload_n hx hb d_MoReader_sign_213 rfl (lv_at hl 0 rfl) ?_
                  refine va_get (D := g) (ci := 12) (v := .int a_at) (C := R_MoReader) (T := F_MoReader) (N := 22) hx hb hg ul_MoReader hown hK hP 0 rfl rfl 7 (by decide) (hg _ wd_1182) (fun _ h9 => h9) rfl d_MoReader_sign_214 ?_
                  refine lv_iconst (v := 1) hx hb d_MoReader_sign_217 (by decide) ?_
                  refine lv_iadd hx hb d_MoReader_sign_218 ?_
                  obtain ⟨⟨a_behind_16, a_token_16⟩, hc16, hok⟩ := bd_some hok
                  dsimp only at hok
                  obtain ⟨hPc, hDc, hFc⟩ := cut0 (wc := [(a, .inr (12, [.ref a_sides, .ref a_ranks, .ref a_stop, .ref a_terms, .ref a_names, .ref a_s, .int a_n, .int a_at, .int a_behind, .int a_token, .int a_open, .long a_number, .ref a_word, .int a_letters, .ref a_stack, .int a_top, .int a_place, .ref a_variables, .int a_variabled, .int a_known, .int a_rank, .ref a_kept]))]) hP hD hS hA [0] (by decide) rfl
                  refine va_callv (va_runV (As := [.int 8, .int (a_at + 1)]) (rest := []) ⟨hx, hb, hml, hown, hg⟩ (c_MoReader_take l g cs ka a_sides a_ranks a_stop a_terms a_names a_s a_word a_stack a_variables a_kept a H.size (8 : Int32) (a_at + 1) a_n a_at a_behind a_token a_open a_number a_letters a_top a_place a_variabled a_known a_rank a_behind_16 a_token_16 hc16) (cwV (C := R_MoReader) 2 hg (gw_V wd_1192 wd_1193 wd_1194 wd_754 wd_1191) rfl rfl rfl (by decide +kernel) ⟨Nat.le_of_ble_eq_true rfl, Nat.le_of_ble_eq_true rfl⟩) ⟨gP_blind, va_recv (q0 := 0) (ci := 12) (q := (R_MoReader, F_MoReader, 22)) hK hP rfl rfl, gP_pre hPc hDc hK hgl hkn hkr hS hFc⟩ rfl rfl hl.1 rfl (lv_room (Nat.le_of_ble_eq_true rfl)) d_MoReader_sign_219 ⟨Nat.le_of_ble_eq_true rfl, Nat.le_of_ble_eq_true rfl⟩) hS (fun q _ h => hFc q h) hFc (fun u t H locs ht hvm hr16 hB hz1 hk1 hS => ?_)
                  rw [ht] at hB
                  obtain ⟨hP1, hD1⟩ := hB
                  obtain ⟨hP, hD⟩ := jn_A hP hD [0] [1, 2] rfl rfl (by decide) (by decide) hk1 hFc hP1 hD1
                  obtain ⟨hP, hD⟩ : PD g A H [(a_s, .inl (cs 1, a_s_n, .inl a_s_f)), (a_word, .inl (cs 1, a_word_n, .inl a_word_f)), (a, .inr (12, [.ref a_sides, .ref a_ranks, .ref a_stop, .ref a_terms, .ref a_names, .ref a_s, .int a_n, .int a_at, .int a_behind_16, .int a_token_16, .int a_open, .long a_number, .ref a_word, .int a_letters, .ref a_stack, .int a_top, .int a_place, .ref a_variables, .int a_variabled, .int a_known, .int a_rank, .ref a_kept]))] := ⟨hP, hD⟩
                  refine lv_goto hx hb d_MoReader_sign_222 rfl ?_
                  have hq := Option.some.inj hok
                  obtain ⟨hq0, hq⟩ := Prod.mk.inj hq
                  obtain ⟨hq1, hq⟩ := Prod.mk.inj hq
                  obtain ⟨hq2, hq⟩ := Prod.mk.inj hq
                  have hq3 := hq
                  subst hq0
                  subst hq1
                  subst hq2
                  subst hq3
                  obtain ⟨hP9, hD9⟩ := sub2 (ws' := [(a, .inr (12, [.ref a_sides, .ref a_ranks, .ref a_stop, .ref a_terms, .ref a_names, .ref a_s, .int a_n, .int a_at, .int a_behind_16, .int a_token_16, .int a_open, .long a_number, .ref a_word, .int a_letters, .ref a_stack, .int a_top, .int a_place, .ref a_variables, .int a_variabled, .int a_known, .int a_rank, .ref a_kept])), (a_s, .inl (cs 1, a_s_n, .inl a_s_f)), (a_word, .inl (cs 1, a_word_n, .inl a_word_f))]) hP hD [2, 0, 1] rfl (by decide) rfl
                  rw [hQ]
                  exact W.vret hx hb hr (fun t ht hW => ⟨⟨(), rfl, trivial, by rw [ht]; exact hP9, hD9⟩, hS.F ht⟩) hS.2.2 d_MoReader_sign_282
                · rw [if_neg hw1_7] at hok
                  by_cases hw1_8 : c0 = 124
                  · rw [if_pos hw1_8] at hok
                    refine lv_lookup hx hb d_MoReader_sign_1 (by decide) (by first | (rw [hw1_8]; rfl) | rw [hw1_8]) rfl ?_
                    refine lv_aload_n hx hb d_MoReader_sign_255 rfl (lv_at hl 0 rfl) ?_
                    refine lv_bipush (v := 11) hx hb d_MoReader_sign_256 (by decide) ?_
                    refine lv_aload_n hx hb d_MoReader_sign_258 rfl (lv_at hl 0 rfl) ?_
                    refine va_get (D := g) (ci := 12) (v := .int a_at) (C := R_MoReader) (T := F_MoReader) (N := 22) hx hb hg ul_MoReader hown hK hP 0 rfl rfl 7 (by decide) (hg _ wd_1182) (fun _ h9 => h9) rfl d_MoReader_sign_259 ?_
                    refine lv_iconst (v := 1) hx hb d_MoReader_sign_262 (by decide) ?_
                    refine lv_iadd hx hb d_MoReader_sign_263 ?_
                    obtain ⟨⟨a_behind_17, a_token_17⟩, hc17, hok⟩ := bd_some hok
                    dsimp only at hok
                    obtain ⟨hPc, hDc, hFc⟩ := cut0 (wc := [(a, .inr (12, [.ref a_sides, .ref a_ranks, .ref a_stop, .ref a_terms, .ref a_names, .ref a_s, .int a_n, .int a_at, .int a_behind, .int a_token, .int a_open, .long a_number, .ref a_word, .int a_letters, .ref a_stack, .int a_top, .int a_place, .ref a_variables, .int a_variabled, .int a_known, .int a_rank, .ref a_kept]))]) hP hD hS hA [0] (by decide) rfl
                    refine va_callv (va_runV (As := [.int 11, .int (a_at + 1)]) (rest := []) ⟨hx, hb, hml, hown, hg⟩ (c_MoReader_take l g cs ka a_sides a_ranks a_stop a_terms a_names a_s a_word a_stack a_variables a_kept a H.size (11 : Int32) (a_at + 1) a_n a_at a_behind a_token a_open a_number a_letters a_top a_place a_variabled a_known a_rank a_behind_17 a_token_17 hc17) (cwV (C := R_MoReader) 2 hg (gw_V wd_1192 wd_1193 wd_1194 wd_754 wd_1191) rfl rfl rfl (by decide +kernel) ⟨Nat.le_of_ble_eq_true rfl, Nat.le_of_ble_eq_true rfl⟩) ⟨gP_blind, va_recv (q0 := 0) (ci := 12) (q := (R_MoReader, F_MoReader, 22)) hK hP rfl rfl, gP_pre hPc hDc hK hgl hkn hkr hS hFc⟩ rfl rfl hl.1 rfl (lv_room (Nat.le_of_ble_eq_true rfl)) d_MoReader_sign_264 ⟨Nat.le_of_ble_eq_true rfl, Nat.le_of_ble_eq_true rfl⟩) hS (fun q _ h => hFc q h) hFc (fun u t H locs ht hvm hr17 hB hz1 hk1 hS => ?_)
                    rw [ht] at hB
                    obtain ⟨hP1, hD1⟩ := hB
                    obtain ⟨hP, hD⟩ := jn_A hP hD [0] [1, 2] rfl rfl (by decide) (by decide) hk1 hFc hP1 hD1
                    obtain ⟨hP, hD⟩ : PD g A H [(a_s, .inl (cs 1, a_s_n, .inl a_s_f)), (a_word, .inl (cs 1, a_word_n, .inl a_word_f)), (a, .inr (12, [.ref a_sides, .ref a_ranks, .ref a_stop, .ref a_terms, .ref a_names, .ref a_s, .int a_n, .int a_at, .int a_behind_17, .int a_token_17, .int a_open, .long a_number, .ref a_word, .int a_letters, .ref a_stack, .int a_top, .int a_place, .ref a_variables, .int a_variabled, .int a_known, .int a_rank, .ref a_kept]))] := ⟨hP, hD⟩
                    refine lv_goto hx hb d_MoReader_sign_267 rfl ?_
                    have hq := Option.some.inj hok
                    obtain ⟨hq0, hq⟩ := Prod.mk.inj hq
                    obtain ⟨hq1, hq⟩ := Prod.mk.inj hq
                    obtain ⟨hq2, hq⟩ := Prod.mk.inj hq
                    have hq3 := hq
                    subst hq0
                    subst hq1
                    subst hq2
                    subst hq3
                    obtain ⟨hP9, hD9⟩ := sub2 (ws' := [(a, .inr (12, [.ref a_sides, .ref a_ranks, .ref a_stop, .ref a_terms, .ref a_names, .ref a_s, .int a_n, .int a_at, .int a_behind_17, .int a_token_17, .int a_open, .long a_number, .ref a_word, .int a_letters, .ref a_stack, .int a_top, .int a_place, .ref a_variables, .int a_variabled, .int a_known, .int a_rank, .ref a_kept])), (a_s, .inl (cs 1, a_s_n, .inl a_s_f)), (a_word, .inl (cs 1, a_word_n, .inl a_word_f))]) hP hD [2, 0, 1] rfl (by decide) rfl
                    rw [hQ]
                    exact W.vret hx hb hr (fun t ht hW => ⟨⟨(), rfl, trivial, by rw [ht]; exact hP9, hD9⟩, hS.F ht⟩) hS.2.2 d_MoReader_sign_282
                  · rw [if_neg hw1_8] at hok
                    by_cases hw1_9 : c0 = 125
                    · rw [if_pos hw1_9] at hok
                      refine lv_lookup hx hb d_MoReader_sign_1 (by decide) (by first | (rw [hw1_9]; rfl) | rw [hw1_9]) rfl ?_
                      refine lv_aload_n hx hb d_MoReader_sign_225 rfl (lv_at hl 0 rfl) ?_
                      refine lv_bipush (v := 9) hx hb d_MoReader_sign_226 (by decide) ?_
                      refine lv_aload_n hx hb d_MoReader_sign_228 rfl (lv_at hl 0 rfl) ?_
                      refine va_get (D := g) (ci := 12) (v := .int a_at) (C := R_MoReader) (T := F_MoReader) (N := 22) hx hb hg ul_MoReader hown hK hP 0 rfl rfl 7 (by decide) (hg _ wd_1182) (fun _ h9 => h9) rfl d_MoReader_sign_229 ?_
                      refine lv_iconst (v := 1) hx hb d_MoReader_sign_232 (by decide) ?_
                      refine lv_iadd hx hb d_MoReader_sign_233 ?_
                      obtain ⟨⟨a_behind_18, a_token_18⟩, hc18, hok⟩ := bd_some hok
                      dsimp only at hok
                      obtain ⟨hPc, hDc, hFc⟩ := cut0 (wc := [(a, .inr (12, [.ref a_sides, .ref a_ranks, .ref a_stop, .ref a_terms, .ref a_names, .ref a_s, .int a_n, .int a_at, .int a_behind, .int a_token, .int a_open, .long a_number, .ref a_word, .int a_letters, .ref a_stack, .int a_top, .int a_place, .ref a_variables, .int a_variabled, .int a_known, .int a_rank, .ref a_kept]))]) hP hD hS hA [0] (by decide) rfl
                      refine va_callv (va_runV (As := [.int 9, .int (a_at + 1)]) (rest := []) ⟨hx, hb, hml, hown, hg⟩ (c_MoReader_take l g cs ka a_sides a_ranks a_stop a_terms a_names a_s a_word a_stack a_variables a_kept a H.size (9 : Int32) (a_at + 1) a_n a_at a_behind a_token a_open a_number a_letters a_top a_place a_variabled a_known a_rank a_behind_18 a_token_18 hc18) (cwV (C := R_MoReader) 2 hg (gw_V wd_1192 wd_1193 wd_1194 wd_754 wd_1191) rfl rfl rfl (by decide +kernel) ⟨Nat.le_of_ble_eq_true rfl, Nat.le_of_ble_eq_true rfl⟩) ⟨gP_blind, va_recv (q0 := 0) (ci := 12) (q := (R_MoReader, F_MoReader, 22)) hK hP rfl rfl, gP_pre hPc hDc hK hgl hkn hkr hS hFc⟩ rfl rfl hl.1 rfl (lv_room (Nat.le_of_ble_eq_true rfl)) d_MoReader_sign_234 ⟨Nat.le_of_ble_eq_true rfl, Nat.le_of_ble_eq_true rfl⟩) hS (fun q _ h => hFc q h) hFc (fun u t H locs ht hvm hr18 hB hz1 hk1 hS => ?_)
                      rw [ht] at hB
                      obtain ⟨hP1, hD1⟩ := hB
                      obtain ⟨hP, hD⟩ := jn_A hP hD [0] [1, 2] rfl rfl (by decide) (by decide) hk1 hFc hP1 hD1
                      obtain ⟨hP, hD⟩ : PD g A H [(a_s, .inl (cs 1, a_s_n, .inl a_s_f)), (a_word, .inl (cs 1, a_word_n, .inl a_word_f)), (a, .inr (12, [.ref a_sides, .ref a_ranks, .ref a_stop, .ref a_terms, .ref a_names, .ref a_s, .int a_n, .int a_at, .int a_behind_18, .int a_token_18, .int a_open, .long a_number, .ref a_word, .int a_letters, .ref a_stack, .int a_top, .int a_place, .ref a_variables, .int a_variabled, .int a_known, .int a_rank, .ref a_kept]))] := ⟨hP, hD⟩
                      refine lv_goto hx hb d_MoReader_sign_237 rfl ?_
                      have hq := Option.some.inj hok
                      obtain ⟨hq0, hq⟩ := Prod.mk.inj hq
                      obtain ⟨hq1, hq⟩ := Prod.mk.inj hq
                      obtain ⟨hq2, hq⟩ := Prod.mk.inj hq
                      have hq3 := hq
                      subst hq0
                      subst hq1
                      subst hq2
                      subst hq3
                      obtain ⟨hP9, hD9⟩ := sub2 (ws' := [(a, .inr (12, [.ref a_sides, .ref a_ranks, .ref a_stop, .ref a_terms, .ref a_names, .ref a_s, .int a_n, .int a_at, .int a_behind_18, .int a_token_18, .int a_open, .long a_number, .ref a_word, .int a_letters, .ref a_stack, .int a_top, .int a_place, .ref a_variables, .int a_variabled, .int a_known, .int a_rank, .ref a_kept])), (a_s, .inl (cs 1, a_s_n, .inl a_s_f)), (a_word, .inl (cs 1, a_word_n, .inl a_word_f))]) hP hD [2, 0, 1] rfl (by decide) rfl
                      rw [hQ]
                      exact W.vret hx hb hr (fun t ht hW => ⟨⟨(), rfl, trivial, by rw [ht]; exact hP9, hD9⟩, hS.F ht⟩) hS.2.2 d_MoReader_sign_282
                    · rw [if_neg hw1_9] at hok
                      refine lv_lookup hx hb d_MoReader_sign_1 (by decide) ((lv_osw hw1_0 rfl).trans ((lv_osw hw1_1 rfl).trans ((lv_osw hw1_2 rfl).trans ((lv_osw hw1_3 rfl).trans ((lv_osw hw1_4 rfl).trans ((lv_osw hw1_5 rfl).trans ((lv_osw hw1_6 rfl).trans ((lv_osw hw1_7 rfl).trans ((lv_osw hw1_8 rfl).trans ((lv_osw hw1_9 rfl).trans (rfl))))))))))) rfl ?_
                      refine lv_aload_n hx hb d_MoReader_sign_270 rfl (lv_at hl 0 rfl) ?_
                      refine lv_bipush (v := 12) hx hb d_MoReader_sign_271 (by decide) ?_
                      refine lv_aload_n hx hb d_MoReader_sign_273 rfl (lv_at hl 0 rfl) ?_
                      refine va_get (D := g) (ci := 12) (v := .int a_at) (C := R_MoReader) (T := F_MoReader) (N := 22) hx hb hg ul_MoReader hown hK hP 0 rfl rfl 7 (by decide) (hg _ wd_1182) (fun _ h9 => h9) rfl d_MoReader_sign_274 ?_
                      refine lv_iconst (v := 1) hx hb d_MoReader_sign_277 (by decide) ?_
                      refine lv_iadd hx hb d_MoReader_sign_278 ?_
                      obtain ⟨⟨a_behind_19, a_token_19⟩, hc19, hok⟩ := bd_some hok
                      dsimp only at hok
                      obtain ⟨hPc, hDc, hFc⟩ := cut0 (wc := [(a, .inr (12, [.ref a_sides, .ref a_ranks, .ref a_stop, .ref a_terms, .ref a_names, .ref a_s, .int a_n, .int a_at, .int a_behind, .int a_token, .int a_open, .long a_number, .ref a_word, .int a_letters, .ref a_stack, .int a_top, .int a_place, .ref a_variables, .int a_variabled, .int a_known, .int a_rank, .ref a_kept]))]) hP hD hS hA [0] (by decide) rfl
                      refine va_callv (va_runV (As := [.int 12, .int (a_at + 1)]) (rest := []) ⟨hx, hb, hml, hown, hg⟩ (c_MoReader_take l g cs ka a_sides a_ranks a_stop a_terms a_names a_s a_word a_stack a_variables a_kept a H.size (12 : Int32) (a_at + 1) a_n a_at a_behind a_token a_open a_number a_letters a_top a_place a_variabled a_known a_rank a_behind_19 a_token_19 hc19) (cwV (C := R_MoReader) 2 hg (gw_V wd_1192 wd_1193 wd_1194 wd_754 wd_1191) rfl rfl rfl (by decide +kernel) ⟨Nat.le_of_ble_eq_true rfl, Nat.le_of_ble_eq_true rfl⟩) ⟨gP_blind, va_recv (q0 := 0) (ci := 12) (q := (R_MoReader, F_MoReader, 22)) hK hP rfl rfl, gP_pre hPc hDc hK hgl hkn hkr hS hFc⟩ rfl rfl hl.1 rfl (lv_room (Nat.le_of_ble_eq_true rfl)) d_MoReader_sign_279 ⟨Nat.le_of_ble_eq_true rfl, Nat.le_of_ble_eq_true rfl⟩) hS (fun q _ h => hFc q h) hFc (fun u t H locs ht hvm hr19 hB hz1 hk1 hS => ?_)
                      rw [ht] at hB
                      obtain ⟨hP1, hD1⟩ := hB
                      obtain ⟨hP, hD⟩ := jn_A hP hD [0] [1, 2] rfl rfl (by decide) (by decide) hk1 hFc hP1 hD1
                      obtain ⟨hP, hD⟩ : PD g A H [(a_s, .inl (cs 1, a_s_n, .inl a_s_f)), (a_word, .inl (cs 1, a_word_n, .inl a_word_f)), (a, .inr (12, [.ref a_sides, .ref a_ranks, .ref a_stop, .ref a_terms, .ref a_names, .ref a_s, .int a_n, .int a_at, .int a_behind_19, .int a_token_19, .int a_open, .long a_number, .ref a_word, .int a_letters, .ref a_stack, .int a_top, .int a_place, .ref a_variables, .int a_variabled, .int a_known, .int a_rank, .ref a_kept]))] := ⟨hP, hD⟩
                      have hq := Option.some.inj hok
                      obtain ⟨hq0, hq⟩ := Prod.mk.inj hq
                      obtain ⟨hq1, hq⟩ := Prod.mk.inj hq
                      obtain ⟨hq2, hq⟩ := Prod.mk.inj hq
                      have hq3 := hq
                      subst hq0
                      subst hq1
                      subst hq2
                      subst hq3
                      obtain ⟨hP9, hD9⟩ := sub2 (ws' := [(a, .inr (12, [.ref a_sides, .ref a_ranks, .ref a_stop, .ref a_terms, .ref a_names, .ref a_s, .int a_n, .int a_at, .int a_behind_19, .int a_token_19, .int a_open, .long a_number, .ref a_word, .int a_letters, .ref a_stack, .int a_top, .int a_place, .ref a_variables, .int a_variabled, .int a_known, .int a_rank, .ref a_kept])), (a_s, .inl (cs 1, a_s_n, .inl a_s_f)), (a_word, .inl (cs 1, a_word_n, .inl a_word_f))]) hP hD [2, 0, 1] rfl (by decide) rfl
                      rw [hQ]
                      exact W.vret hx hb hr (fun t ht hW => ⟨⟨(), rfl, trivial, by rw [ht]; exact hP9, hD9⟩, hS.F ht⟩) hS.2.2 d_MoReader_sign_282

theorem d_MoReader_scan_0 : decode b_MoReader_scan 0 = .ok (.aload_n 0, 1) := by decide +kernel
theorem d_MoReader_scan_1 : decode b_MoReader_scan 1 = .ok (.getfield 96, 3) := by decide +kernel
theorem d_MoReader_scan_4 : decode b_MoReader_scan 4 = .ok (.istore_n 1, 1) := by decide +kernel
theorem d_MoReader_scan_5 : decode b_MoReader_scan 5 = .ok (.iload_n 1, 1) := by decide +kernel
theorem d_MoReader_scan_6 : decode b_MoReader_scan 6 = .ok (.aload_n 0, 1) := by decide +kernel
theorem d_MoReader_scan_7 : decode b_MoReader_scan 7 = .ok (.getfield 92, 3) := by decide +kernel
theorem d_MoReader_scan_10 : decode b_MoReader_scan 10 = .ok (.if_icmp .ge 68, 3) := by decide +kernel
theorem d_MoReader_scan_13 : decode b_MoReader_scan 13 = .ok (.aload_n 0, 1) := by decide +kernel
theorem d_MoReader_scan_14 : decode b_MoReader_scan 14 = .ok (.getfield 89, 3) := by decide +kernel
theorem d_MoReader_scan_17 : decode b_MoReader_scan 17 = .ok (.iload_n 1, 1) := by decide +kernel
theorem d_MoReader_scan_18 : decode b_MoReader_scan 18 = .ok (.baload, 1) := by decide +kernel
theorem d_MoReader_scan_19 : decode b_MoReader_scan 19 = .ok (.invokestatic 135, 3) := by decide +kernel
theorem d_MoReader_scan_22 : decode b_MoReader_scan 22 = .ok (.ifCond .ne 14, 3) := by decide +kernel
theorem d_MoReader_scan_25 : decode b_MoReader_scan 25 = .ok (.aload_n 0, 1) := by decide +kernel
theorem d_MoReader_scan_26 : decode b_MoReader_scan 26 = .ok (.getfield 89, 3) := by decide +kernel
theorem d_MoReader_scan_29 : decode b_MoReader_scan 29 = .ok (.iload_n 1, 1) := by decide +kernel
theorem d_MoReader_scan_30 : decode b_MoReader_scan 30 = .ok (.baload, 1) := by decide +kernel
theorem d_MoReader_scan_31 : decode b_MoReader_scan 31 = .ok (.bipush 37, 2) := by decide +kernel
theorem d_MoReader_scan_33 : decode b_MoReader_scan 33 = .ok (.if_icmp .ne 45, 3) := by decide +kernel
theorem d_MoReader_scan_36 : decode b_MoReader_scan 36 = .ok (.aload_n 0, 1) := by decide +kernel
theorem d_MoReader_scan_37 : decode b_MoReader_scan 37 = .ok (.getfield 89, 3) := by decide +kernel
theorem d_MoReader_scan_40 : decode b_MoReader_scan 40 = .ok (.iload_n 1, 1) := by decide +kernel
theorem d_MoReader_scan_41 : decode b_MoReader_scan 41 = .ok (.baload, 1) := by decide +kernel
theorem d_MoReader_scan_42 : decode b_MoReader_scan 42 = .ok (.bipush 37, 2) := by decide +kernel
theorem d_MoReader_scan_44 : decode b_MoReader_scan 44 = .ok (.if_icmp .ne 28, 3) := by decide +kernel
theorem d_MoReader_scan_47 : decode b_MoReader_scan 47 = .ok (.iload_n 1, 1) := by decide +kernel
theorem d_MoReader_scan_48 : decode b_MoReader_scan 48 = .ok (.aload_n 0, 1) := by decide +kernel
theorem d_MoReader_scan_49 : decode b_MoReader_scan 49 = .ok (.getfield 92, 3) := by decide +kernel
theorem d_MoReader_scan_52 : decode b_MoReader_scan 52 = .ok (.if_icmp .ge (-47), 3) := by decide +kernel
theorem d_MoReader_scan_55 : decode b_MoReader_scan 55 = .ok (.aload_n 0, 1) := by decide +kernel
theorem d_MoReader_scan_56 : decode b_MoReader_scan 56 = .ok (.getfield 89, 3) := by decide +kernel
theorem d_MoReader_scan_59 : decode b_MoReader_scan 59 = .ok (.iload_n 1, 1) := by decide +kernel
theorem d_MoReader_scan_60 : decode b_MoReader_scan 60 = .ok (.baload, 1) := by decide +kernel
theorem d_MoReader_scan_61 : decode b_MoReader_scan 61 = .ok (.bipush 10, 2) := by decide +kernel
theorem d_MoReader_scan_63 : decode b_MoReader_scan 63 = .ok (.if_icmp .eq (-58), 3) := by decide +kernel
theorem d_MoReader_scan_66 : decode b_MoReader_scan 66 = .ok (.iinc 1 1, 3) := by decide +kernel
theorem d_MoReader_scan_69 : decode b_MoReader_scan 69 = .ok (.goto (-22), 3) := by decide +kernel
theorem d_MoReader_scan_72 : decode b_MoReader_scan 72 = .ok (.iinc 1 1, 3) := by decide +kernel
theorem d_MoReader_scan_75 : decode b_MoReader_scan 75 = .ok (.goto (-70), 3) := by decide +kernel
theorem d_MoReader_scan_78 : decode b_MoReader_scan 78 = .ok (.aload_n 0, 1) := by decide +kernel
theorem d_MoReader_scan_79 : decode b_MoReader_scan 79 = .ok (.iload_n 1, 1) := by decide +kernel
theorem d_MoReader_scan_80 : decode b_MoReader_scan 80 = .ok (.putfield 116, 3) := by decide +kernel
theorem d_MoReader_scan_83 : decode b_MoReader_scan 83 = .ok (.aload_n 0, 1) := by decide +kernel
theorem d_MoReader_scan_84 : decode b_MoReader_scan 84 = .ok (.iconst 0, 1) := by decide +kernel
theorem d_MoReader_scan_85 : decode b_MoReader_scan 85 = .ok (.putfield 139, 3) := by decide +kernel
theorem d_MoReader_scan_88 : decode b_MoReader_scan 88 = .ok (.iload_n 1, 1) := by decide +kernel
theorem d_MoReader_scan_89 : decode b_MoReader_scan 89 = .ok (.aload_n 0, 1) := by decide +kernel
theorem d_MoReader_scan_90 : decode b_MoReader_scan 90 = .ok (.getfield 92, 3) := by decide +kernel
theorem d_MoReader_scan_93 : decode b_MoReader_scan 93 = .ok (.if_icmp .ge 12, 3) := by decide +kernel
theorem d_MoReader_scan_96 : decode b_MoReader_scan 96 = .ok (.aload_n 0, 1) := by decide +kernel
theorem d_MoReader_scan_97 : decode b_MoReader_scan 97 = .ok (.getfield 89, 3) := by decide +kernel
theorem d_MoReader_scan_100 : decode b_MoReader_scan 100 = .ok (.iload_n 1, 1) := by decide +kernel
theorem d_MoReader_scan_101 : decode b_MoReader_scan 101 = .ok (.baload, 1) := by decide +kernel
theorem d_MoReader_scan_102 : decode b_MoReader_scan 102 = .ok (.goto 4, 3) := by decide +kernel
theorem d_MoReader_scan_105 : decode b_MoReader_scan 105 = .ok (.iconst (-1), 1) := by decide +kernel
theorem d_MoReader_scan_106 : decode b_MoReader_scan 106 = .ok (.istore_n 2, 1) := by decide +kernel
theorem d_MoReader_scan_107 : decode b_MoReader_scan 107 = .ok (.iload_n 1, 1) := by decide +kernel
theorem d_MoReader_scan_108 : decode b_MoReader_scan 108 = .ok (.aload_n 0, 1) := by decide +kernel
theorem d_MoReader_scan_109 : decode b_MoReader_scan 109 = .ok (.getfield 92, 3) := by decide +kernel
theorem d_MoReader_scan_112 : decode b_MoReader_scan 112 = .ok (.if_icmp .ne 20, 3) := by decide +kernel
theorem d_MoReader_scan_115 : decode b_MoReader_scan 115 = .ok (.aload_n 0, 1) := by decide +kernel
theorem d_MoReader_scan_116 : decode b_MoReader_scan 116 = .ok (.bipush 13, 2) := by decide +kernel
theorem d_MoReader_scan_118 : decode b_MoReader_scan 118 = .ok (.putfield 123, 3) := by decide +kernel
theorem d_MoReader_scan_121 : decode b_MoReader_scan 121 = .ok (.aload_n 0, 1) := by decide +kernel
theorem d_MoReader_scan_122 : decode b_MoReader_scan 122 = .ok (.aload_n 0, 1) := by decide +kernel
theorem d_MoReader_scan_123 : decode b_MoReader_scan 123 = .ok (.getfield 92, 3) := by decide +kernel
theorem d_MoReader_scan_126 : decode b_MoReader_scan 126 = .ok (.putfield 96, 3) := by decide +kernel
theorem d_MoReader_scan_129 : decode b_MoReader_scan 129 = .ok (.goto 220, 3) := by decide +kernel
theorem d_MoReader_scan_132 : decode b_MoReader_scan 132 = .ok (.iload_n 2, 1) := by decide +kernel
theorem d_MoReader_scan_133 : decode b_MoReader_scan 133 = .ok (.invokestatic 142, 3) := by decide +kernel
theorem d_MoReader_scan_136 : decode b_MoReader_scan 136 = .ok (.ifCond .ne 10, 3) := by decide +kernel
theorem d_MoReader_scan_139 : decode b_MoReader_scan 139 = .ok (.iload_n 2, 1) := by decide +kernel
theorem d_MoReader_scan_140 : decode b_MoReader_scan 140 = .ok (.invokestatic 145, 3) := by decide +kernel
theorem d_MoReader_scan_143 : decode b_MoReader_scan 143 = .ok (.ifCond .eq 72, 3) := by decide +kernel
theorem d_MoReader_scan_146 : decode b_MoReader_scan 146 = .ok (.aload_n 0, 1) := by decide +kernel
theorem d_MoReader_scan_147 : decode b_MoReader_scan 147 = .ok (.iload_n 1, 1) := by decide +kernel
theorem d_MoReader_scan_148 : decode b_MoReader_scan 148 = .ok (.invokevirtual 148, 3) := by decide +kernel
theorem d_MoReader_scan_151 : decode b_MoReader_scan 151 = .ok (.invokestatic 142, 3) := by decide +kernel
theorem d_MoReader_scan_154 : decode b_MoReader_scan 154 = .ok (.ifCond .ne 25, 3) := by decide +kernel
theorem d_MoReader_scan_157 : decode b_MoReader_scan 157 = .ok (.aload_n 0, 1) := by decide +kernel
theorem d_MoReader_scan_158 : decode b_MoReader_scan 158 = .ok (.iload_n 1, 1) := by decide +kernel
theorem d_MoReader_scan_159 : decode b_MoReader_scan 159 = .ok (.invokevirtual 148, 3) := by decide +kernel
theorem d_MoReader_scan_162 : decode b_MoReader_scan 162 = .ok (.invokestatic 145, 3) := by decide +kernel
theorem d_MoReader_scan_165 : decode b_MoReader_scan 165 = .ok (.ifCond .ne 14, 3) := by decide +kernel
theorem d_MoReader_scan_168 : decode b_MoReader_scan 168 = .ok (.aload_n 0, 1) := by decide +kernel
theorem d_MoReader_scan_169 : decode b_MoReader_scan 169 = .ok (.iload_n 1, 1) := by decide +kernel
theorem d_MoReader_scan_170 : decode b_MoReader_scan 170 = .ok (.invokevirtual 148, 3) := by decide +kernel
theorem d_MoReader_scan_173 : decode b_MoReader_scan 173 = .ok (.invokestatic 151, 3) := by decide +kernel
theorem d_MoReader_scan_176 : decode b_MoReader_scan 176 = .ok (.ifCond .eq 19, 3) := by decide +kernel
theorem d_MoReader_scan_179 : decode b_MoReader_scan 179 = .ok (.aload_n 0, 1) := by decide +kernel
theorem d_MoReader_scan_180 : decode b_MoReader_scan 180 = .ok (.aload_n 0, 1) := by decide +kernel
theorem d_MoReader_scan_181 : decode b_MoReader_scan 181 = .ok (.getfield 89, 3) := by decide +kernel
theorem d_MoReader_scan_184 : decode b_MoReader_scan 184 = .ok (.iload_n 1, 1) := by decide +kernel
theorem d_MoReader_scan_185 : decode b_MoReader_scan 185 = .ok (.baload, 1) := by decide +kernel
theorem d_MoReader_scan_186 : decode b_MoReader_scan 186 = .ok (.invokevirtual 154, 3) := by decide +kernel
theorem d_MoReader_scan_189 : decode b_MoReader_scan 189 = .ok (.iinc 1 1, 3) := by decide +kernel
theorem d_MoReader_scan_192 : decode b_MoReader_scan 192 = .ok (.goto (-46), 3) := by decide +kernel
theorem d_MoReader_scan_195 : decode b_MoReader_scan 195 = .ok (.aload_n 0, 1) := by decide +kernel
theorem d_MoReader_scan_196 : decode b_MoReader_scan 196 = .ok (.iload_n 2, 1) := by decide +kernel
theorem d_MoReader_scan_197 : decode b_MoReader_scan 197 = .ok (.invokestatic 145, 3) := by decide +kernel
theorem d_MoReader_scan_200 : decode b_MoReader_scan 200 = .ok (.ifCond .eq 7, 3) := by decide +kernel
theorem d_MoReader_scan_203 : decode b_MoReader_scan 203 = .ok (.iconst 1, 1) := by decide +kernel
theorem d_MoReader_scan_204 : decode b_MoReader_scan 204 = .ok (.goto 4, 3) := by decide +kernel
theorem d_MoReader_scan_207 : decode b_MoReader_scan 207 = .ok (.iconst 3, 1) := by decide +kernel
theorem d_MoReader_scan_208 : decode b_MoReader_scan 208 = .ok (.iload_n 1, 1) := by decide +kernel
theorem d_MoReader_scan_209 : decode b_MoReader_scan 209 = .ok (.invokevirtual 158, 3) := by decide +kernel
theorem d_MoReader_scan_212 : decode b_MoReader_scan 212 = .ok (.goto 137, 3) := by decide +kernel
theorem d_MoReader_scan_215 : decode b_MoReader_scan 215 = .ok (.iload_n 2, 1) := by decide +kernel
theorem d_MoReader_scan_216 : decode b_MoReader_scan 216 = .ok (.invokestatic 151, 3) := by decide +kernel
theorem d_MoReader_scan_219 : decode b_MoReader_scan 219 = .ok (.ifCond .eq 10, 3) := by decide +kernel
theorem d_MoReader_scan_222 : decode b_MoReader_scan 222 = .ok (.aload_n 0, 1) := by decide +kernel
theorem d_MoReader_scan_223 : decode b_MoReader_scan 223 = .ok (.invokevirtual 162, 3) := by decide +kernel
theorem d_MoReader_scan_226 : decode b_MoReader_scan 226 = .ok (.goto 123, 3) := by decide +kernel
theorem d_MoReader_scan_229 : decode b_MoReader_scan 229 = .ok (.iload_n 2, 1) := by decide +kernel
theorem d_MoReader_scan_230 : decode b_MoReader_scan 230 = .ok (.bipush 39, 2) := by decide +kernel
theorem d_MoReader_scan_232 : decode b_MoReader_scan 232 = .ok (.if_icmp .ne 10, 3) := by decide +kernel
theorem d_MoReader_scan_235 : decode b_MoReader_scan 235 = .ok (.aload_n 0, 1) := by decide +kernel
theorem d_MoReader_scan_236 : decode b_MoReader_scan 236 = .ok (.invokevirtual 165, 3) := by decide +kernel
theorem d_MoReader_scan_239 : decode b_MoReader_scan 239 = .ok (.goto 110, 3) := by decide +kernel
theorem d_MoReader_scan_242 : decode b_MoReader_scan 242 = .ok (.iload_n 2, 1) := by decide +kernel
theorem d_MoReader_scan_243 : decode b_MoReader_scan 243 = .ok (.invokestatic 168, 3) := by decide +kernel
theorem d_MoReader_scan_246 : decode b_MoReader_scan 246 = .ok (.ifCond .eq 98, 3) := by decide +kernel
theorem d_MoReader_scan_249 : decode b_MoReader_scan 249 = .ok (.aload_n 0, 1) := by decide +kernel
theorem d_MoReader_scan_250 : decode b_MoReader_scan 250 = .ok (.iload_n 1, 1) := by decide +kernel
theorem d_MoReader_scan_251 : decode b_MoReader_scan 251 = .ok (.invokevirtual 148, 3) := by decide +kernel
theorem d_MoReader_scan_254 : decode b_MoReader_scan 254 = .ok (.invokestatic 168, 3) := by decide +kernel
theorem d_MoReader_scan_257 : decode b_MoReader_scan 257 = .ok (.ifCond .eq 19, 3) := by decide +kernel
theorem d_MoReader_scan_260 : decode b_MoReader_scan 260 = .ok (.aload_n 0, 1) := by decide +kernel
theorem d_MoReader_scan_261 : decode b_MoReader_scan 261 = .ok (.aload_n 0, 1) := by decide +kernel
theorem d_MoReader_scan_262 : decode b_MoReader_scan 262 = .ok (.getfield 89, 3) := by decide +kernel
theorem d_MoReader_scan_265 : decode b_MoReader_scan 265 = .ok (.iload_n 1, 1) := by decide +kernel
theorem d_MoReader_scan_266 : decode b_MoReader_scan 266 = .ok (.baload, 1) := by decide +kernel
theorem d_MoReader_scan_267 : decode b_MoReader_scan 267 = .ok (.invokevirtual 154, 3) := by decide +kernel
theorem d_MoReader_scan_270 : decode b_MoReader_scan 270 = .ok (.iinc 1 1, 3) := by decide +kernel
theorem d_MoReader_scan_273 : decode b_MoReader_scan 273 = .ok (.goto (-24), 3) := by decide +kernel
theorem d_MoReader_scan_276 : decode b_MoReader_scan 276 = .ok (.aload_n 0, 1) := by decide +kernel
theorem d_MoReader_scan_277 : decode b_MoReader_scan 277 = .ok (.getfield 139, 3) := by decide +kernel
theorem d_MoReader_scan_280 : decode b_MoReader_scan 280 = .ok (.iconst 1, 1) := by decide +kernel
theorem d_MoReader_scan_281 : decode b_MoReader_scan 281 = .ok (.if_icmp .ne 44, 3) := by decide +kernel
theorem d_MoReader_scan_284 : decode b_MoReader_scan 284 = .ok (.iload_n 2, 1) := by decide +kernel
theorem d_MoReader_scan_285 : decode b_MoReader_scan 285 = .ok (.bipush 46, 2) := by decide +kernel
theorem d_MoReader_scan_287 : decode b_MoReader_scan 287 = .ok (.if_icmp .ne 38, 3) := by decide +kernel
theorem d_MoReader_scan_290 : decode b_MoReader_scan 290 = .ok (.iload_n 1, 1) := by decide +kernel
theorem d_MoReader_scan_291 : decode b_MoReader_scan 291 = .ok (.aload_n 0, 1) := by decide +kernel
theorem d_MoReader_scan_292 : decode b_MoReader_scan 292 = .ok (.getfield 92, 3) := by decide +kernel
theorem d_MoReader_scan_295 : decode b_MoReader_scan 295 = .ok (.if_icmp .eq 26, 3) := by decide +kernel
theorem d_MoReader_scan_298 : decode b_MoReader_scan 298 = .ok (.aload_n 0, 1) := by decide +kernel
theorem d_MoReader_scan_299 : decode b_MoReader_scan 299 = .ok (.getfield 89, 3) := by decide +kernel
theorem d_MoReader_scan_302 : decode b_MoReader_scan 302 = .ok (.iload_n 1, 1) := by decide +kernel
theorem d_MoReader_scan_303 : decode b_MoReader_scan 303 = .ok (.baload, 1) := by decide +kernel
theorem d_MoReader_scan_304 : decode b_MoReader_scan 304 = .ok (.invokestatic 135, 3) := by decide +kernel
theorem d_MoReader_scan_307 : decode b_MoReader_scan 307 = .ok (.ifCond .ne 14, 3) := by decide +kernel
theorem d_MoReader_scan_310 : decode b_MoReader_scan 310 = .ok (.aload_n 0, 1) := by decide +kernel
theorem d_MoReader_scan_311 : decode b_MoReader_scan 311 = .ok (.getfield 89, 3) := by decide +kernel
theorem d_MoReader_scan_314 : decode b_MoReader_scan 314 = .ok (.iload_n 1, 1) := by decide +kernel
theorem d_MoReader_scan_315 : decode b_MoReader_scan 315 = .ok (.baload, 1) := by decide +kernel
theorem d_MoReader_scan_316 : decode b_MoReader_scan 316 = .ok (.bipush 37, 2) := by decide +kernel
theorem d_MoReader_scan_318 : decode b_MoReader_scan 318 = .ok (.if_icmp .ne 7, 3) := by decide +kernel
theorem d_MoReader_scan_321 : decode b_MoReader_scan 321 = .ok (.iconst 1, 1) := by decide +kernel
theorem d_MoReader_scan_322 : decode b_MoReader_scan 322 = .ok (.goto 4, 3) := by decide +kernel
theorem d_MoReader_scan_325 : decode b_MoReader_scan 325 = .ok (.iconst 0, 1) := by decide +kernel
theorem d_MoReader_scan_326 : decode b_MoReader_scan 326 = .ok (.istore_n 3, 1) := by decide +kernel
theorem d_MoReader_scan_327 : decode b_MoReader_scan 327 = .ok (.aload_n 0, 1) := by decide +kernel
theorem d_MoReader_scan_328 : decode b_MoReader_scan 328 = .ok (.iload_n 3, 1) := by decide +kernel
theorem d_MoReader_scan_329 : decode b_MoReader_scan 329 = .ok (.ifCond .eq 7, 3) := by decide +kernel
theorem d_MoReader_scan_332 : decode b_MoReader_scan 332 = .ok (.iconst 0, 1) := by decide +kernel
theorem d_MoReader_scan_333 : decode b_MoReader_scan 333 = .ok (.goto 4, 3) := by decide +kernel
theorem d_MoReader_scan_336 : decode b_MoReader_scan 336 = .ok (.iconst 3, 1) := by decide +kernel
theorem d_MoReader_scan_337 : decode b_MoReader_scan 337 = .ok (.iload_n 1, 1) := by decide +kernel
theorem d_MoReader_scan_338 : decode b_MoReader_scan 338 = .ok (.invokevirtual 158, 3) := by decide +kernel
theorem d_MoReader_scan_341 : decode b_MoReader_scan 341 = .ok (.goto 8, 3) := by decide +kernel
theorem d_MoReader_scan_344 : decode b_MoReader_scan 344 = .ok (.aload_n 0, 1) := by decide +kernel
theorem d_MoReader_scan_345 : decode b_MoReader_scan 345 = .ok (.iload_n 2, 1) := by decide +kernel
theorem d_MoReader_scan_346 : decode b_MoReader_scan 346 = .ok (.invokevirtual 171, 3) := by decide +kernel
theorem d_MoReader_scan_349 : decode b_MoReader_scan 349 = .ok (.return_, 1) := by decide +kernel
def p_MoReader_scan_179 (n : Nat) (a_n : Int32) (a_behind : Int32) (a_token : Int32) (a_open : Int32) (a_number : Int64) (a_top : Int32) (a_place : Int32) (a_variabled : Int32) (a_known : Int32) (a_rank : Int32) (a_s_n : Nat) (a_s_f : Nat → Int32) (a_word_n : Nat) (x1_1 : Int32) (x1_7 : Int32) (a_letters_7 : Int32) (a_word_7f : Nat → Int32) (K_7 : Int32 → Int32 → (Nat → Int32) → Option (Int32 × Int32 × Int32 × Int64 × Int32 × (Nat → Int32))) : Option (Int32 × Int32 × Int32 × Int64 × Int32 × (Nat → Int32)) := ck (ixb x1_7 a_s_n) ((p_MoReader_letter (a_s_f x1_7.toNatClampNeg) a_n x1_1 a_behind a_token a_open a_number a_letters_7 a_top a_place a_variabled a_known a_rank a_word_n a_word_7f).bind (fun (a_letters_12, a_word_f_12) => K_7 (x1_7 + 1) a_letters_12 a_word_f_12))
def p_MoReader_scan_146 (n : Nat) (a_n : Int32) (a_behind : Int32) (a_token : Int32) (a_open : Int32) (a_number : Int64) (a_top : Int32) (a_place : Int32) (a_variabled : Int32) (a_known : Int32) (a_rank : Int32) (a_s_n : Nat) (a_s_f : Nat → Int32) (a_word_n : Nat) (x1_1 : Int32) (y0_3 : Int32) (kf7 : Nat) (x1_7 : Int32) (a_letters_7 : Int32) (a_word_7f : Nat → Int32) : Option (Int32 × Int32 × Int32 × Int64 × Int32 × (Nat → Int32)) := match kf7 with
  | 0 => none
  | kf7 + 1 => (p_MoReader_look x1_7 a_n x1_1 a_behind a_token a_open a_number a_letters_7 a_top a_place a_variabled a_known a_rank a_s_n a_s_f).bind (fun r8 => (p_MoReader_small r8).bind (fun r9 => if r9 = 0 then ((p_MoReader_look x1_7 a_n x1_1 a_behind a_token a_open a_number a_letters_7 a_top a_place a_variabled a_known a_rank a_s_n a_s_f).bind (fun r14 => (p_MoReader_great r14).bind (fun r15 => if r15 = 0 then ((p_MoReader_look x1_7 a_n x1_1 a_behind a_token a_open a_number a_letters_7 a_top a_place a_variabled a_known a_rank a_s_n a_s_f).bind (fun r17 => (p_MoReader_digit r17).bind (fun r18 => if r18 = 0 then ((p_MoReader_great y0_3).bind (fun r20 => if r20 = 0 then ((p_MoReader_take (3 : Int32) x1_7 a_n x1_1 a_behind a_token a_open a_number a_letters_7 a_top a_place a_variabled a_known a_rank).bind (fun (a_behind_22, a_token_22) => some (x1_1, a_behind_22, a_token_22, a_number, a_letters_7, a_word_7f))) else ((p_MoReader_take (1 : Int32) x1_7 a_n x1_1 a_behind a_token a_open a_number a_letters_7 a_top a_place a_variabled a_known a_rank).bind (fun (a_behind_23, a_token_23) => some (x1_1, a_behind_23, a_token_23, a_number, a_letters_7, a_word_7f))))) else (p_MoReader_scan_179 n a_n a_behind a_token a_open a_number a_top a_place a_variabled a_known a_rank a_s_n a_s_f a_word_n x1_1 x1_7 a_letters_7 a_word_7f (fun w0 w1 w2 => p_MoReader_scan_146 n a_n a_behind a_token a_open a_number a_top a_place a_variabled a_known a_rank a_s_n a_s_f a_word_n x1_1 y0_3 kf7 w0 w1 w2))))) else (p_MoReader_scan_179 n a_n a_behind a_token a_open a_number a_top a_place a_variabled a_known a_rank a_s_n a_s_f a_word_n x1_1 x1_7 a_letters_7 a_word_7f (fun w0 w1 w2 => p_MoReader_scan_146 n a_n a_behind a_token a_open a_number a_top a_place a_variabled a_known a_rank a_s_n a_s_f a_word_n x1_1 y0_3 kf7 w0 w1 w2))))) else (p_MoReader_scan_179 n a_n a_behind a_token a_open a_number a_top a_place a_variabled a_known a_rank a_s_n a_s_f a_word_n x1_1 x1_7 a_letters_7 a_word_7f (fun w0 w1 w2 => p_MoReader_scan_146 n a_n a_behind a_token a_open a_number a_top a_place a_variabled a_known a_rank a_s_n a_s_f a_word_n x1_1 y0_3 kf7 w0 w1 w2))))
def p_MoReader_scan_326 (n : Nat) (a_n : Int32) (a_behind : Int32) (a_token : Int32) (a_open : Int32) (a_number : Int64) (a_top : Int32) (a_place : Int32) (a_variabled : Int32) (a_known : Int32) (a_rank : Int32) (x1_1 : Int32) (x1_32 : Int32) (a_letters_32 : Int32) (a_word_32f : Nat → Int32) (y0_36 : Int32) : Option (Int32 × Int32 × Int32 × Int64 × Int32 × (Nat → Int32)) := if y0_36 = 0 then ((p_MoReader_take (3 : Int32) x1_32 a_n x1_1 a_behind a_token a_open a_number a_letters_32 a_top a_place a_variabled a_known a_rank).bind (fun (a_behind_38, a_token_38) => some (x1_1, a_behind_38, a_token_38, a_number, a_letters_32, a_word_32f))) else ((p_MoReader_take (0 : Int32) x1_32 a_n x1_1 a_behind a_token a_open a_number a_letters_32 a_top a_place a_variabled a_known a_rank).bind (fun (a_behind_39, a_token_39) => some (x1_1, a_behind_39, a_token_39, a_number, a_letters_32, a_word_32f)))
def p_MoReader_scan_325 (n : Nat) (a_n : Int32) (a_behind : Int32) (a_token : Int32) (a_open : Int32) (a_number : Int64) (a_top : Int32) (a_place : Int32) (a_variabled : Int32) (a_known : Int32) (a_rank : Int32) (x1_1 : Int32) (x1_32 : Int32) (a_letters_32 : Int32) (a_word_32f : Nat → Int32) : Option (Int32 × Int32 × Int32 × Int64 × Int32 × (Nat → Int32)) := p_MoReader_scan_326 n a_n a_behind a_token a_open a_number a_top a_place a_variabled a_known a_rank x1_1 x1_32 a_letters_32 a_word_32f (0 : Int32)
def p_MoReader_scan_321 (n : Nat) (a_n : Int32) (a_behind : Int32) (a_token : Int32) (a_open : Int32) (a_number : Int64) (a_top : Int32) (a_place : Int32) (a_variabled : Int32) (a_known : Int32) (a_rank : Int32) (x1_1 : Int32) (x1_32 : Int32) (a_letters_32 : Int32) (a_word_32f : Nat → Int32) : Option (Int32 × Int32 × Int32 × Int64 × Int32 × (Nat → Int32)) := p_MoReader_scan_326 n a_n a_behind a_token a_open a_number a_top a_place a_variabled a_known a_rank x1_1 x1_32 a_letters_32 a_word_32f (1 : Int32)
def p_MoReader_scan_249 (n : Nat) (a_n : Int32) (a_behind : Int32) (a_token : Int32) (a_open : Int32) (a_number : Int64) (a_top : Int32) (a_place : Int32) (a_variabled : Int32) (a_known : Int32) (a_rank : Int32) (a_s_n : Nat) (a_s_f : Nat → Int32) (a_word_n : Nat) (x1_1 : Int32) (y0_3 : Int32) (kf32 : Nat) (x1_32 : Int32) (a_letters_32 : Int32) (a_word_32f : Nat → Int32) : Option (Int32 × Int32 × Int32 × Int64 × Int32 × (Nat → Int32)) := match kf32 with
  | 0 => none
  | kf32 + 1 => (p_MoReader_look x1_32 a_n x1_1 a_behind a_token a_open a_number a_letters_32 a_top a_place a_variabled a_known a_rank a_s_n a_s_f).bind (fun r33 => (p_MoReader_symbol n r33).bind (fun r34 => if r34 = 0 then (if a_letters_32 = 1 then (if y0_3 = 46 then (if x1_32 = a_n then (p_MoReader_scan_321 n a_n a_behind a_token a_open a_number a_top a_place a_variabled a_known a_rank x1_1 x1_32 a_letters_32 a_word_32f) else (ck (ixb x1_32 a_s_n) ((p_MoReader_blank (a_s_f x1_32.toNatClampNeg)).bind (fun r46 => if r46 = 0 then (ck (ixb x1_32 a_s_n) (if (a_s_f x1_32.toNatClampNeg) = 37 then (p_MoReader_scan_321 n a_n a_behind a_token a_open a_number a_top a_place a_variabled a_known a_rank x1_1 x1_32 a_letters_32 a_word_32f) else (p_MoReader_scan_325 n a_n a_behind a_token a_open a_number a_top a_place a_variabled a_known a_rank x1_1 x1_32 a_letters_32 a_word_32f))) else (p_MoReader_scan_321 n a_n a_behind a_token a_open a_number a_top a_place a_variabled a_known a_rank x1_1 x1_32 a_letters_32 a_word_32f))))) else (p_MoReader_scan_325 n a_n a_behind a_token a_open a_number a_top a_place a_variabled a_known a_rank x1_1 x1_32 a_letters_32 a_word_32f)) else (p_MoReader_scan_325 n a_n a_behind a_token a_open a_number a_top a_place a_variabled a_known a_rank x1_1 x1_32 a_letters_32 a_word_32f)) else (ck (ixb x1_32 a_s_n) ((p_MoReader_letter (a_s_f x1_32.toNatClampNeg) a_n x1_1 a_behind a_token a_open a_number a_letters_32 a_top a_place a_variabled a_known a_rank a_word_n a_word_32f).bind (fun (a_letters_51, a_word_f_51) => p_MoReader_scan_249 n a_n a_behind a_token a_open a_number a_top a_place a_variabled a_known a_rank a_s_n a_s_f a_word_n x1_1 y0_3 kf32 (x1_32 + 1) a_letters_51 a_word_f_51)))))
def p_MoReader_scan_179_57 (n : Nat) (a_n : Int32) (a_behind : Int32) (a_token : Int32) (a_open : Int32) (a_number : Int64) (a_top : Int32) (a_place : Int32) (a_variabled : Int32) (a_known : Int32) (a_rank : Int32) (a_s_n : Nat) (a_s_f : Nat → Int32) (a_word_n : Nat) (x1_1 : Int32) (x1_54 : Int32) (a_letters_54 : Int32) (a_word_54f : Nat → Int32) (K_54 : Int32 → Int32 → (Nat → Int32) → Option (Int32 × Int32 × Int32 × Int64 × Int32 × (Nat → Int32))) : Option (Int32 × Int32 × Int32 × Int64 × Int32 × (Nat → Int32)) := ck (ixb x1_54 a_s_n) ((p_MoReader_letter (a_s_f x1_54.toNatClampNeg) a_n x1_1 a_behind a_token a_open a_number a_letters_54 a_top a_place a_variabled a_known a_rank a_word_n a_word_54f).bind (fun (a_letters_59, a_word_f_59) => K_54 (x1_54 + 1) a_letters_59 a_word_f_59))
def p_MoReader_scan_146_54 (n : Nat) (a_n : Int32) (a_behind : Int32) (a_token : Int32) (a_open : Int32) (a_number : Int64) (a_top : Int32) (a_place : Int32) (a_variabled : Int32) (a_known : Int32) (a_rank : Int32) (a_s_n : Nat) (a_s_f : Nat → Int32) (a_word_n : Nat) (x1_1 : Int32) (y0_3 : Int32) (kf54 : Nat) (x1_54 : Int32) (a_letters_54 : Int32) (a_word_54f : Nat → Int32) : Option (Int32 × Int32 × Int32 × Int64 × Int32 × (Nat → Int32)) := match kf54 with
  | 0 => none
  | kf54 + 1 => (p_MoReader_look x1_54 a_n x1_1 a_behind a_token a_open a_number a_letters_54 a_top a_place a_variabled a_known a_rank a_s_n a_s_f).bind (fun r55 => (p_MoReader_small r55).bind (fun r56 => if r56 = 0 then ((p_MoReader_look x1_54 a_n x1_1 a_behind a_token a_open a_number a_letters_54 a_top a_place a_variabled a_known a_rank a_s_n a_s_f).bind (fun r61 => (p_MoReader_great r61).bind (fun r62 => if r62 = 0 then ((p_MoReader_look x1_54 a_n x1_1 a_behind a_token a_open a_number a_letters_54 a_top a_place a_variabled a_known a_rank a_s_n a_s_f).bind (fun r64 => (p_MoReader_digit r64).bind (fun r65 => if r65 = 0 then ((p_MoReader_great y0_3).bind (fun r67 => if r67 = 0 then ((p_MoReader_take (3 : Int32) x1_54 a_n x1_1 a_behind a_token a_open a_number a_letters_54 a_top a_place a_variabled a_known a_rank).bind (fun (a_behind_69, a_token_69) => some (x1_1, a_behind_69, a_token_69, a_number, a_letters_54, a_word_54f))) else ((p_MoReader_take (1 : Int32) x1_54 a_n x1_1 a_behind a_token a_open a_number a_letters_54 a_top a_place a_variabled a_known a_rank).bind (fun (a_behind_70, a_token_70) => some (x1_1, a_behind_70, a_token_70, a_number, a_letters_54, a_word_54f))))) else (p_MoReader_scan_179_57 n a_n a_behind a_token a_open a_number a_top a_place a_variabled a_known a_rank a_s_n a_s_f a_word_n x1_1 x1_54 a_letters_54 a_word_54f (fun w0 w1 w2 => p_MoReader_scan_146_54 n a_n a_behind a_token a_open a_number a_top a_place a_variabled a_known a_rank a_s_n a_s_f a_word_n x1_1 y0_3 kf54 w0 w1 w2))))) else (p_MoReader_scan_179_57 n a_n a_behind a_token a_open a_number a_top a_place a_variabled a_known a_rank a_s_n a_s_f a_word_n x1_1 x1_54 a_letters_54 a_word_54f (fun w0 w1 w2 => p_MoReader_scan_146_54 n a_n a_behind a_token a_open a_number a_top a_place a_variabled a_known a_rank a_s_n a_s_f a_word_n x1_1 y0_3 kf54 w0 w1 w2))))) else (p_MoReader_scan_179_57 n a_n a_behind a_token a_open a_number a_top a_place a_variabled a_known a_rank a_s_n a_s_f a_word_n x1_1 x1_54 a_letters_54 a_word_54f (fun w0 w1 w2 => p_MoReader_scan_146_54 n a_n a_behind a_token a_open a_number a_top a_place a_variabled a_known a_rank a_s_n a_s_f a_word_n x1_1 y0_3 kf54 w0 w1 w2))))
def p_MoReader_scan_106 (n : Nat) (a_n : Int32) (a_behind : Int32) (a_token : Int32) (a_open : Int32) (a_number : Int64) (a_top : Int32) (a_place : Int32) (a_variabled : Int32) (a_known : Int32) (a_rank : Int32) (a_s_n : Nat) (a_s_f : Nat → Int32) (a_word_n : Nat) (a_word_f : Nat → Int32) (x1_1 : Int32) (y0_3 : Int32) : Option (Int32 × Int32 × Int32 × Int64 × Int32 × (Nat → Int32)) := if x1_1 = a_n then (some (x1_1, a_n, (13 : Int32), a_number, (0 : Int32), a_word_f)) else ((p_MoReader_small y0_3).bind (fun r5 => if r5 = 0 then ((p_MoReader_great y0_3).bind (fun r24 => if r24 = 0 then ((p_MoReader_digit y0_3).bind (fun r26 => if r26 = 0 then (if y0_3 = 39 then ((p_MoReader_quoted n a_n x1_1 a_behind a_token a_open a_number (0 : Int32) a_top a_place a_variabled a_known a_rank a_s_n a_s_f a_word_n a_word_f).bind (fun (a_behind_52, a_token_52, a_letters_52, a_word_f_52) => some (x1_1, a_behind_52, a_token_52, a_number, a_letters_52, a_word_f_52))) else ((p_MoReader_symbol n y0_3).bind (fun r29 => if r29 = 0 then ((p_MoReader_sign y0_3 a_n x1_1 a_behind a_token a_open a_number (0 : Int32) a_top a_place a_variabled a_known a_rank a_s_n a_s_f a_word_n a_word_f).bind (fun (a_behind_31, a_token_31, a_letters_31, a_word_f_31) => some (x1_1, a_behind_31, a_token_31, a_number, a_letters_31, a_word_f_31))) else (p_MoReader_scan_249 n a_n a_behind a_token a_open a_number a_top a_place a_variabled a_known a_rank a_s_n a_s_f a_word_n x1_1 y0_3 n x1_1 (0 : Int32) a_word_f)))) else ((p_MoReader_digits n a_n x1_1 a_behind a_token a_open a_number (0 : Int32) a_top a_place a_variabled a_known a_rank a_s_n a_s_f).bind (fun (a_behind_53, a_token_53, a_number_53) => some (x1_1, a_behind_53, a_token_53, a_number_53, (0 : Int32), a_word_f))))) else (p_MoReader_scan_146_54 n a_n a_behind a_token a_open a_number a_top a_place a_variabled a_known a_rank a_s_n a_s_f a_word_n x1_1 y0_3 n x1_1 (0 : Int32) a_word_f))) else (p_MoReader_scan_146 n a_n a_behind a_token a_open a_number a_top a_place a_variabled a_known a_rank a_s_n a_s_f a_word_n x1_1 y0_3 n x1_1 (0 : Int32) a_word_f)))
def p_MoReader_scan_78 (n : Nat) (a_n : Int32) (a_behind : Int32) (a_token : Int32) (a_open : Int32) (a_number : Int64) (a_top : Int32) (a_place : Int32) (a_variabled : Int32) (a_known : Int32) (a_rank : Int32) (a_s_n : Nat) (a_s_f : Nat → Int32) (a_word_n : Nat) (a_word_f : Nat → Int32) (x1_1 : Int32) : Option (Int32 × Int32 × Int32 × Int64 × Int32 × (Nat → Int32)) := if a_n ≤ x1_1 then (p_MoReader_scan_106 n a_n a_behind a_token a_open a_number a_top a_place a_variabled a_known a_rank a_s_n a_s_f a_word_n a_word_f x1_1 ((-1) : Int32)) else (ck (ixb x1_1 a_s_n) (p_MoReader_scan_106 n a_n a_behind a_token a_open a_number a_top a_place a_variabled a_known a_rank a_s_n a_s_f a_word_n a_word_f x1_1 (a_s_f x1_1.toNatClampNeg)))
def p_MoReader_scan_47 (n : Nat) (a_n : Int32) (a_s_n : Nat) (a_s_f : Nat → Int32) (K_1 : Int32 → Option (Int32 × Int32 × Int32 × Int64 × Int32 × (Nat → Int32))) (kf79 : Nat) (x1_79 : Int32) : Option (Int32 × Int32 × Int32 × Int64 × Int32 × (Nat → Int32)) := match kf79 with
  | 0 => none
  | kf79 + 1 => if a_n ≤ x1_79 then (K_1 x1_79) else (ck (ixb x1_79 a_s_n) (if (a_s_f x1_79.toNatClampNeg) = 10 then (K_1 x1_79) else (p_MoReader_scan_47 n a_n a_s_n a_s_f K_1 kf79 (x1_79 + 1))))
def p_MoReader_scan_36 (n : Nat) (a_n : Int32) (a_s_n : Nat) (a_s_f : Nat → Int32) (x1_1 : Int32) (K_1 : Int32 → Option (Int32 × Int32 × Int32 × Int64 × Int32 × (Nat → Int32))) : Option (Int32 × Int32 × Int32 × Int64 × Int32 × (Nat → Int32)) := ck (ixb x1_1 a_s_n) (if (a_s_f x1_1.toNatClampNeg) = 37 then (p_MoReader_scan_47 n a_n a_s_n a_s_f (fun w0 => K_1 w0) n x1_1) else (K_1 (x1_1 + 1)))
def p_MoReader_scan_5 (n : Nat) (a_n : Int32) (a_behind : Int32) (a_token : Int32) (a_open : Int32) (a_number : Int64) (a_top : Int32) (a_place : Int32) (a_variabled : Int32) (a_known : Int32) (a_rank : Int32) (a_s_n : Nat) (a_s_f : Nat → Int32) (a_word_n : Nat) (a_word_f : Nat → Int32) (kf1 : Nat) (x1_1 : Int32) : Option (Int32 × Int32 × Int32 × Int64 × Int32 × (Nat → Int32)) := match kf1 with
  | 0 => none
  | kf1 + 1 => if a_n ≤ x1_1 then (p_MoReader_scan_78 n a_n a_behind a_token a_open a_number a_top a_place a_variabled a_known a_rank a_s_n a_s_f a_word_n a_word_f x1_1) else (ck (ixb x1_1 a_s_n) ((p_MoReader_blank (a_s_f x1_1.toNatClampNeg)).bind (fun r75 => if r75 = 0 then (ck (ixb x1_1 a_s_n) (if (a_s_f x1_1.toNatClampNeg) = 37 then (p_MoReader_scan_36 n a_n a_s_n a_s_f x1_1 (fun w0 => p_MoReader_scan_5 n a_n a_behind a_token a_open a_number a_top a_place a_variabled a_known a_rank a_s_n a_s_f a_word_n a_word_f kf1 w0)) else (p_MoReader_scan_78 n a_n a_behind a_token a_open a_number a_top a_place a_variabled a_known a_rank a_s_n a_s_f a_word_n a_word_f x1_1))) else (p_MoReader_scan_36 n a_n a_s_n a_s_f x1_1 (fun w0 => p_MoReader_scan_5 n a_n a_behind a_token a_open a_number a_top a_place a_variabled a_known a_rank a_s_n a_s_f a_word_n a_word_f kf1 w0)))))
def p_MoReader_scan (n : Nat) (a_n : Int32) (a_at : Int32) (a_behind : Int32) (a_token : Int32) (a_open : Int32) (a_number : Int64) (a_letters : Int32) (a_top : Int32) (a_place : Int32) (a_variabled : Int32) (a_known : Int32) (a_rank : Int32) (a_s_n : Nat) (a_s_f : Nat → Int32) (a_word_n : Nat) (a_word_f : Nat → Int32) : Option (Int32 × Int32 × Int32 × Int64 × Int32 × (Nat → Int32)) := p_MoReader_scan_5 n a_n a_behind a_token a_open a_number a_top a_place a_variabled a_known a_rank a_s_n a_s_f a_word_n a_word_f n a_behind
set_option maxHeartbeats 40000000 in
set_option maxRecDepth 100000 in
theorem c_MoReader_scan (l : Launch) (g : va_G) (cs : Nat → ClassId) (ka : Nat → Nat) (a_sides : Nat) (a_ranks : Nat) (a_stop : Nat) (a_terms : Nat) (a_names : Nat) (a_stack : Nat) (a_variables : Nat) (a_kept : Nat) (a a_s a_word : Nat) (sz : Nat) (n : Nat) (a_n : Int32) (a_at : Int32) (a_behind : Int32) (a_token : Int32) (a_open : Int32) (a_number : Int64) (a_letters : Int32) (a_top : Int32) (a_place : Int32) (a_variabled : Int32) (a_known : Int32) (a_rank : Int32) (a_s_n : Nat) (a_s_f : Nat → Int32) (a_word_n : Nat) (a_word_f : Nat → Int32) (o_a_at : Int32) (o_a_behind : Int32) (o_a_token : Int32) (o_a_number : Int64) (o_a_letters : Int32) (o_a_word_f : Nat → Int32) (hok : p_MoReader_scan n a_n a_at a_behind a_token a_open a_number a_letters a_top a_place a_variabled a_known a_rank a_s_n a_s_f a_word_n a_word_f = some (o_a_at, o_a_behind, o_a_token, o_a_number, o_a_letters, o_a_word_f)) : Met l y_MoReader_scan (.code y_MoReader_scan b_MoReader_scan 4 none :: GW) { frames := 5, cells := 0, slots := 0, locals := 111 } (va_Pc [.ref a] (gP g cs ka [(a, .inr (12, [.ref a_sides, .ref a_ranks, .ref a_stop, .ref a_terms, .ref a_names, .ref a_s, .int a_n, .int a_at, .int a_behind, .int a_token, .int a_open, .long a_number, .ref a_word, .int a_letters, .ref a_stack, .int a_top, .int a_place, .ref a_variables, .int a_variabled, .int a_known, .int a_rank, .ref a_kept])), (a_s, .inl (cs 1, a_s_n, .inl a_s_f)), (a_word, .inl (cs 1, a_word_n, .inl a_word_f))] sz)) (va_Qv (fun _ : Unit => True) (fun _ t => va_P g classes [(a, .inr (12, [.ref a_sides, .ref a_ranks, .ref a_stop, .ref a_terms, .ref a_names, .ref a_s, .int a_n, .int o_a_at, .int o_a_behind, .int o_a_token, .int a_open, .long o_a_number, .ref a_word, .int o_a_letters, .ref a_stack, .int a_top, .int a_place, .ref a_variables, .int a_variabled, .int a_known, .int a_rank, .ref a_kept])), (a_s, .inl (cs 1, a_s_n, .inl a_s_f)), (a_word, .inl (cs 1, a_word_n, .inl o_a_word_f))] t.heap ∧ va_D (va_A [(a, .inr (12, [.ref a_sides, .ref a_ranks, .ref a_stop, .ref a_terms, .ref a_names, .ref a_s, .int a_n, .int a_at, .int a_behind, .int a_token, .int a_open, .long a_number, .ref a_word, .int a_letters, .ref a_stack, .int a_top, .int a_place, .ref a_variables, .int a_variabled, .int a_known, .int a_rank, .ref a_kept])), (a_s, .inl (cs 1, a_s_n, .inl a_s_f)), (a_word, .inl (cs 1, a_word_n, .inl a_word_f))] sz) [(a, .inr (12, [.ref a_sides, .ref a_ranks, .ref a_stop, .ref a_terms, .ref a_names, .ref a_s, .int a_n, .int o_a_at, .int o_a_behind, .int o_a_token, .int a_open, .long o_a_number, .ref a_word, .int o_a_letters, .ref a_stack, .int a_top, .int a_place, .ref a_variables, .int a_variabled, .int a_known, .int a_rank, .ref a_kept])), (a_s, .inl (cs 1, a_s_n, .inl a_s_f)), (a_word, .inl (cs 1, a_word_n, .inl o_a_word_f))]) (va_A [(a, .inr (12, [.ref a_sides, .ref a_ranks, .ref a_stop, .ref a_terms, .ref a_names, .ref a_s, .int a_n, .int a_at, .int a_behind, .int a_token, .int a_open, .long a_number, .ref a_word, .int a_letters, .ref a_stack, .int a_top, .int a_place, .ref a_variables, .int a_variabled, .int a_known, .int a_rank, .ref a_kept])), (a_s, .inl (cs 1, a_s_n, .inl a_s_f)), (a_word, .inl (cs 1, a_word_n, .inl a_word_f))] sz)) 0 0 (va_A [(a, .inr (12, [.ref a_sides, .ref a_ranks, .ref a_stop, .ref a_terms, .ref a_names, .ref a_s, .int a_n, .int a_at, .int a_behind, .int a_token, .int a_open, .long a_number, .ref a_word, .int a_letters, .ref a_stack, .int a_top, .int a_place, .ref a_variables, .int a_variabled, .int a_known, .int a_rank, .ref a_kept])), (a_s, .inl (cs 1, a_s_n, .inl a_s_f)), (a_word, .inl (cs 1, a_word_n, .inl a_word_f))] sz) := by
  refine Met.ofW (cc := b_MoReader_scan) (maxL := 4) (ret := none) (by decide) rfl ?_
  intro p e s m args below meth c s₁ B hml hv
  obtain ⟨rfl, hsz, hP, hK, hD0, hgl, hkn, hkr⟩ := hv
  have hx := B.exec
  have hb := B.bytes
  have hr := B.returns
  have hg : ∀ w ∈ GW, w.before ([.ref a] : List Value).toArray s = true := fun w hw => atoms_spec (ws := .code y_MoReader_scan b_MoReader_scan 4 none :: GW) B.pre w (List.mem_cons_of_mem _ hw)
  have hown : s.vm.findClass R_MoReader = some m.cls := findClass_of_methodNamed B.named
  have hlocks := B.notSynchronized
  subst hsz
  have hD := hD0.self (sz := s.heap.size)
  generalize hAe : va_A [(a, .inr (12, [.ref a_sides, .ref a_ranks, .ref a_stop, .ref a_terms, .ref a_names, .ref a_s, .int a_n, .int a_at, .int a_behind, .int a_token, .int a_open, .long a_number, .ref a_word, .int a_letters, .ref a_stack, .int a_top, .int a_place, .ref a_variables, .int a_variabled, .int a_known, .int a_rank, .ref a_kept])), (a_s, .inl (cs 1, a_s_n, .inl a_s_f)), (a_word, .inl (cs 1, a_word_n, .inl a_word_f))] s.heap.size = A at hD hkn ⊢
  have hA : ∀ q : Nat, s.heap.size ≤ q → A q := fun q h => by rw [← hAe]; exact Or.inr h
  have hS : va_S A s.heap s.heap [] := va_S.rf
  have hP : va_P g classes [(a, .inr (12, [.ref a_sides, .ref a_ranks, .ref a_stop, .ref a_terms, .ref a_names, .ref a_s, .int a_n, .int a_at, .int a_behind, .int a_token, .int a_open, .long a_number, .ref a_word, .int a_letters, .ref a_stack, .int a_top, .int a_place, .ref a_variables, .int a_variabled, .int a_known, .int a_rank, .ref a_kept])), (a_s, .inl (cs 1, a_s_n, .inl a_s_f)), (a_word, .inl (cs 1, a_word_n, .inl a_word_f))] s.heap := hP
  have hl := lv_entry ([.ref a]) (n := 4) (Nat.le_of_ble_eq_true rfl)
  rw [lg_entry_eq]
  generalize (lg_sl ([.ref a]) ++ List.replicate (4 - (lg_sl ([.ref a])).length) Slot.unset).toArray = ls at hl ⊢
  have hl : lv_has ls 4 [(0, .ref a)] := hl
  refine gq (fun Q hQ => ?_)
  obtain ⟨H, hH⟩ : ∃ H : Heap, H = s.heap := ⟨_, rfl⟩
  rw [← hH] at hP
  have hS : va_S A s.heap H [] := by rw [hH]; exact hS
  refine W.eqH hH ?_
  obtain ⟨locs, hlc⟩ : ∃ L : List Loc, L = [] := ⟨_, rfl⟩
  rw [← hlc] at hS ⊢
  unfold p_MoReader_scan at hok
  refine lv_aload_n hx hb d_MoReader_scan_0 rfl (lv_at hl 0 rfl) ?_
  refine va_get (D := g) (ci := 12) (v := .int a_behind) (C := R_MoReader) (T := F_MoReader) (N := 22) hx hb hg ul_MoReader hown hK hP 0 rfl rfl 8 (by decide) (hg _ wd_1180) (fun _ h9 => h9) rfl d_MoReader_scan_1 ?_
  refine lv_istore_n hx hb d_MoReader_scan_4 rfl hl (by decide) rfl (fun ls hl => ?_)
  have hl : lv_has ls 4 [(1, .int a_behind), (0, .ref a)] := hl
  have J1 : ∀ (kf1 : Nat) (H : Heap) (locs : List Loc) (ls : Array Slot) (x1_1 : Int32), lv_has ls 4 [(1, .int x1_1), (0, .ref a)] → PD g A H [(a, .inr (12, [.ref a_sides, .ref a_ranks, .ref a_stop, .ref a_terms, .ref a_names, .ref a_s, .int a_n, .int a_at, .int a_behind, .int a_token, .int a_open, .long a_number, .ref a_word, .int a_letters, .ref a_stack, .int a_top, .int a_place, .ref a_variables, .int a_variabled, .int a_known, .int a_rank, .ref a_kept])), (a_s, .inl (cs 1, a_s_n, .inl a_s_f)), (a_word, .inl (cs 1, a_word_n, .inl a_word_f))] → va_S A s.heap H locs → p_MoReader_scan_5 n a_n a_behind a_token a_open a_number a_top a_place a_variabled a_known a_rank a_s_n a_s_f a_word_n a_word_f kf1 x1_1 = some (o_a_at, o_a_behind, o_a_token, o_a_number, o_a_letters, o_a_word_f) → W p l e (headSpec (.code y_MoReader_scan b_MoReader_scan 4 none :: GW) { frames := 5, cells := 0, slots := 0, locals := 111 }).room s m ([.ref a] : List Value).toArray below meth c H locs 0 0 Q (F0 m 5 ls []) := by
    intro kf1
    induction kf1 with
    | zero => intro H locs ls x1_1 hl ⟨hP, hD⟩ hS hok; rw [p_MoReader_scan_5] at hok; cases hok
    | succ kf1 ih1 =>
      intro H locs ls x1_1 hl ⟨hP, hD⟩ hS hok
      rw [p_MoReader_scan_5] at hok
      refine lv_iload_n hx hb d_MoReader_scan_5 rfl (lv_at hl 0 rfl) ?_
      refine lv_aload_n hx hb d_MoReader_scan_6 rfl (lv_at hl 1 rfl) ?_
      refine va_get (D := g) (ci := 12) (v := .int a_n) (C := R_MoReader) (T := F_MoReader) (N := 22) hx hb hg ul_MoReader hown hK hP 0 rfl rfl 6 (by decide) (hg _ wd_1175) (fun _ h9 => h9) rfl d_MoReader_scan_7 ?_
      have J2 : ∀ (H : Heap) (locs : List Loc) (ls : Array Slot), lv_has ls 4 [(1, .int x1_1), (0, .ref a)] → PD g A H [(a, .inr (12, [.ref a_sides, .ref a_ranks, .ref a_stop, .ref a_terms, .ref a_names, .ref a_s, .int a_n, .int a_at, .int a_behind, .int a_token, .int a_open, .long a_number, .ref a_word, .int a_letters, .ref a_stack, .int a_top, .int a_place, .ref a_variables, .int a_variabled, .int a_known, .int a_rank, .ref a_kept])), (a_s, .inl (cs 1, a_s_n, .inl a_s_f)), (a_word, .inl (cs 1, a_word_n, .inl a_word_f))] → va_S A s.heap H locs → p_MoReader_scan_78 n a_n a_behind a_token a_open a_number a_top a_place a_variabled a_known a_rank a_s_n a_s_f a_word_n a_word_f x1_1 = some (o_a_at, o_a_behind, o_a_token, o_a_number, o_a_letters, o_a_word_f) → W p l e (headSpec (.code y_MoReader_scan b_MoReader_scan 4 none :: GW) { frames := 5, cells := 0, slots := 0, locals := 111 }).room s m ([.ref a] : List Value).toArray below meth c H locs 0 0 Q (F0 m 78 ls []) := by
        intro H locs ls hl ⟨hP, hD⟩ hS hok
        unfold p_MoReader_scan_78 at hok
        refine lv_aload_n hx hb d_MoReader_scan_78 rfl (lv_at hl 1 rfl) ?_
        refine lv_iload_n hx hb d_MoReader_scan_79 rfl (lv_at hl 0 rfl) ?_
        refine va_put (D := g) (ci := 12) (v := .int x1_1) (ty := .int) (C := R_MoReader) (T := F_MoReader) (N := 22) hx hb hg ul_MoReader t_MoReader tk_MoReader n_MoReader hown hK hP hD hS 0 rfl rfl 7 (by decide) (hg _ wd_1182) (fun _ h9 => h9) rfl (by decide +kernel) rfl rfl (Nat.le_of_ble_eq_true rfl) d_MoReader_scan_80 (fun H locs hP hD hS => ?_)
        obtain ⟨hP, hD⟩ : PD g A H [(a, .inr (12, [.ref a_sides, .ref a_ranks, .ref a_stop, .ref a_terms, .ref a_names, .ref a_s, .int a_n, .int x1_1, .int a_behind, .int a_token, .int a_open, .long a_number, .ref a_word, .int a_letters, .ref a_stack, .int a_top, .int a_place, .ref a_variables, .int a_variabled, .int a_known, .int a_rank, .ref a_kept])), (a_s, .inl (cs 1, a_s_n, .inl a_s_f)), (a_word, .inl (cs 1, a_word_n, .inl a_word_f))] := ⟨hP, hD⟩
        refine lv_aload_n hx hb d_MoReader_scan_83 rfl (lv_at hl 1 rfl) ?_
        refine lv_iconst (v := 0) hx hb d_MoReader_scan_84 (by decide) ?_
        refine va_put (D := g) (ci := 12) (v := .int 0) (ty := .int) (C := R_MoReader) (T := F_MoReader) (N := 22) hx hb hg ul_MoReader t_MoReader tk_MoReader n_MoReader hown hK hP hD hS 0 rfl rfl 13 (by decide) (hg _ wd_1178) (fun _ h9 => h9) rfl (by decide +kernel) rfl rfl (Nat.le_of_ble_eq_true rfl) d_MoReader_scan_85 (fun H locs hP hD hS => ?_)
        obtain ⟨hP, hD⟩ : PD g A H [(a, .inr (12, [.ref a_sides, .ref a_ranks, .ref a_stop, .ref a_terms, .ref a_names, .ref a_s, .int a_n, .int x1_1, .int a_behind, .int a_token, .int a_open, .long a_number, .ref a_word, .int 0, .ref a_stack, .int a_top, .int a_place, .ref a_variables, .int a_variabled, .int a_known, .int a_rank, .ref a_kept])), (a_s, .inl (cs 1, a_s_n, .inl a_s_f)), (a_word, .inl (cs 1, a_word_n, .inl a_word_f))] := ⟨hP, hD⟩
        refine lv_iload_n hx hb d_MoReader_scan_88 rfl (lv_at hl 0 rfl) ?_
        refine lv_aload_n hx hb d_MoReader_scan_89 rfl (lv_at hl 1 rfl) ?_
        refine va_get (D := g) (ci := 12) (v := .int a_n) (C := R_MoReader) (T := F_MoReader) (N := 22) hx hb hg ul_MoReader hown hK hP 0 rfl rfl 6 (by decide) (hg _ wd_1175) (fun _ h9 => h9) rfl d_MoReader_scan_90 ?_
        have J3 : ∀ (H : Heap) (locs : List Loc) (ls : Array Slot) (y0_3 : Int32), lv_has ls 4 [(1, .int x1_1), (0, .ref a)] → PD g A H [(a, .inr (12, [.ref a_sides, .ref a_ranks, .ref a_stop, .ref a_terms, .ref a_names, .ref a_s, .int a_n, .int x1_1, .int a_behind, .int a_token, .int a_open, .long a_number, .ref a_word, .int 0, .ref a_stack, .int a_top, .int a_place, .ref a_variables, .int a_variabled, .int a_known, .int a_rank, .ref a_kept])), (a_s, .inl (cs 1, a_s_n, .inl a_s_f)), (a_word, .inl (cs 1, a_word_n, .inl a_word_f))] → va_S A s.heap H locs → p_MoReader_scan_106 n a_n a_behind a_token a_open a_number a_top a_place a_variabled a_known a_rank a_s_n a_s_f a_word_n a_word_f x1_1 y0_3 = some (o_a_at, o_a_behind, o_a_token, o_a_number, o_a_letters, o_a_word_f) → W p l e (headSpec (.code y_MoReader_scan b_MoReader_scan 4 none :: GW) { frames := 5, cells := 0, slots := 0, locals := 111 }).room s m ([.ref a] : List Value).toArray below meth c H locs 0 0 Q (F0 m 106 ls [.int y0_3]) := by
          intro H locs ls y0_3 hl ⟨hP, hD⟩ hS hok
          unfold p_MoReader_scan_106 at hok
          refine lv_istore_n hx hb d_MoReader_scan_106 rfl hl (by decide) rfl (fun ls hl => ?_)
          have hl : lv_has ls 4 [(2, .int y0_3), (1, .int x1_1), (0, .ref a)] := hl
          refine lv_iload_n hx hb d_MoReader_scan_107 rfl (lv_at hl 1 rfl) ?_
          refine lv_aload_n hx hb d_MoReader_scan_108 rfl (lv_at hl 2 rfl) ?_
          refine va_get (D := g) (ci := 12) (v := .int a_n) (C := R_MoReader) (T := F_MoReader) (N := 22) hx hb hg ul_MoReader hown hK hP 0 rfl rfl 6 (by decide) (hg _ wd_1175) (fun _ h9 => h9) rfl d_MoReader_scan_109 ?_
          refine lv_icmp_ne hx hb d_MoReader_scan_112 rfl (fun h4 => ?_) (fun h4 => ?_)
          · rw [if_neg h4] at hok
            refine lv_iload_n hx hb d_MoReader_scan_132 rfl (lv_at hl 0 rfl) ?_
            obtain ⟨r5, hc5, hok⟩ := bd_some hok
            obtain ⟨hPc, hDc, hFc⟩ := cut0 (wc := []) hP hD hS hA [] (by decide) rfl
            refine va_calli (va_runS (As := [.int y0_3]) (rest := []) ⟨hx, hb, hml, hown, hg⟩ (c_MoReader_small l g cs ka H.size y0_3 r5 hc5) (va_cwS 1 hg (gw_S wd_1202 wd_1203 wd_754 wd_1201) rfl rfl rfl (by decide +kernel) ⟨Nat.le_of_ble_eq_true rfl, Nat.le_of_ble_eq_true rfl⟩) ⟨gP_blind, gP_pre hPc hDc hK hgl hkn hkr hS hFc⟩ rfl rfl hl.1 rfl (lv_room (Nat.le_of_ble_eq_true rfl)) d_MoReader_scan_133 ⟨Nat.le_of_ble_eq_true rfl, Nat.le_of_ble_eq_true rfl⟩) hS (fun q _ h => hFc q h) hFc (fun r5' u t H locs ht hvm hr5 hB hz1 hk1 hS => ?_)
            subst hr5
            rw [ht] at hB
            obtain ⟨hP1, hD1⟩ := hB
            obtain ⟨hP, hD⟩ := jn_A hP hD [] [0, 1, 2] rfl rfl (by decide) (by decide) hk1 hFc hP1 hD1
            obtain ⟨hP, hD⟩ : PD g A H [(a, .inr (12, [.ref a_sides, .ref a_ranks, .ref a_stop, .ref a_terms, .ref a_names, .ref a_s, .int a_n, .int x1_1, .int a_behind, .int a_token, .int a_open, .long a_number, .ref a_word, .int 0, .ref a_stack, .int a_top, .int a_place, .ref a_variables, .int a_variabled, .int a_known, .int a_rank, .ref a_kept])), (a_s, .inl (cs 1, a_s_n, .inl a_s_f)), (a_word, .inl (cs 1, a_word_n, .inl a_word_f))] := ⟨hP, hD⟩
            refine lv_if_ne hx hb d_MoReader_scan_136 rfl (fun h6 => ?_) (fun h6 => ?_)
            · rw [if_neg h6] at hok
              have J7 : ∀ (kf7 : Nat) (H : Heap) (locs : List Loc) (ls : Array Slot) (x1_7 : Int32) (a_letters_7 : Int32) (a_word_7f : Nat → Int32), lv_has ls 4 [(2, .int y0_3), (1, .int x1_7), (0, .ref a)] → PD g A H [(a, .inr (12, [.ref a_sides, .ref a_ranks, .ref a_stop, .ref a_terms, .ref a_names, .ref a_s, .int a_n, .int x1_1, .int a_behind, .int a_token, .int a_open, .long a_number, .ref a_word, .int a_letters_7, .ref a_stack, .int a_top, .int a_place, .ref a_variables, .int a_variabled, .int a_known, .int a_rank, .ref a_kept])), (a_s, .inl (cs 1, a_s_n, .inl a_s_f)), (a_word, .inl (cs 1, a_word_n, .inl a_word_7f))] → va_S A s.heap H locs → p_MoReader_scan_146 n a_n a_behind a_token a_open a_number a_top a_place a_variabled a_known a_rank a_s_n a_s_f a_word_n x1_1 y0_3 kf7 x1_7 a_letters_7 a_word_7f = some (o_a_at, o_a_behind, o_a_token, o_a_number, o_a_letters, o_a_word_f) → W p l e (headSpec (.code y_MoReader_scan b_MoReader_scan 4 none :: GW) { frames := 5, cells := 0, slots := 0, locals := 111 }).room s m ([.ref a] : List Value).toArray below meth c H locs 0 0 Q (F0 m 146 ls []) := by
                intro kf7
                induction kf7 with
                | zero => intro H locs ls x1_7 a_letters_7 a_word_7f hl ⟨hP, hD⟩ hS hok; rw [p_MoReader_scan_146] at hok; cases hok
                | succ kf7 ih7 =>
                  intro H locs ls x1_7 a_letters_7 a_word_7f hl ⟨hP, hD⟩ hS hok
                  rw [p_MoReader_scan_146] at hok
                  refine lv_aload_n hx hb d_MoReader_scan_146 rfl (lv_at hl 2 rfl) ?_
                  refine lv_iload_n hx hb d_MoReader_scan_147 rfl (lv_at hl 1 rfl) ?_
                  obtain ⟨r8, hc8, hok⟩ := bd_some hok
                  obtain ⟨hPc, hDc, hFc⟩ := cut0 (wc := [(a, .inr (12, [.ref a_sides, .ref a_ranks, .ref a_stop, .ref a_terms, .ref a_names, .ref a_s, .int a_n, .int x1_1, .int a_behind, .int a_token, .int a_open, .long a_number, .ref a_word, .int a_letters_7, .ref a_stack, .int a_top, .int a_place, .ref a_variables, .int a_variabled, .int a_known, .int a_rank, .ref a_kept])), (a_s, .inl (cs 1, a_s_n, .inl a_s_f))]) hP hD hS hA [0, 1] (by decide) rfl
                  refine va_calli (va_runV (As := [.int x1_7]) (rest := []) ⟨hx, hb, hml, hown, hg⟩ (c_MoReader_look l g cs ka a_sides a_ranks a_stop a_terms a_names a_word a_stack a_variables a_kept a a_s H.size x1_7 a_n x1_1 a_behind a_token a_open a_number a_letters_7 a_top a_place a_variabled a_known a_rank a_s_n a_s_f r8 hc8) (cwV (C := R_MoReader) 1 hg (gw_V wd_1184 wd_1185 wd_1186 wd_754 wd_1183) rfl rfl rfl (by decide +kernel) ⟨Nat.le_of_ble_eq_true rfl, Nat.le_of_ble_eq_true rfl⟩) ⟨gP_blind, va_recv (q0 := 0) (ci := 12) (q := (R_MoReader, F_MoReader, 22)) hK hP rfl rfl, gP_pre hPc hDc hK hgl hkn hkr hS hFc⟩ rfl rfl hl.1 rfl (lv_room (Nat.le_of_ble_eq_true rfl)) d_MoReader_scan_148 ⟨Nat.le_of_ble_eq_true rfl, Nat.le_of_ble_eq_true rfl⟩) hS (fun q _ h => hFc q h) hFc (fun r8' u t H locs ht hvm hr8 hB hz1 hk1 hS => ?_)
                  subst hr8
                  rw [ht] at hB
                  obtain ⟨hP1, hD1⟩ := hB
                  obtain ⟨hP, hD⟩ := jn_A hP hD [0, 1] [2] rfl rfl (by decide) (by decide) hk1 hFc hP1 hD1
                  obtain ⟨hP, hD⟩ : PD g A H [(a_word, .inl (cs 1, a_word_n, .inl a_word_7f)), (a, .inr (12, [.ref a_sides, .ref a_ranks, .ref a_stop, .ref a_terms, .ref a_names, .ref a_s, .int a_n, .int x1_1, .int a_behind, .int a_token, .int a_open, .long a_number, .ref a_word, .int a_letters_7, .ref a_stack, .int a_top, .int a_place, .ref a_variables, .int a_variabled, .int a_known, .int a_rank, .ref a_kept])), (a_s, .inl (cs 1, a_s_n, .inl a_s_f))] := ⟨hP, hD⟩
                  obtain ⟨r9, hc9, hok⟩ := bd_some hok
                  obtain ⟨hPc, hDc, hFc⟩ := cut0 (wc := []) hP hD hS hA [] (by decide) rfl
                  refine va_calli (va_runS (As := [.int r8]) (rest := []) ⟨hx, hb, hml, hown, hg⟩ (c_MoReader_small l g cs ka H.size r8 r9 hc9) (va_cwS 1 hg (gw_S wd_1202 wd_1203 wd_754 wd_1201) rfl rfl rfl (by decide +kernel) ⟨Nat.le_of_ble_eq_true rfl, Nat.le_of_ble_eq_true rfl⟩) ⟨gP_blind, gP_pre hPc hDc hK hgl hkn hkr hS hFc⟩ rfl rfl hl.1 rfl (lv_room (Nat.le_of_ble_eq_true rfl)) d_MoReader_scan_151 ⟨Nat.le_of_ble_eq_true rfl, Nat.le_of_ble_eq_true rfl⟩) hS (fun q _ h => hFc q h) hFc (fun r9' u t H locs ht hvm hr9 hB hz1 hk1 hS => ?_)
                  subst hr9
                  rw [ht] at hB
                  obtain ⟨hP1, hD1⟩ := hB
                  obtain ⟨hP, hD⟩ := jn_A hP hD [] [0, 1, 2] rfl rfl (by decide) (by decide) hk1 hFc hP1 hD1
                  obtain ⟨hP, hD⟩ : PD g A H [(a_word, .inl (cs 1, a_word_n, .inl a_word_7f)), (a, .inr (12, [.ref a_sides, .ref a_ranks, .ref a_stop, .ref a_terms, .ref a_names, .ref a_s, .int a_n, .int x1_1, .int a_behind, .int a_token, .int a_open, .long a_number, .ref a_word, .int a_letters_7, .ref a_stack, .int a_top, .int a_place, .ref a_variables, .int a_variabled, .int a_known, .int a_rank, .ref a_kept])), (a_s, .inl (cs 1, a_s_n, .inl a_s_f))] := ⟨hP, hD⟩
                  have J10 : ∀ (H : Heap) (locs : List Loc) (ls : Array Slot), lv_has ls 4 [(2, .int y0_3), (1, .int x1_7), (0, .ref a)] → PD g A H [(a_word, .inl (cs 1, a_word_n, .inl a_word_7f)), (a, .inr (12, [.ref a_sides, .ref a_ranks, .ref a_stop, .ref a_terms, .ref a_names, .ref a_s, .int a_n, .int x1_1, .int a_behind, .int a_token, .int a_open, .long a_number, .ref a_word, .int a_letters_7, .ref a_stack, .int a_top, .int a_place, .ref a_variables, .int a_variabled, .int a_known, .int a_rank, .ref a_kept])), (a_s, .inl (cs 1, a_s_n, .inl a_s_f))] → va_S A s.heap H locs → p_MoReader_scan_179 n a_n a_behind a_token a_open a_number a_top a_place a_variabled a_known a_rank a_s_n a_s_f a_word_n x1_1 x1_7 a_letters_7 a_word_7f (fun w0 w1 w2 => p_MoReader_scan_146 n a_n a_behind a_token a_open a_number a_top a_place a_variabled a_known a_rank a_s_n a_s_f a_word_n x1_1 y0_3 kf7 w0 w1 w2) = some (o_a_at, o_a_behind, o_a_token, o_a_number, o_a_letters, o_a_word_f) → W p l e (headSpec (.code y_MoReader_scan b_MoReader_scan 4 none :: GW) { frames := 5, cells := 0, slots := 0, locals := 111 }).room s m ([.ref a] : List Value).toArray below meth c H locs 0 0 Q (F0 m 179 ls []) := by
                    intro H locs ls hl ⟨hP, hD⟩ hS hok
                    unfold p_MoReader_scan_179 at hok
                    refine lv_aload_n hx hb d_MoReader_scan_179 rfl (lv_at hl 2 rfl) ?_
                    refine lv_aload_n hx hb d_MoReader_scan_180 rfl (lv_at hl 2 rfl) ?_
                    refine va_get (D := g) (ci := 12) (v := .ref a_s) (C := R_MoReader) (T := F_MoReader) (N := 22) hx hb hg ul_MoReader hown hK hP 1 rfl rfl 5 (by decide) (hg _ wd_1176) (fun _ h9 => h9) rfl d_MoReader_scan_181 ?_
                    refine lv_iload_n hx hb d_MoReader_scan_184 rfl (lv_at hl 1 rfl) ?_
                    obtain ⟨hi11, hok⟩ := ck_some hok
                    refine va_bald hx hb hK hP 2 1 rfl rfl (ixb_in hi11) d_MoReader_scan_185 ?_
                    obtain ⟨⟨a_letters_12, a_word_f_12⟩, hc12, hok⟩ := bd_some hok
                    dsimp only at hok
                    obtain ⟨hPc, hDc, hFc⟩ := cut0 (wc := [(a, .inr (12, [.ref a_sides, .ref a_ranks, .ref a_stop, .ref a_terms, .ref a_names, .ref a_s, .int a_n, .int x1_1, .int a_behind, .int a_token, .int a_open, .long a_number, .ref a_word, .int a_letters_7, .ref a_stack, .int a_top, .int a_place, .ref a_variables, .int a_variabled, .int a_known, .int a_rank, .ref a_kept])), (a_word, .inl (cs 1, a_word_n, .inl a_word_7f))]) hP hD hS hA [1, 0] (by decide) rfl
                    refine va_callv (va_runV (As := [.int (a_s_f x1_7.toNatClampNeg)]) (rest := []) ⟨hx, hb, hml, hown, hg⟩ (c_MoReader_letter l g cs ka a_sides a_ranks a_stop a_terms a_names a_s a_stack a_variables a_kept a a_word H.size (a_s_f x1_7.toNatClampNeg) a_n x1_1 a_behind a_token a_open a_number a_letters_7 a_top a_place a_variabled a_known a_rank a_word_n a_word_7f a_letters_12 a_word_f_12 hc12) (cwV (C := R_MoReader) 1 hg (gw_V wd_1198 wd_1199 wd_1200 wd_754 wd_1197) rfl rfl rfl (by decide +kernel) ⟨Nat.le_of_ble_eq_true rfl, Nat.le_of_ble_eq_true rfl⟩) ⟨gP_blind, va_recv (q0 := 1) (ci := 12) (q := (R_MoReader, F_MoReader, 22)) hK hP rfl rfl, gP_pre hPc hDc hK hgl hkn hkr hS hFc⟩ rfl rfl hl.1 rfl (lv_room (Nat.le_of_ble_eq_true rfl)) d_MoReader_scan_186 ⟨Nat.le_of_ble_eq_true rfl, Nat.le_of_ble_eq_true rfl⟩) hS (fun q _ h => hFc q h) hFc (fun u t H locs ht hvm hr12 hB hz1 hk1 hS => ?_)
                    rw [ht] at hB
                    obtain ⟨hP1, hD1⟩ := hB
                    obtain ⟨hP, hD⟩ := jn_A hP hD [1, 0] [2] rfl rfl (by decide) (by decide) hk1 hFc hP1 hD1
                    obtain ⟨hP, hD⟩ : PD g A H [(a_s, .inl (cs 1, a_s_n, .inl a_s_f)), (a, .inr (12, [.ref a_sides, .ref a_ranks, .ref a_stop, .ref a_terms, .ref a_names, .ref a_s, .int a_n, .int x1_1, .int a_behind, .int a_token, .int a_open, .long a_number, .ref a_word, .int a_letters_12, .ref a_stack, .int a_top, .int a_place, .ref a_variables, .int a_variabled, .int a_known, .int a_rank, .ref a_kept])), (a_word, .inl (cs 1, a_word_n, .inl a_word_f_12))] := ⟨hP, hD⟩
                    refine lv_iinc (k := 1) (v := x1_7 + 1) hx hb d_MoReader_scan_189 hl rfl rfl (by decide) rfl (fun ls hl => ?_)
                    have hl : lv_has ls 4 [(1, .int (x1_7 + 1)), (2, .int y0_3), (0, .ref a)] := hl
                    refine lv_goto hx hb d_MoReader_scan_192 rfl ?_
                    exact ih7 _ _ _ (x1_7 + 1) a_letters_12 a_word_f_12 (lv_sub hl [1, 0, 2] rfl) (sub3 hP hD [1, 0, 2] (by decide)) hS hok
                  refine lv_if_ne hx hb d_MoReader_scan_154 rfl (fun h13 => ?_) (fun h13 => ?_)
                  · rw [if_neg h13] at hok
                    exact J10 _ _ _ (lv_sub hl [0, 1, 2] rfl) (sub3 hP hD [0, 1, 2] (by decide)) hS hok
                  · rw [if_pos h13] at hok
                    refine lv_aload_n hx hb d_MoReader_scan_157 rfl (lv_at hl 2 rfl) ?_
                    refine lv_iload_n hx hb d_MoReader_scan_158 rfl (lv_at hl 1 rfl) ?_
                    obtain ⟨r14, hc14, hok⟩ := bd_some hok
                    obtain ⟨hPc, hDc, hFc⟩ := cut0 (wc := [(a, .inr (12, [.ref a_sides, .ref a_ranks, .ref a_stop, .ref a_terms, .ref a_names, .ref a_s, .int a_n, .int x1_1, .int a_behind, .int a_token, .int a_open, .long a_number, .ref a_word, .int a_letters_7, .ref a_stack, .int a_top, .int a_place, .ref a_variables, .int a_variabled, .int a_known, .int a_rank, .ref a_kept])), (a_s, .inl (cs 1, a_s_n, .inl a_s_f))]) hP hD hS hA [1, 2] (by decide) rfl
                    refine va_calli (va_runV (As := [.int x1_7]) (rest := []) ⟨hx, hb, hml, hown, hg⟩ (c_MoReader_look l g cs ka a_sides a_ranks a_stop a_terms a_names a_word a_stack a_variables a_kept a a_s H.size x1_7 a_n x1_1 a_behind a_token a_open a_number a_letters_7 a_top a_place a_variabled a_known a_rank a_s_n a_s_f r14 hc14) (cwV (C := R_MoReader) 1 hg (gw_V wd_1184 wd_1185 wd_1186 wd_754 wd_1183) rfl rfl rfl (by decide +kernel) ⟨Nat.le_of_ble_eq_true rfl, Nat.le_of_ble_eq_true rfl⟩) ⟨gP_blind, va_recv (q0 := 1) (ci := 12) (q := (R_MoReader, F_MoReader, 22)) hK hP rfl rfl, gP_pre hPc hDc hK hgl hkn hkr hS hFc⟩ rfl rfl hl.1 rfl (lv_room (Nat.le_of_ble_eq_true rfl)) d_MoReader_scan_159 ⟨Nat.le_of_ble_eq_true rfl, Nat.le_of_ble_eq_true rfl⟩) hS (fun q _ h => hFc q h) hFc (fun r14' u t H locs ht hvm hr14 hB hz1 hk1 hS => ?_)
                    subst hr14
                    rw [ht] at hB
                    obtain ⟨hP1, hD1⟩ := hB
                    obtain ⟨hP, hD⟩ := jn_A hP hD [1, 2] [0] rfl rfl (by decide) (by decide) hk1 hFc hP1 hD1
                    obtain ⟨hP, hD⟩ : PD g A H [(a_word, .inl (cs 1, a_word_n, .inl a_word_7f)), (a, .inr (12, [.ref a_sides, .ref a_ranks, .ref a_stop, .ref a_terms, .ref a_names, .ref a_s, .int a_n, .int x1_1, .int a_behind, .int a_token, .int a_open, .long a_number, .ref a_word, .int a_letters_7, .ref a_stack, .int a_top, .int a_place, .ref a_variables, .int a_variabled, .int a_known, .int a_rank, .ref a_kept])), (a_s, .inl (cs 1, a_s_n, .inl a_s_f))] := ⟨hP, hD⟩
                    obtain ⟨r15, hc15, hok⟩ := bd_some hok
                    obtain ⟨hPc, hDc, hFc⟩ := cut0 (wc := []) hP hD hS hA [] (by decide) rfl
                    refine va_calli (va_runS (As := [.int r14]) (rest := []) ⟨hx, hb, hml, hown, hg⟩ (c_MoReader_great l g cs ka H.size r14 r15 hc15) (va_cwS 1 hg (gw_S wd_1205 wd_1206 wd_754 wd_1204) rfl rfl rfl (by decide +kernel) ⟨Nat.le_of_ble_eq_true rfl, Nat.le_of_ble_eq_true rfl⟩) ⟨gP_blind, gP_pre hPc hDc hK hgl hkn hkr hS hFc⟩ rfl rfl hl.1 rfl (lv_room (Nat.le_of_ble_eq_true rfl)) d_MoReader_scan_162 ⟨Nat.le_of_ble_eq_true rfl, Nat.le_of_ble_eq_true rfl⟩) hS (fun q _ h => hFc q h) hFc (fun r15' u t H locs ht hvm hr15 hB hz1 hk1 hS => ?_)
                    subst hr15
                    rw [ht] at hB
                    obtain ⟨hP1, hD1⟩ := hB
                    obtain ⟨hP, hD⟩ := jn_A hP hD [] [0, 1, 2] rfl rfl (by decide) (by decide) hk1 hFc hP1 hD1
                    obtain ⟨hP, hD⟩ : PD g A H [(a_word, .inl (cs 1, a_word_n, .inl a_word_7f)), (a, .inr (12, [.ref a_sides, .ref a_ranks, .ref a_stop, .ref a_terms, .ref a_names, .ref a_s, .int a_n, .int x1_1, .int a_behind, .int a_token, .int a_open, .long a_number, .ref a_word, .int a_letters_7, .ref a_stack, .int a_top, .int a_place, .ref a_variables, .int a_variabled, .int a_known, .int a_rank, .ref a_kept])), (a_s, .inl (cs 1, a_s_n, .inl a_s_f))] := ⟨hP, hD⟩
                    refine lv_if_ne hx hb d_MoReader_scan_165 rfl (fun h16 => ?_) (fun h16 => ?_)
                    · rw [if_neg h16] at hok
                      exact J10 _ _ _ (lv_sub hl [0, 1, 2] rfl) (sub3 hP hD [0, 1, 2] (by decide)) hS hok
                    · rw [if_pos h16] at hok
                      refine lv_aload_n hx hb d_MoReader_scan_168 rfl (lv_at hl 2 rfl) ?_
                      refine lv_iload_n hx hb d_MoReader_scan_169 rfl (lv_at hl 1 rfl) ?_
                      obtain ⟨r17, hc17, hok⟩ := bd_some hok
                      obtain ⟨hPc, hDc, hFc⟩ := cut0 (wc := [(a, .inr (12, [.ref a_sides, .ref a_ranks, .ref a_stop, .ref a_terms, .ref a_names, .ref a_s, .int a_n, .int x1_1, .int a_behind, .int a_token, .int a_open, .long a_number, .ref a_word, .int a_letters_7, .ref a_stack, .int a_top, .int a_place, .ref a_variables, .int a_variabled, .int a_known, .int a_rank, .ref a_kept])), (a_s, .inl (cs 1, a_s_n, .inl a_s_f))]) hP hD hS hA [1, 2] (by decide) rfl
                      refine va_calli (va_runV (As := [.int x1_7]) (rest := []) ⟨hx, hb, hml, hown, hg⟩ (c_MoReader_look l g cs ka a_sides a_ranks a_stop a_terms a_names a_word a_stack a_variables a_kept a a_s H.size x1_7 a_n x1_1 a_behind a_token a_open a_number a_letters_7 a_top a_place a_variabled a_known a_rank a_s_n a_s_f r17 hc17) (cwV (C := R_MoReader) 1 hg (gw_V wd_1184 wd_1185 wd_1186 wd_754 wd_1183) rfl rfl rfl (by decide +kernel) ⟨Nat.le_of_ble_eq_true rfl, Nat.le_of_ble_eq_true rfl⟩) ⟨gP_blind, va_recv (q0 := 1) (ci := 12) (q := (R_MoReader, F_MoReader, 22)) hK hP rfl rfl, gP_pre hPc hDc hK hgl hkn hkr hS hFc⟩ rfl rfl hl.1 rfl (lv_room (Nat.le_of_ble_eq_true rfl)) d_MoReader_scan_170 ⟨Nat.le_of_ble_eq_true rfl, Nat.le_of_ble_eq_true rfl⟩) hS (fun q _ h => hFc q h) hFc (fun r17' u t H locs ht hvm hr17 hB hz1 hk1 hS => ?_)
                      subst hr17
                      rw [ht] at hB
                      obtain ⟨hP1, hD1⟩ := hB
                      obtain ⟨hP, hD⟩ := jn_A hP hD [1, 2] [0] rfl rfl (by decide) (by decide) hk1 hFc hP1 hD1
                      obtain ⟨hP, hD⟩ : PD g A H [(a_word, .inl (cs 1, a_word_n, .inl a_word_7f)), (a, .inr (12, [.ref a_sides, .ref a_ranks, .ref a_stop, .ref a_terms, .ref a_names, .ref a_s, .int a_n, .int x1_1, .int a_behind, .int a_token, .int a_open, .long a_number, .ref a_word, .int a_letters_7, .ref a_stack, .int a_top, .int a_place, .ref a_variables, .int a_variabled, .int a_known, .int a_rank, .ref a_kept])), (a_s, .inl (cs 1, a_s_n, .inl a_s_f))] := ⟨hP, hD⟩
                      obtain ⟨r18, hc18, hok⟩ := bd_some hok
                      obtain ⟨hPc, hDc, hFc⟩ := cut0 (wc := []) hP hD hS hA [] (by decide) rfl
                      refine va_calli (va_runS (As := [.int r17]) (rest := []) ⟨hx, hb, hml, hown, hg⟩ (c_MoReader_digit l g cs ka H.size r17 r18 hc18) (va_cwS 1 hg (gw_S wd_1188 wd_1189 wd_754 wd_1187) rfl rfl rfl (by decide +kernel) ⟨Nat.le_of_ble_eq_true rfl, Nat.le_of_ble_eq_true rfl⟩) ⟨gP_blind, gP_pre hPc hDc hK hgl hkn hkr hS hFc⟩ rfl rfl hl.1 rfl (lv_room (Nat.le_of_ble_eq_true rfl)) d_MoReader_scan_173 ⟨Nat.le_of_ble_eq_true rfl, Nat.le_of_ble_eq_true rfl⟩) hS (fun q _ h => hFc q h) hFc (fun r18' u t H locs ht hvm hr18 hB hz1 hk1 hS => ?_)
                      subst hr18
                      rw [ht] at hB
                      obtain ⟨hP1, hD1⟩ := hB
                      obtain ⟨hP, hD⟩ := jn_A hP hD [] [0, 1, 2] rfl rfl (by decide) (by decide) hk1 hFc hP1 hD1
                      obtain ⟨hP, hD⟩ : PD g A H [(a_word, .inl (cs 1, a_word_n, .inl a_word_7f)), (a, .inr (12, [.ref a_sides, .ref a_ranks, .ref a_stop, .ref a_terms, .ref a_names, .ref a_s, .int a_n, .int x1_1, .int a_behind, .int a_token, .int a_open, .long a_number, .ref a_word, .int a_letters_7, .ref a_stack, .int a_top, .int a_place, .ref a_variables, .int a_variabled, .int a_known, .int a_rank, .ref a_kept])), (a_s, .inl (cs 1, a_s_n, .inl a_s_f))] := ⟨hP, hD⟩
                      refine lv_if_eq hx hb d_MoReader_scan_176 rfl (fun h19 => ?_) (fun h19 => ?_)
                      · rw [if_pos h19] at hok
                        refine lv_aload_n hx hb d_MoReader_scan_195 rfl (lv_at hl 2 rfl) ?_
                        refine lv_iload_n hx hb d_MoReader_scan_196 rfl (lv_at hl 0 rfl) ?_
                        obtain ⟨r20, hc20, hok⟩ := bd_some hok
                        obtain ⟨hPc, hDc, hFc⟩ := cut0 (wc := []) hP hD hS hA [] (by decide) rfl
                        refine va_calli (va_runS (As := [.int y0_3]) (rest := [.ref a]) ⟨hx, hb, hml, hown, hg⟩ (c_MoReader_great l g cs ka H.size y0_3 r20 hc20) (va_cwS 1 hg (gw_S wd_1205 wd_1206 wd_754 wd_1204) rfl rfl rfl (by decide +kernel) ⟨Nat.le_of_ble_eq_true rfl, Nat.le_of_ble_eq_true rfl⟩) ⟨gP_blind, gP_pre hPc hDc hK hgl hkn hkr hS hFc⟩ rfl rfl hl.1 rfl (lv_room (Nat.le_of_ble_eq_true rfl)) d_MoReader_scan_197 ⟨Nat.le_of_ble_eq_true rfl, Nat.le_of_ble_eq_true rfl⟩) hS (fun q _ h => hFc q h) hFc (fun r20' u t H locs ht hvm hr20 hB hz1 hk1 hS => ?_)
                        subst hr20
                        rw [ht] at hB
                        obtain ⟨hP1, hD1⟩ := hB
                        obtain ⟨hP, hD⟩ := jn_A hP hD [] [0, 1, 2] rfl rfl (by decide) (by decide) hk1 hFc hP1 hD1
                        obtain ⟨hP, hD⟩ : PD g A H [(a_word, .inl (cs 1, a_word_n, .inl a_word_7f)), (a, .inr (12, [.ref a_sides, .ref a_ranks, .ref a_stop, .ref a_terms, .ref a_names, .ref a_s, .int a_n, .int x1_1, .int a_behind, .int a_token, .int a_open, .long a_number, .ref a_word, .int a_letters_7, .ref a_stack, .int a_top, .int a_place, .ref a_variables, .int a_variabled, .int a_known, .int a_rank, .ref a_kept])), (a_s, .inl (cs 1, a_s_n, .inl a_s_f))] := ⟨hP, hD⟩
                        refine lv_if_eq hx hb d_MoReader_scan_200 rfl (fun h21 => ?_) (fun h21 => ?_)
                        · rw [if_pos h21] at hok
                          refine lv_iconst (v := 3) hx hb d_MoReader_scan_207 (by decide) ?_
                          refine lv_iload_n hx hb d_MoReader_scan_208 rfl (lv_at hl 1 rfl) ?_
                          obtain ⟨⟨a_behind_22, a_token_22⟩, hc22, hok⟩ := bd_some hok
                          dsimp only at hok
                          obtain ⟨hPc, hDc, hFc⟩ := cut0 (wc := [(a, .inr (12, [.ref a_sides, .ref a_ranks, .ref a_stop, .ref a_terms, .ref a_names, .ref a_s, .int a_n, .int x1_1, .int a_behind, .int a_token, .int a_open, .long a_number, .ref a_word, .int a_letters_7, .ref a_stack, .int a_top, .int a_place, .ref a_variables, .int a_variabled, .int a_known, .int a_rank, .ref a_kept]))]) hP hD hS hA [1] (by decide) rfl
                          refine va_callv (va_runV (As := [.int 3, .int x1_7]) (rest := []) ⟨hx, hb, hml, hown, hg⟩ (c_MoReader_take l g cs ka a_sides a_ranks a_stop a_terms a_names a_s a_word a_stack a_variables a_kept a H.size (3 : Int32) x1_7 a_n x1_1 a_behind a_token a_open a_number a_letters_7 a_top a_place a_variabled a_known a_rank a_behind_22 a_token_22 hc22) (cwV (C := R_MoReader) 2 hg (gw_V wd_1192 wd_1193 wd_1194 wd_754 wd_1191) rfl rfl rfl (by decide +kernel) ⟨Nat.le_of_ble_eq_true rfl, Nat.le_of_ble_eq_true rfl⟩) ⟨gP_blind, va_recv (q0 := 1) (ci := 12) (q := (R_MoReader, F_MoReader, 22)) hK hP rfl rfl, gP_pre hPc hDc hK hgl hkn hkr hS hFc⟩ rfl rfl hl.1 rfl (lv_room (Nat.le_of_ble_eq_true rfl)) d_MoReader_scan_209 ⟨Nat.le_of_ble_eq_true rfl, Nat.le_of_ble_eq_true rfl⟩) hS (fun q _ h => hFc q h) hFc (fun u t H locs ht hvm hr22 hB hz1 hk1 hS => ?_)
                          rw [ht] at hB
                          obtain ⟨hP1, hD1⟩ := hB
                          obtain ⟨hP, hD⟩ := jn_A hP hD [1] [0, 2] rfl rfl (by decide) (by decide) hk1 hFc hP1 hD1
                          obtain ⟨hP, hD⟩ : PD g A H [(a_word, .inl (cs 1, a_word_n, .inl a_word_7f)), (a_s, .inl (cs 1, a_s_n, .inl a_s_f)), (a, .inr (12, [.ref a_sides, .ref a_ranks, .ref a_stop, .ref a_terms, .ref a_names, .ref a_s, .int a_n, .int x1_1, .int a_behind_22, .int a_token_22, .int a_open, .long a_number, .ref a_word, .int a_letters_7, .ref a_stack, .int a_top, .int a_place, .ref a_variables, .int a_variabled, .int a_known, .int a_rank, .ref a_kept]))] := ⟨hP, hD⟩
                          refine lv_goto hx hb d_MoReader_scan_212 rfl ?_
                          have hq := Option.some.inj hok
                          obtain ⟨hq0, hq⟩ := Prod.mk.inj hq
                          obtain ⟨hq1, hq⟩ := Prod.mk.inj hq
                          obtain ⟨hq2, hq⟩ := Prod.mk.inj hq
                          obtain ⟨hq3, hq⟩ := Prod.mk.inj hq
                          obtain ⟨hq4, hq⟩ := Prod.mk.inj hq
                          have hq5 := hq
                          subst hq0
                          subst hq1
                          subst hq2
                          subst hq3
                          subst hq4
                          subst hq5
                          obtain ⟨hP9, hD9⟩ := sub2 (ws' := [(a, .inr (12, [.ref a_sides, .ref a_ranks, .ref a_stop, .ref a_terms, .ref a_names, .ref a_s, .int a_n, .int x1_1, .int a_behind_22, .int a_token_22, .int a_open, .long a_number, .ref a_word, .int a_letters_7, .ref a_stack, .int a_top, .int a_place, .ref a_variables, .int a_variabled, .int a_known, .int a_rank, .ref a_kept])), (a_s, .inl (cs 1, a_s_n, .inl a_s_f)), (a_word, .inl (cs 1, a_word_n, .inl a_word_7f))]) hP hD [2, 1, 0] rfl (by decide) rfl
                          rw [hQ]
                          exact W.vret hx hb hr (fun t ht hW => ⟨⟨(), rfl, trivial, by rw [ht]; exact hP9, hD9⟩, hS.F ht⟩) hS.2.2 d_MoReader_scan_349
                        · rw [if_neg h21] at hok
                          refine lv_iconst (v := 1) hx hb d_MoReader_scan_203 (by decide) ?_
                          refine lv_goto hx hb d_MoReader_scan_204 rfl ?_
                          refine lv_iload_n hx hb d_MoReader_scan_208 rfl (lv_at hl 1 rfl) ?_
                          obtain ⟨⟨a_behind_23, a_token_23⟩, hc23, hok⟩ := bd_some hok
                          dsimp only at hok
                          obtain ⟨hPc, hDc, hFc⟩ := cut0 (wc := [(a, .inr (12, [.ref a_sides, .ref a_ranks, .ref a_stop, .ref a_terms, .ref a_names, .ref a_s, .int a_n, .int x1_1, .int a_behind, .int a_token, .int a_open, .long a_number, .ref a_word, .int a_letters_7, .ref a_stack, .int a_top, .int a_place, .ref a_variables, .int a_variabled, .int a_known, .int a_rank, .ref a_kept]))]) hP hD hS hA [1] (by decide) rfl
                          refine va_callv (va_runV (As := [.int 1, .int x1_7]) (rest := []) ⟨hx, hb, hml, hown, hg⟩ (c_MoReader_take l g cs ka a_sides a_ranks a_stop a_terms a_names a_s a_word a_stack a_variables a_kept a H.size (1 : Int32) x1_7 a_n x1_1 a_behind a_token a_open a_number a_letters_7 a_top a_place a_variabled a_known a_rank a_behind_23 a_token_23 hc23) (cwV (C := R_MoReader) 2 hg (gw_V wd_1192 wd_1193 wd_1194 wd_754 wd_1191) rfl rfl rfl (by decide +kernel) ⟨Nat.le_of_ble_eq_true rfl, Nat.le_of_ble_eq_true rfl⟩) ⟨gP_blind, va_recv (q0 := 1) (ci := 12) (q := (R_MoReader, F_MoReader, 22)) hK hP rfl rfl, gP_pre hPc hDc hK hgl hkn hkr hS hFc⟩ rfl rfl hl.1 rfl (lv_room (Nat.le_of_ble_eq_true rfl)) d_MoReader_scan_209 ⟨Nat.le_of_ble_eq_true rfl, Nat.le_of_ble_eq_true rfl⟩) hS (fun q _ h => hFc q h) hFc (fun u t H locs ht hvm hr23 hB hz1 hk1 hS => ?_)
                          rw [ht] at hB
                          obtain ⟨hP1, hD1⟩ := hB
                          obtain ⟨hP, hD⟩ := jn_A hP hD [1] [0, 2] rfl rfl (by decide) (by decide) hk1 hFc hP1 hD1
                          obtain ⟨hP, hD⟩ : PD g A H [(a_word, .inl (cs 1, a_word_n, .inl a_word_7f)), (a_s, .inl (cs 1, a_s_n, .inl a_s_f)), (a, .inr (12, [.ref a_sides, .ref a_ranks, .ref a_stop, .ref a_terms, .ref a_names, .ref a_s, .int a_n, .int x1_1, .int a_behind_23, .int a_token_23, .int a_open, .long a_number, .ref a_word, .int a_letters_7, .ref a_stack, .int a_top, .int a_place, .ref a_variables, .int a_variabled, .int a_known, .int a_rank, .ref a_kept]))] := ⟨hP, hD⟩
                          refine lv_goto hx hb d_MoReader_scan_212 rfl ?_
                          have hq := Option.some.inj hok
                          obtain ⟨hq0, hq⟩ := Prod.mk.inj hq
                          obtain ⟨hq1, hq⟩ := Prod.mk.inj hq
                          obtain ⟨hq2, hq⟩ := Prod.mk.inj hq
                          obtain ⟨hq3, hq⟩ := Prod.mk.inj hq
                          obtain ⟨hq4, hq⟩ := Prod.mk.inj hq
                          have hq5 := hq
                          subst hq0
                          subst hq1
                          subst hq2
                          subst hq3
                          subst hq4
                          subst hq5
                          obtain ⟨hP9, hD9⟩ := sub2 (ws' := [(a, .inr (12, [.ref a_sides, .ref a_ranks, .ref a_stop, .ref a_terms, .ref a_names, .ref a_s, .int a_n, .int x1_1, .int a_behind_23, .int a_token_23, .int a_open, .long a_number, .ref a_word, .int a_letters_7, .ref a_stack, .int a_top, .int a_place, .ref a_variables, .int a_variabled, .int a_known, .int a_rank, .ref a_kept])), (a_s, .inl (cs 1, a_s_n, .inl a_s_f)), (a_word, .inl (cs 1, a_word_n, .inl a_word_7f))]) hP hD [2, 1, 0] rfl (by decide) rfl
                          rw [hQ]
                          exact W.vret hx hb hr (fun t ht hW => ⟨⟨(), rfl, trivial, by rw [ht]; exact hP9, hD9⟩, hS.F ht⟩) hS.2.2 d_MoReader_scan_349
                      · rw [if_neg h19] at hok
                        exact J10 _ _ _ (lv_sub hl [0, 1, 2] rfl) (sub3 hP hD [0, 1, 2] (by decide)) hS hok
              exact J7 n H locs ls x1_1 (0 : Int32) a_word_f hl ⟨hP, hD⟩ hS hok
            · rw [if_pos h6] at hok
              refine lv_iload_n hx hb d_MoReader_scan_139 rfl (lv_at hl 0 rfl) ?_
              obtain ⟨r24, hc24, hok⟩ := bd_some hok
              obtain ⟨hPc, hDc, hFc⟩ := cut0 (wc := []) hP hD hS hA [] (by decide) rfl
              refine va_calli (va_runS (As := [.int y0_3]) (rest := []) ⟨hx, hb, hml, hown, hg⟩ (c_MoReader_great l g cs ka H.size y0_3 r24 hc24) (va_cwS 1 hg (gw_S wd_1205 wd_1206 wd_754 wd_1204) rfl rfl rfl (by decide +kernel) ⟨Nat.le_of_ble_eq_true rfl, Nat.le_of_ble_eq_true rfl⟩) ⟨gP_blind, gP_pre hPc hDc hK hgl hkn hkr hS hFc⟩ rfl rfl hl.1 rfl (lv_room (Nat.le_of_ble_eq_true rfl)) d_MoReader_scan_140 ⟨Nat.le_of_ble_eq_true rfl, Nat.le_of_ble_eq_true rfl⟩) hS (fun q _ h => hFc q h) hFc (fun r24' u t H locs ht hvm hr24 hB hz1 hk1 hS => ?_)
              subst hr24
              rw [ht] at hB
              obtain ⟨hP1, hD1⟩ := hB
              obtain ⟨hP, hD⟩ := jn_A hP hD [] [0, 1, 2] rfl rfl (by decide) (by decide) hk1 hFc hP1 hD1
              obtain ⟨hP, hD⟩ : PD g A H [(a, .inr (12, [.ref a_sides, .ref a_ranks, .ref a_stop, .ref a_terms, .ref a_names, .ref a_s, .int a_n, .int x1_1, .int a_behind, .int a_token, .int a_open, .long a_number, .ref a_word, .int 0, .ref a_stack, .int a_top, .int a_place, .ref a_variables, .int a_variabled, .int a_known, .int a_rank, .ref a_kept])), (a_s, .inl (cs 1, a_s_n, .inl a_s_f)), (a_word, .inl (cs 1, a_word_n, .inl a_word_f))] := ⟨hP, hD⟩
              refine lv_if_eq hx hb d_MoReader_scan_143 rfl (fun h25 => ?_) (fun h25 => ?_)
              · rw [if_pos h25] at hok
                refine lv_iload_n hx hb d_MoReader_scan_215 rfl (lv_at hl 0 rfl) ?_
                obtain ⟨r26, hc26, hok⟩ := bd_some hok
                obtain ⟨hPc, hDc, hFc⟩ := cut0 (wc := []) hP hD hS hA [] (by decide) rfl
                refine va_calli (va_runS (As := [.int y0_3]) (rest := []) ⟨hx, hb, hml, hown, hg⟩ (c_MoReader_digit l g cs ka H.size y0_3 r26 hc26) (va_cwS 1 hg (gw_S wd_1188 wd_1189 wd_754 wd_1187) rfl rfl rfl (by decide +kernel) ⟨Nat.le_of_ble_eq_true rfl, Nat.le_of_ble_eq_true rfl⟩) ⟨gP_blind, gP_pre hPc hDc hK hgl hkn hkr hS hFc⟩ rfl rfl hl.1 rfl (lv_room (Nat.le_of_ble_eq_true rfl)) d_MoReader_scan_216 ⟨Nat.le_of_ble_eq_true rfl, Nat.le_of_ble_eq_true rfl⟩) hS (fun q _ h => hFc q h) hFc (fun r26' u t H locs ht hvm hr26 hB hz1 hk1 hS => ?_)
                subst hr26
                rw [ht] at hB
                obtain ⟨hP1, hD1⟩ := hB
                obtain ⟨hP, hD⟩ := jn_A hP hD [] [0, 1, 2] rfl rfl (by decide) (by decide) hk1 hFc hP1 hD1
                obtain ⟨hP, hD⟩ : PD g A H [(a, .inr (12, [.ref a_sides, .ref a_ranks, .ref a_stop, .ref a_terms, .ref a_names, .ref a_s, .int a_n, .int x1_1, .int a_behind, .int a_token, .int a_open, .long a_number, .ref a_word, .int 0, .ref a_stack, .int a_top, .int a_place, .ref a_variables, .int a_variabled, .int a_known, .int a_rank, .ref a_kept])), (a_s, .inl (cs 1, a_s_n, .inl a_s_f)), (a_word, .inl (cs 1, a_word_n, .inl a_word_f))] := ⟨hP, hD⟩
                refine lv_if_eq hx hb d_MoReader_scan_219 rfl (fun h27 => ?_) (fun h27 => ?_)
                · rw [if_pos h27] at hok
                  refine lv_iload_n hx hb d_MoReader_scan_229 rfl (lv_at hl 0 rfl) ?_
                  refine lv_bipush (v := 39) hx hb d_MoReader_scan_230 (by decide) ?_
                  refine lv_icmp_ne hx hb d_MoReader_scan_232 rfl (fun h28 => ?_) (fun h28 => ?_)
                  · rw [if_neg h28] at hok
                    refine lv_iload_n hx hb d_MoReader_scan_242 rfl (lv_at hl 0 rfl) ?_
                    obtain ⟨r29, hc29, hok⟩ := bd_some hok
                    obtain ⟨hPc, hDc, hFc⟩ := cut0 (wc := []) hP hD hS hA [] (by decide) rfl
                    refine va_calli (va_runS (As := [.int y0_3]) (rest := []) ⟨hx, hb, hml, hown, hg⟩ (c_MoReader_symbol l g cs ka H.size n y0_3 r29 hc29) (va_cwS 1 hg (gw_S wd_1207 wd_756 wd_754 wd_753) rfl rfl rfl (by decide +kernel) ⟨Nat.le_of_ble_eq_true rfl, Nat.le_of_ble_eq_true rfl⟩) ⟨gP_blind, gP_pre hPc hDc hK hgl hkn hkr hS hFc⟩ rfl rfl hl.1 rfl (lv_room (Nat.le_of_ble_eq_true rfl)) d_MoReader_scan_243 ⟨Nat.le_of_ble_eq_true rfl, Nat.le_of_ble_eq_true rfl⟩) hS (fun q _ h => hFc q h) hFc (fun r29' u t H locs ht hvm hr29 hB hz1 hk1 hS => ?_)
                    subst hr29
                    rw [ht] at hB
                    obtain ⟨hP1, hD1⟩ := hB
                    obtain ⟨hP, hD⟩ := jn_A hP hD [] [0, 1, 2] rfl rfl (by decide) (by decide) hk1 hFc hP1 hD1
                    obtain ⟨hP, hD⟩ : PD g A H [(a, .inr (12, [.ref a_sides, .ref a_ranks, .ref a_stop, .ref a_terms, .ref a_names, .ref a_s, .int a_n, .int x1_1, .int a_behind, .int a_token, .int a_open, .long a_number, .ref a_word, .int 0, .ref a_stack, .int a_top, .int a_place, .ref a_variables, .int a_variabled, .int a_known, .int a_rank, .ref a_kept])), (a_s, .inl (cs 1, a_s_n, .inl a_s_f)), (a_word, .inl (cs 1, a_word_n, .inl a_word_f))] := ⟨hP, hD⟩
                    refine lv_if_eq hx hb d_MoReader_scan_246 rfl (fun h30 => ?_) (fun h30 => ?_)
                    · rw [if_pos h30] at hok
                      refine lv_aload_n hx hb d_MoReader_scan_344 rfl (lv_at hl 2 rfl) ?_
                      refine lv_iload_n hx hb d_MoReader_scan_345 rfl (lv_at hl 0 rfl) ?_
                      obtain ⟨⟨a_behind_31, a_token_31, a_letters_31, a_word_f_31⟩, hc31, hok⟩ := bd_some hok
                      dsimp only at hok
                      obtain ⟨hPc, hDc, hFc⟩ := cut0 (wc := [(a, .inr (12, [.ref a_sides, .ref a_ranks, .ref a_stop, .ref a_terms, .ref a_names, .ref a_s, .int a_n, .int x1_1, .int a_behind, .int a_token, .int a_open, .long a_number, .ref a_word, .int 0, .ref a_stack, .int a_top, .int a_place, .ref a_variables, .int a_variabled, .int a_known, .int a_rank, .ref a_kept])), (a_s, .inl (cs 1, a_s_n, .inl a_s_f)), (a_word, .inl (cs 1, a_word_n, .inl a_word_f))]) hP hD hS hA [0, 1, 2] (by decide) rfl
                      refine va_callv (va_runV (As := [.int y0_3]) (rest := []) ⟨hx, hb, hml, hown, hg⟩ (c_MoReader_sign l g cs ka a_sides a_ranks a_stop a_terms a_names a_stack a_variables a_kept a a_s a_word H.size y0_3 a_n x1_1 a_behind a_token a_open a_number (0 : Int32) a_top a_place a_variabled a_known a_rank a_s_n a_s_f a_word_n a_word_f a_behind_31 a_token_31 a_letters_31 a_word_f_31 hc31) (cwV (C := R_MoReader) 1 hg (gw_V wd_1209 wd_1210 wd_1211 wd_754 wd_1208) rfl rfl rfl (by decide +kernel) ⟨Nat.le_of_ble_eq_true rfl, Nat.le_of_ble_eq_true rfl⟩) ⟨gP_blind, va_recv (q0 := 0) (ci := 12) (q := (R_MoReader, F_MoReader, 22)) hK hP rfl rfl, gP_pre hPc hDc hK hgl hkn hkr hS hFc⟩ rfl rfl hl.1 rfl (lv_room (Nat.le_of_ble_eq_true rfl)) d_MoReader_scan_346 ⟨Nat.le_of_ble_eq_true rfl, Nat.le_of_ble_eq_true rfl⟩) hS (fun q _ h => hFc q h) hFc (fun u t H locs ht hvm hr31 hB hz1 hk1 hS => ?_)
                      rw [ht] at hB
                      obtain ⟨hP1, hD1⟩ := hB
                      obtain ⟨hP, hD⟩ := jn_A hP hD [0, 1, 2] [] rfl rfl (by decide) (by decide) hk1 hFc hP1 hD1
                      obtain ⟨hP, hD⟩ : PD g A H [(a, .inr (12, [.ref a_sides, .ref a_ranks, .ref a_stop, .ref a_terms, .ref a_names, .ref a_s, .int a_n, .int x1_1, .int a_behind_31, .int a_token_31, .int a_open, .long a_number, .ref a_word, .int a_letters_31, .ref a_stack, .int a_top, .int a_place, .ref a_variables, .int a_variabled, .int a_known, .int a_rank, .ref a_kept])), (a_s, .inl (cs 1, a_s_n, .inl a_s_f)), (a_word, .inl (cs 1, a_word_n, .inl a_word_f_31))] := ⟨hP, hD⟩
                      have hq := Option.some.inj hok
                      obtain ⟨hq0, hq⟩ := Prod.mk.inj hq
                      obtain ⟨hq1, hq⟩ := Prod.mk.inj hq
                      obtain ⟨hq2, hq⟩ := Prod.mk.inj hq
                      obtain ⟨hq3, hq⟩ := Prod.mk.inj hq
                      obtain ⟨hq4, hq⟩ := Prod.mk.inj hq
                      have hq5 := hq
                      subst hq0
                      subst hq1
                      subst hq2
                      subst hq3
                      subst hq4
                      subst hq5
                      obtain ⟨hP9, hD9⟩ := sub2 (ws' := [(a, .inr (12, [.ref a_sides, .ref a_ranks, .ref a_stop, .ref a_terms, .ref a_names, .ref a_s, .int a_n, .int x1_1, .int a_behind_31, .int a_token_31, .int a_open, .long a_number, .ref a_word, .int a_letters_31, .ref a_stack, .int a_top, .int a_place, .ref a_variables, .int a_variabled, .int a_known, .int a_rank, .ref a_kept])), (a_s, .inl (cs 1, a_s_n, .inl a_s_f)), (a_word, .inl (cs 1, a_word_n, .inl a_word_f_31))]) hP hD [0, 1, 2] rfl (by decide) rfl
                      rw [hQ]
                      exact W.vret hx hb hr (fun t ht hW => ⟨⟨(), rfl, trivial, by rw [ht]; exact hP9, hD9⟩, hS.F ht⟩) hS.2.2 d_MoReader_scan_349
                    · rw [if_neg h30] at hok
                      have J32 : ∀ (kf32 : Nat) (H : Heap) (locs : List Loc) (ls : Array Slot) (x1_32 : Int32) (a_letters_32 : Int32) (a_word_32f : Nat → Int32), lv_has ls 4 [(2, .int y0_3), (1, .int x1_32), (0, .ref a)] → PD g A H [(a, .inr (12, [.ref a_sides, .ref a_ranks, .ref a_stop, .ref a_terms, .ref a_names, .ref a_s, .int a_n, .int x1_1, .int a_behind, .int a_token, .int a_open, .long a_number, .ref a_word, .int a_letters_32, .ref a_stack, .int a_top, .int a_place, .ref a_variables, .int a_variabled, .int a_known, .int a_rank, .ref a_kept])), (a_s, .inl (cs 1, a_s_n, .inl a_s_f)), (a_word, .inl (cs 1, a_word_n, .inl a_word_32f))] → va_S A s.heap H locs → p_MoReader_scan_249 n a_n a_behind a_token a_open a_number a_top a_place a_variabled a_known a_rank a_s_n a_s_f a_word_n x1_1 y0_3 kf32 x1_32 a_letters_32 a_word_32f = some (o_a_at, o_a_behind, o_a_token, o_a_number, o_a_letters, o_a_word_f) → W p l e (headSpec (.code y_MoReader_scan b_MoReader_scan 4 none :: GW) { frames := 5, cells := 0, slots := 0, locals := 111 }).room s m ([.ref a] : List Value).toArray below meth c H locs 0 0 Q (F0 m 249 ls []) := by
                        intro kf32
                        induction kf32 with
                        | zero => intro H locs ls x1_32 a_letters_32 a_word_32f hl ⟨hP, hD⟩ hS hok; rw [p_MoReader_scan_249] at hok; cases hok
                        | succ kf32 ih32 =>
                          intro H locs ls x1_32 a_letters_32 a_word_32f hl ⟨hP, hD⟩ hS hok
                          rw [p_MoReader_scan_249] at hok
                          refine lv_aload_n hx hb d_MoReader_scan_249 rfl (lv_at hl 2 rfl) ?_
                          refine lv_iload_n hx hb d_MoReader_scan_250 rfl (lv_at hl 1 rfl) ?_
                          obtain ⟨r33, hc33, hok⟩ := bd_some hok
                          obtain ⟨hPc, hDc, hFc⟩ := cut0 (wc := [(a, .inr (12, [.ref a_sides, .ref a_ranks, .ref a_stop, .ref a_terms, .ref a_names, .ref a_s, .int a_n, .int x1_1, .int a_behind, .int a_token, .int a_open, .long a_number, .ref a_word, .int a_letters_32, .ref a_stack, .int a_top, .int a_place, .ref a_variables, .int a_variabled, .int a_known, .int a_rank, .ref a_kept])), (a_s, .inl (cs 1, a_s_n, .inl a_s_f))]) hP hD hS hA [0, 1] (by decide) rfl
                          refine va_calli (va_runV (As := [.int x1_32]) (rest := []) ⟨hx, hb, hml, hown, hg⟩ (c_MoReader_look l g cs ka a_sides a_ranks a_stop a_terms a_names a_word a_stack a_variables a_kept a a_s H.size x1_32 a_n x1_1 a_behind a_token a_open a_number a_letters_32 a_top a_place a_variabled a_known a_rank a_s_n a_s_f r33 hc33) (cwV (C := R_MoReader) 1 hg (gw_V wd_1184 wd_1185 wd_1186 wd_754 wd_1183) rfl rfl rfl (by decide +kernel) ⟨Nat.le_of_ble_eq_true rfl, Nat.le_of_ble_eq_true rfl⟩) ⟨gP_blind, va_recv (q0 := 0) (ci := 12) (q := (R_MoReader, F_MoReader, 22)) hK hP rfl rfl, gP_pre hPc hDc hK hgl hkn hkr hS hFc⟩ rfl rfl hl.1 rfl (lv_room (Nat.le_of_ble_eq_true rfl)) d_MoReader_scan_251 ⟨Nat.le_of_ble_eq_true rfl, Nat.le_of_ble_eq_true rfl⟩) hS (fun q _ h => hFc q h) hFc (fun r33' u t H locs ht hvm hr33 hB hz1 hk1 hS => ?_)
                          subst hr33
                          rw [ht] at hB
                          obtain ⟨hP1, hD1⟩ := hB
                          obtain ⟨hP, hD⟩ := jn_A hP hD [0, 1] [2] rfl rfl (by decide) (by decide) hk1 hFc hP1 hD1
                          obtain ⟨hP, hD⟩ : PD g A H [(a_word, .inl (cs 1, a_word_n, .inl a_word_32f)), (a, .inr (12, [.ref a_sides, .ref a_ranks, .ref a_stop, .ref a_terms, .ref a_names, .ref a_s, .int a_n, .int x1_1, .int a_behind, .int a_token, .int a_open, .long a_number, .ref a_word, .int a_letters_32, .ref a_stack, .int a_top, .int a_place, .ref a_variables, .int a_variabled, .int a_known, .int a_rank, .ref a_kept])), (a_s, .inl (cs 1, a_s_n, .inl a_s_f))] := ⟨hP, hD⟩
                          obtain ⟨r34, hc34, hok⟩ := bd_some hok
                          obtain ⟨hPc, hDc, hFc⟩ := cut0 (wc := []) hP hD hS hA [] (by decide) rfl
                          refine va_calli (va_runS (As := [.int r33]) (rest := []) ⟨hx, hb, hml, hown, hg⟩ (c_MoReader_symbol l g cs ka H.size n r33 r34 hc34) (va_cwS 1 hg (gw_S wd_1207 wd_756 wd_754 wd_753) rfl rfl rfl (by decide +kernel) ⟨Nat.le_of_ble_eq_true rfl, Nat.le_of_ble_eq_true rfl⟩) ⟨gP_blind, gP_pre hPc hDc hK hgl hkn hkr hS hFc⟩ rfl rfl hl.1 rfl (lv_room (Nat.le_of_ble_eq_true rfl)) d_MoReader_scan_254 ⟨Nat.le_of_ble_eq_true rfl, Nat.le_of_ble_eq_true rfl⟩) hS (fun q _ h => hFc q h) hFc (fun r34' u t H locs ht hvm hr34 hB hz1 hk1 hS => ?_)
                          subst hr34
                          rw [ht] at hB
                          obtain ⟨hP1, hD1⟩ := hB
                          obtain ⟨hP, hD⟩ := jn_A hP hD [] [0, 1, 2] rfl rfl (by decide) (by decide) hk1 hFc hP1 hD1
                          obtain ⟨hP, hD⟩ : PD g A H [(a_word, .inl (cs 1, a_word_n, .inl a_word_32f)), (a, .inr (12, [.ref a_sides, .ref a_ranks, .ref a_stop, .ref a_terms, .ref a_names, .ref a_s, .int a_n, .int x1_1, .int a_behind, .int a_token, .int a_open, .long a_number, .ref a_word, .int a_letters_32, .ref a_stack, .int a_top, .int a_place, .ref a_variables, .int a_variabled, .int a_known, .int a_rank, .ref a_kept])), (a_s, .inl (cs 1, a_s_n, .inl a_s_f))] := ⟨hP, hD⟩
                          refine lv_if_eq hx hb d_MoReader_scan_257 rfl (fun h35 => ?_) (fun h35 => ?_)
                          · rw [if_pos h35] at hok
                            refine lv_aload_n hx hb d_MoReader_scan_276 rfl (lv_at hl 2 rfl) ?_
                            refine va_get (D := g) (ci := 12) (v := .int a_letters_32) (C := R_MoReader) (T := F_MoReader) (N := 22) hx hb hg ul_MoReader hown hK hP 1 rfl rfl 13 (by decide) (hg _ wd_1178) (fun _ h9 => h9) rfl d_MoReader_scan_277 ?_
                            refine lv_iconst (v := 1) hx hb d_MoReader_scan_280 (by decide) ?_
                            have J36 : ∀ (H : Heap) (locs : List Loc) (ls : Array Slot) (y0_36 : Int32), lv_has ls 4 [(2, .int y0_3), (1, .int x1_32), (0, .ref a)] → PD g A H [(a_word, .inl (cs 1, a_word_n, .inl a_word_32f)), (a, .inr (12, [.ref a_sides, .ref a_ranks, .ref a_stop, .ref a_terms, .ref a_names, .ref a_s, .int a_n, .int x1_1, .int a_behind, .int a_token, .int a_open, .long a_number, .ref a_word, .int a_letters_32, .ref a_stack, .int a_top, .int a_place, .ref a_variables, .int a_variabled, .int a_known, .int a_rank, .ref a_kept])), (a_s, .inl (cs 1, a_s_n, .inl a_s_f))] → va_S A s.heap H locs → p_MoReader_scan_326 n a_n a_behind a_token a_open a_number a_top a_place a_variabled a_known a_rank x1_1 x1_32 a_letters_32 a_word_32f y0_36 = some (o_a_at, o_a_behind, o_a_token, o_a_number, o_a_letters, o_a_word_f) → W p l e (headSpec (.code y_MoReader_scan b_MoReader_scan 4 none :: GW) { frames := 5, cells := 0, slots := 0, locals := 111 }).room s m ([.ref a] : List Value).toArray below meth c H locs 0 0 Q (F0 m 326 ls [.int y0_36]) := by
                              intro H locs ls y0_36 hl ⟨hP, hD⟩ hS hok
                              unfold p_MoReader_scan_326 at hok
                              refine lv_istore_n hx hb d_MoReader_scan_326 rfl hl (by decide) rfl (fun ls hl => ?_)
                              have hl : lv_has ls 4 [(3, .int y0_36), (2, .int y0_3), (1, .int x1_32), (0, .ref a)] := hl
                              refine lv_aload_n hx hb d_MoReader_scan_327 rfl (lv_at hl 3 rfl) ?_
                              refine lv_iload_n hx hb d_MoReader_scan_328 rfl (lv_at hl 0 rfl) ?_
                              refine lv_if_eq hx hb d_MoReader_scan_329 rfl (fun h37 => ?_) (fun h37 => ?_)
                              · rw [if_pos h37] at hok
                                refine lv_iconst (v := 3) hx hb d_MoReader_scan_336 (by decide) ?_
                                refine lv_iload_n hx hb d_MoReader_scan_337 rfl (lv_at hl 2 rfl) ?_
                                obtain ⟨⟨a_behind_38, a_token_38⟩, hc38, hok⟩ := bd_some hok
                                dsimp only at hok
                                obtain ⟨hPc, hDc, hFc⟩ := cut0 (wc := [(a, .inr (12, [.ref a_sides, .ref a_ranks, .ref a_stop, .ref a_terms, .ref a_names, .ref a_s, .int a_n, .int x1_1, .int a_behind, .int a_token, .int a_open, .long a_number, .ref a_word, .int a_letters_32, .ref a_stack, .int a_top, .int a_place, .ref a_variables, .int a_variabled, .int a_known, .int a_rank, .ref a_kept]))]) hP hD hS hA [1] (by decide) rfl
                                refine va_callv (va_runV (As := [.int 3, .int x1_32]) (rest := []) ⟨hx, hb, hml, hown, hg⟩ (c_MoReader_take l g cs ka a_sides a_ranks a_stop a_terms a_names a_s a_word a_stack a_variables a_kept a H.size (3 : Int32) x1_32 a_n x1_1 a_behind a_token a_open a_number a_letters_32 a_top a_place a_variabled a_known a_rank a_behind_38 a_token_38 hc38) (cwV (C := R_MoReader) 2 hg (gw_V wd_1192 wd_1193 wd_1194 wd_754 wd_1191) rfl rfl rfl (by decide +kernel) ⟨Nat.le_of_ble_eq_true rfl, Nat.le_of_ble_eq_true rfl⟩) ⟨gP_blind, va_recv (q0 := 1) (ci := 12) (q := (R_MoReader, F_MoReader, 22)) hK hP rfl rfl, gP_pre hPc hDc hK hgl hkn hkr hS hFc⟩ rfl rfl hl.1 rfl (lv_room (Nat.le_of_ble_eq_true rfl)) d_MoReader_scan_338 ⟨Nat.le_of_ble_eq_true rfl, Nat.le_of_ble_eq_true rfl⟩) hS (fun q _ h => hFc q h) hFc (fun u t H locs ht hvm hr38 hB hz1 hk1 hS => ?_)
                                rw [ht] at hB
                                obtain ⟨hP1, hD1⟩ := hB
                                obtain ⟨hP, hD⟩ := jn_A hP hD [1] [0, 2] rfl rfl (by decide) (by decide) hk1 hFc hP1 hD1
                                obtain ⟨hP, hD⟩ : PD g A H [(a_word, .inl (cs 1, a_word_n, .inl a_word_32f)), (a_s, .inl (cs 1, a_s_n, .inl a_s_f)), (a, .inr (12, [.ref a_sides, .ref a_ranks, .ref a_stop, .ref a_terms, .ref a_names, .ref a_s, .int a_n, .int x1_1, .int a_behind_38, .int a_token_38, .int a_open, .long a_number, .ref a_word, .int a_letters_32, .ref a_stack, .int a_top, .int a_place, .ref a_variables, .int a_variabled, .int a_known, .int a_rank, .ref a_kept]))] := ⟨hP, hD⟩
                                refine lv_goto hx hb d_MoReader_scan_341 rfl ?_
                                have hq := Option.some.inj hok
                                obtain ⟨hq0, hq⟩ := Prod.mk.inj hq
                                obtain ⟨hq1, hq⟩ := Prod.mk.inj hq
                                obtain ⟨hq2, hq⟩ := Prod.mk.inj hq
                                obtain ⟨hq3, hq⟩ := Prod.mk.inj hq
                                obtain ⟨hq4, hq⟩ := Prod.mk.inj hq
                                have hq5 := hq
                                subst hq0
                                subst hq1
                                subst hq2
                                subst hq3
                                subst hq4
                                subst hq5
                                obtain ⟨hP9, hD9⟩ := sub2 (ws' := [(a, .inr (12, [.ref a_sides, .ref a_ranks, .ref a_stop, .ref a_terms, .ref a_names, .ref a_s, .int a_n, .int x1_1, .int a_behind_38, .int a_token_38, .int a_open, .long a_number, .ref a_word, .int a_letters_32, .ref a_stack, .int a_top, .int a_place, .ref a_variables, .int a_variabled, .int a_known, .int a_rank, .ref a_kept])), (a_s, .inl (cs 1, a_s_n, .inl a_s_f)), (a_word, .inl (cs 1, a_word_n, .inl a_word_32f))]) hP hD [2, 1, 0] rfl (by decide) rfl
                                rw [hQ]
                                exact W.vret hx hb hr (fun t ht hW => ⟨⟨(), rfl, trivial, by rw [ht]; exact hP9, hD9⟩, hS.F ht⟩) hS.2.2 d_MoReader_scan_349
                              · rw [if_neg h37] at hok
                                refine lv_iconst (v := 0) hx hb d_MoReader_scan_332 (by decide) ?_
                                refine lv_goto hx hb d_MoReader_scan_333 rfl ?_
                                refine lv_iload_n hx hb d_MoReader_scan_337 rfl (lv_at hl 2 rfl) ?_
                                obtain ⟨⟨a_behind_39, a_token_39⟩, hc39, hok⟩ := bd_some hok
                                dsimp only at hok
                                obtain ⟨hPc, hDc, hFc⟩ := cut0 (wc := [(a, .inr (12, [.ref a_sides, .ref a_ranks, .ref a_stop, .ref a_terms, .ref a_names, .ref a_s, .int a_n, .int x1_1, .int a_behind, .int a_token, .int a_open, .long a_number, .ref a_word, .int a_letters_32, .ref a_stack, .int a_top, .int a_place, .ref a_variables, .int a_variabled, .int a_known, .int a_rank, .ref a_kept]))]) hP hD hS hA [1] (by decide) rfl
                                refine va_callv (va_runV (As := [.int 0, .int x1_32]) (rest := []) ⟨hx, hb, hml, hown, hg⟩ (c_MoReader_take l g cs ka a_sides a_ranks a_stop a_terms a_names a_s a_word a_stack a_variables a_kept a H.size (0 : Int32) x1_32 a_n x1_1 a_behind a_token a_open a_number a_letters_32 a_top a_place a_variabled a_known a_rank a_behind_39 a_token_39 hc39) (cwV (C := R_MoReader) 2 hg (gw_V wd_1192 wd_1193 wd_1194 wd_754 wd_1191) rfl rfl rfl (by decide +kernel) ⟨Nat.le_of_ble_eq_true rfl, Nat.le_of_ble_eq_true rfl⟩) ⟨gP_blind, va_recv (q0 := 1) (ci := 12) (q := (R_MoReader, F_MoReader, 22)) hK hP rfl rfl, gP_pre hPc hDc hK hgl hkn hkr hS hFc⟩ rfl rfl hl.1 rfl (lv_room (Nat.le_of_ble_eq_true rfl)) d_MoReader_scan_338 ⟨Nat.le_of_ble_eq_true rfl, Nat.le_of_ble_eq_true rfl⟩) hS (fun q _ h => hFc q h) hFc (fun u t H locs ht hvm hr39 hB hz1 hk1 hS => ?_)
                                rw [ht] at hB
                                obtain ⟨hP1, hD1⟩ := hB
                                obtain ⟨hP, hD⟩ := jn_A hP hD [1] [0, 2] rfl rfl (by decide) (by decide) hk1 hFc hP1 hD1
                                obtain ⟨hP, hD⟩ : PD g A H [(a_word, .inl (cs 1, a_word_n, .inl a_word_32f)), (a_s, .inl (cs 1, a_s_n, .inl a_s_f)), (a, .inr (12, [.ref a_sides, .ref a_ranks, .ref a_stop, .ref a_terms, .ref a_names, .ref a_s, .int a_n, .int x1_1, .int a_behind_39, .int a_token_39, .int a_open, .long a_number, .ref a_word, .int a_letters_32, .ref a_stack, .int a_top, .int a_place, .ref a_variables, .int a_variabled, .int a_known, .int a_rank, .ref a_kept]))] := ⟨hP, hD⟩
                                refine lv_goto hx hb d_MoReader_scan_341 rfl ?_
                                have hq := Option.some.inj hok
                                obtain ⟨hq0, hq⟩ := Prod.mk.inj hq
                                obtain ⟨hq1, hq⟩ := Prod.mk.inj hq
                                obtain ⟨hq2, hq⟩ := Prod.mk.inj hq
                                obtain ⟨hq3, hq⟩ := Prod.mk.inj hq
                                obtain ⟨hq4, hq⟩ := Prod.mk.inj hq
                                have hq5 := hq
                                subst hq0
                                subst hq1
                                subst hq2
                                subst hq3
                                subst hq4
                                subst hq5
                                obtain ⟨hP9, hD9⟩ := sub2 (ws' := [(a, .inr (12, [.ref a_sides, .ref a_ranks, .ref a_stop, .ref a_terms, .ref a_names, .ref a_s, .int a_n, .int x1_1, .int a_behind_39, .int a_token_39, .int a_open, .long a_number, .ref a_word, .int a_letters_32, .ref a_stack, .int a_top, .int a_place, .ref a_variables, .int a_variabled, .int a_known, .int a_rank, .ref a_kept])), (a_s, .inl (cs 1, a_s_n, .inl a_s_f)), (a_word, .inl (cs 1, a_word_n, .inl a_word_32f))]) hP hD [2, 1, 0] rfl (by decide) rfl
                                rw [hQ]
                                exact W.vret hx hb hr (fun t ht hW => ⟨⟨(), rfl, trivial, by rw [ht]; exact hP9, hD9⟩, hS.F ht⟩) hS.2.2 d_MoReader_scan_349
                            have J40 : ∀ (H : Heap) (locs : List Loc) (ls : Array Slot), lv_has ls 4 [(2, .int y0_3), (1, .int x1_32), (0, .ref a)] → PD g A H [(a_word, .inl (cs 1, a_word_n, .inl a_word_32f)), (a, .inr (12, [.ref a_sides, .ref a_ranks, .ref a_stop, .ref a_terms, .ref a_names, .ref a_s, .int a_n, .int x1_1, .int a_behind, .int a_token, .int a_open, .long a_number, .ref a_word, .int a_letters_32, .ref a_stack, .int a_top, .int a_place, .ref a_variables, .int a_variabled, .int a_known, .int a_rank, .ref a_kept])), (a_s, .inl (cs 1, a_s_n, .inl a_s_f))] → va_S A s.heap H locs → p_MoReader_scan_325 n a_n a_behind a_token a_open a_number a_top a_place a_variabled a_known a_rank x1_1 x1_32 a_letters_32 a_word_32f = some (o_a_at, o_a_behind, o_a_token, o_a_number, o_a_letters, o_a_word_f) → W p l e (headSpec (.code y_MoReader_scan b_MoReader_scan 4 none :: GW) { frames := 5, cells := 0, slots := 0, locals := 111 }).room s m ([.ref a] : List Value).toArray below meth c H locs 0 0 Q (F0 m 325 ls []) := by
                              intro H locs ls hl ⟨hP, hD⟩ hS hok
                              unfold p_MoReader_scan_325 at hok
                              refine lv_iconst (v := 0) hx hb d_MoReader_scan_325 (by decide) ?_
                              exact J36 _ _ _ (0 : Int32) (lv_sub hl [0, 1, 2] rfl) (sub3 hP hD [0, 1, 2] (by decide)) hS hok
                            refine lv_icmp_ne hx hb d_MoReader_scan_281 rfl (fun h41 => ?_) (fun h41 => ?_)
                            · rw [if_neg h41] at hok
                              exact J40 _ _ _ (lv_sub hl [0, 1, 2] rfl) (sub3 hP hD [0, 1, 2] (by decide)) hS hok
                            · rw [if_pos h41] at hok
                              refine lv_iload_n hx hb d_MoReader_scan_284 rfl (lv_at hl 0 rfl) ?_
                              refine lv_bipush (v := 46) hx hb d_MoReader_scan_285 (by decide) ?_
                              refine lv_icmp_ne hx hb d_MoReader_scan_287 rfl (fun h42 => ?_) (fun h42 => ?_)
                              · rw [if_neg h42] at hok
                                exact J40 _ _ _ (lv_sub hl [0, 1, 2] rfl) (sub3 hP hD [0, 1, 2] (by decide)) hS hok
                              · rw [if_pos h42] at hok
                                refine lv_iload_n hx hb d_MoReader_scan_290 rfl (lv_at hl 1 rfl) ?_
                                refine lv_aload_n hx hb d_MoReader_scan_291 rfl (lv_at hl 2 rfl) ?_
                                refine va_get (D := g) (ci := 12) (v := .int a_n) (C := R_MoReader) (T := F_MoReader) (N := 22) hx hb hg ul_MoReader hown hK hP 1 rfl rfl 6 (by decide) (hg _ wd_1175) (fun _ h9 => h9) rfl d_MoReader_scan_292 ?_
                                have J43 : ∀ (H : Heap) (locs : List Loc) (ls : Array Slot), lv_has ls 4 [(2, .int y0_3), (1, .int x1_32), (0, .ref a)] → PD g A H [(a_word, .inl (cs 1, a_word_n, .inl a_word_32f)), (a, .inr (12, [.ref a_sides, .ref a_ranks, .ref a_stop, .ref a_terms, .ref a_names, .ref a_s, .int a_n, .int x1_1, .int a_behind, .int a_token, .int a_open, .long a_number, .ref a_word, .int a_letters_32, .ref a_stack, .int a_top, .int a_place, .ref a_variables, .int a_variabled, .int a_known, .int a_rank, .ref a_kept])), (a_s, .inl (cs 1, a_s_n, .inl a_s_f))] → va_S A s.heap H locs → p_MoReader_scan_321 n a_n a_behind a_token a_open a_number a_top a_place a_variabled a_known a_rank x1_1 x1_32 a_letters_32 a_word_32f = some (o_a_at, o_a_behind, o_a_token, o_a_number, o_a_letters, o_a_word_f) → W p l e (headSpec (.code y_MoReader_scan b_MoReader_scan 4 none :: GW) { frames := 5, cells := 0, slots := 0, locals := 111 }).room s m ([.ref a] : List Value).toArray below meth c H locs 0 0 Q (F0 m 321 ls []) := by
                                  intro H locs ls hl ⟨hP, hD⟩ hS hok
                                  unfold p_MoReader_scan_321 at hok
                                  refine lv_iconst (v := 1) hx hb d_MoReader_scan_321 (by decide) ?_
                                  refine lv_goto hx hb d_MoReader_scan_322 rfl ?_
                                  exact J36 _ _ _ (1 : Int32) (lv_sub hl [0, 1, 2] rfl) (sub3 hP hD [0, 1, 2] (by decide)) hS hok
                                refine lv_icmp_eq hx hb d_MoReader_scan_295 rfl (fun h44 => ?_) (fun h44 => ?_)
                                · rw [if_pos h44] at hok
                                  exact J43 _ _ _ (lv_sub hl [0, 1, 2] rfl) (sub3 hP hD [0, 1, 2] (by decide)) hS hok
                                · rw [if_neg h44] at hok
                                  refine lv_aload_n hx hb d_MoReader_scan_298 rfl (lv_at hl 2 rfl) ?_
                                  refine va_get (D := g) (ci := 12) (v := .ref a_s) (C := R_MoReader) (T := F_MoReader) (N := 22) hx hb hg ul_MoReader hown hK hP 1 rfl rfl 5 (by decide) (hg _ wd_1176) (fun _ h9 => h9) rfl d_MoReader_scan_299 ?_
                                  refine lv_iload_n hx hb d_MoReader_scan_302 rfl (lv_at hl 1 rfl) ?_
                                  obtain ⟨hi45, hok⟩ := ck_some hok
                                  refine va_bald hx hb hK hP 2 1 rfl rfl (ixb_in hi45) d_MoReader_scan_303 ?_
                                  obtain ⟨r46, hc46, hok⟩ := bd_some hok
                                  obtain ⟨hPc, hDc, hFc⟩ := cut0 (wc := []) hP hD hS hA [] (by decide) rfl
                                  refine va_calli (va_runS (As := [.int (a_s_f x1_32.toNatClampNeg)]) (rest := []) ⟨hx, hb, hml, hown, hg⟩ (c_MoReader_blank l g cs ka H.size (a_s_f x1_32.toNatClampNeg) r46 hc46) (va_cwS 1 hg (gw_S wd_1213 wd_1214 wd_754 wd_1212) rfl rfl rfl (by decide +kernel) ⟨Nat.le_of_ble_eq_true rfl, Nat.le_of_ble_eq_true rfl⟩) ⟨gP_blind, gP_pre hPc hDc hK hgl hkn hkr hS hFc⟩ rfl rfl hl.1 rfl (lv_room (Nat.le_of_ble_eq_true rfl)) d_MoReader_scan_304 ⟨Nat.le_of_ble_eq_true rfl, Nat.le_of_ble_eq_true rfl⟩) hS (fun q _ h => hFc q h) hFc (fun r46' u t H locs ht hvm hr46 hB hz1 hk1 hS => ?_)
                                  subst hr46
                                  rw [ht] at hB
                                  obtain ⟨hP1, hD1⟩ := hB
                                  obtain ⟨hP, hD⟩ := jn_A hP hD [] [0, 1, 2] rfl rfl (by decide) (by decide) hk1 hFc hP1 hD1
                                  obtain ⟨hP, hD⟩ : PD g A H [(a_word, .inl (cs 1, a_word_n, .inl a_word_32f)), (a, .inr (12, [.ref a_sides, .ref a_ranks, .ref a_stop, .ref a_terms, .ref a_names, .ref a_s, .int a_n, .int x1_1, .int a_behind, .int a_token, .int a_open, .long a_number, .ref a_word, .int a_letters_32, .ref a_stack, .int a_top, .int a_place, .ref a_variables, .int a_variabled, .int a_known, .int a_rank, .ref a_kept])), (a_s, .inl (cs 1, a_s_n, .inl a_s_f))] := ⟨hP, hD⟩
                                  refine lv_if_ne hx hb d_MoReader_scan_307 rfl (fun h47 => ?_) (fun h47 => ?_)
                                  · rw [if_neg h47] at hok
                                    exact J43 _ _ _ (lv_sub hl [0, 1, 2] rfl) (sub3 hP hD [0, 1, 2] (by decide)) hS hok
                                  · rw [if_pos h47] at hok
                                    refine lv_aload_n hx hb d_MoReader_scan_310 rfl (lv_at hl 2 rfl) ?_
                                    refine va_get (D := g) (ci := 12) (v := .ref a_s) (C := R_MoReader) (T := F_MoReader) (N := 22) hx hb hg ul_MoReader hown hK hP 1 rfl rfl 5 (by decide) (hg _ wd_1176) (fun _ h9 => h9) rfl d_MoReader_scan_311 ?_
                                    refine lv_iload_n hx hb d_MoReader_scan_314 rfl (lv_at hl 1 rfl) ?_
                                    obtain ⟨hi48, hok⟩ := ck_some hok
                                    refine va_bald hx hb hK hP 2 1 rfl rfl (ixb_in hi48) d_MoReader_scan_315 ?_
                                    refine lv_bipush (v := 37) hx hb d_MoReader_scan_316 (by decide) ?_
                                    refine lv_icmp_ne hx hb d_MoReader_scan_318 rfl (fun h49 => ?_) (fun h49 => ?_)
                                    · rw [if_neg h49] at hok
                                      exact J40 _ _ _ (lv_sub hl [0, 1, 2] rfl) (sub3 hP hD [0, 1, 2] (by decide)) hS hok
                                    · rw [if_pos h49] at hok
                                      exact J43 _ _ _ (lv_sub hl [0, 1, 2] rfl) (sub3 hP hD [0, 1, 2] (by decide)) hS hok
                          · rw [if_neg h35] at hok
                            refine lv_aload_n hx hb d_MoReader_scan_260 rfl (lv_at hl 2 rfl) ?_
                            refine lv_aload_n hx hb d_MoReader_scan_261 rfl (lv_at hl 2 rfl) ?_
                            refine va_get (D := g) (ci := 12) (v := .ref a_s) (C := R_MoReader) (T := F_MoReader) (N := 22) hx hb hg ul_MoReader hown hK hP 1 rfl rfl 5 (by decide) (hg _ wd_1176) (fun _ h9 => h9) rfl d_MoReader_scan_262 ?_
                            refine lv_iload_n hx hb d_MoReader_scan_265 rfl (lv_at hl 1 rfl) ?_
                            obtain ⟨hi50, hok⟩ := ck_some hok
                            refine va_bald hx hb hK hP 2 1 rfl rfl (ixb_in hi50) d_MoReader_scan_266 ?_
                            obtain ⟨⟨a_letters_51, a_word_f_51⟩, hc51, hok⟩ := bd_some hok
                            dsimp only at hok
                            obtain ⟨hPc, hDc, hFc⟩ := cut0 (wc := [(a, .inr (12, [.ref a_sides, .ref a_ranks, .ref a_stop, .ref a_terms, .ref a_names, .ref a_s, .int a_n, .int x1_1, .int a_behind, .int a_token, .int a_open, .long a_number, .ref a_word, .int a_letters_32, .ref a_stack, .int a_top, .int a_place, .ref a_variables, .int a_variabled, .int a_known, .int a_rank, .ref a_kept])), (a_word, .inl (cs 1, a_word_n, .inl a_word_32f))]) hP hD hS hA [1, 0] (by decide) rfl
                            refine va_callv (va_runV (As := [.int (a_s_f x1_32.toNatClampNeg)]) (rest := []) ⟨hx, hb, hml, hown, hg⟩ (c_MoReader_letter l g cs ka a_sides a_ranks a_stop a_terms a_names a_s a_stack a_variables a_kept a a_word H.size (a_s_f x1_32.toNatClampNeg) a_n x1_1 a_behind a_token a_open a_number a_letters_32 a_top a_place a_variabled a_known a_rank a_word_n a_word_32f a_letters_51 a_word_f_51 hc51) (cwV (C := R_MoReader) 1 hg (gw_V wd_1198 wd_1199 wd_1200 wd_754 wd_1197) rfl rfl rfl (by decide +kernel) ⟨Nat.le_of_ble_eq_true rfl, Nat.le_of_ble_eq_true rfl⟩) ⟨gP_blind, va_recv (q0 := 1) (ci := 12) (q := (R_MoReader, F_MoReader, 22)) hK hP rfl rfl, gP_pre hPc hDc hK hgl hkn hkr hS hFc⟩ rfl rfl hl.1 rfl (lv_room (Nat.le_of_ble_eq_true rfl)) d_MoReader_scan_267 ⟨Nat.le_of_ble_eq_true rfl, Nat.le_of_ble_eq_true rfl⟩) hS (fun q _ h => hFc q h) hFc (fun u t H locs ht hvm hr51 hB hz1 hk1 hS => ?_)
                            rw [ht] at hB
                            obtain ⟨hP1, hD1⟩ := hB
                            obtain ⟨hP, hD⟩ := jn_A hP hD [1, 0] [2] rfl rfl (by decide) (by decide) hk1 hFc hP1 hD1
                            obtain ⟨hP, hD⟩ : PD g A H [(a_s, .inl (cs 1, a_s_n, .inl a_s_f)), (a, .inr (12, [.ref a_sides, .ref a_ranks, .ref a_stop, .ref a_terms, .ref a_names, .ref a_s, .int a_n, .int x1_1, .int a_behind, .int a_token, .int a_open, .long a_number, .ref a_word, .int a_letters_51, .ref a_stack, .int a_top, .int a_place, .ref a_variables, .int a_variabled, .int a_known, .int a_rank, .ref a_kept])), (a_word, .inl (cs 1, a_word_n, .inl a_word_f_51))] := ⟨hP, hD⟩
                            refine lv_iinc (k := 1) (v := x1_32 + 1) hx hb d_MoReader_scan_270 hl rfl rfl (by decide) rfl (fun ls hl => ?_)
                            have hl : lv_has ls 4 [(1, .int (x1_32 + 1)), (2, .int y0_3), (0, .ref a)] := hl
                            refine lv_goto hx hb d_MoReader_scan_273 rfl ?_
                            exact ih32 _ _ _ (x1_32 + 1) a_letters_51 a_word_f_51 (lv_sub hl [1, 0, 2] rfl) (sub3 hP hD [1, 0, 2] (by decide)) hS hok
                      exact J32 n H locs ls x1_1 (0 : Int32) a_word_f hl ⟨hP, hD⟩ hS hok
                  · rw [if_pos h28] at hok
                    refine lv_aload_n hx hb d_MoReader_scan_235 rfl (lv_at hl 2 rfl) ?_
                    obtain ⟨⟨a_behind_52, a_token_52, a_letters_52, a_word_f_52⟩, hc52, hok⟩ := bd_some hok
                    dsimp only at hok
                    obtain ⟨hPc, hDc, hFc⟩ := cut0 (wc := [(a, .inr (12, [.ref a_sides, .ref a_ranks, .ref a_stop, .ref a_terms, .ref a_names, .ref a_s, .int a_n, .int x1_1, .int a_behind, .int a_token, .int a_open, .long a_number, .ref a_word, .int 0, .ref a_stack, .int a_top, .int a_place, .ref a_variables, .int a_variabled, .int a_known, .int a_rank, .ref a_kept])), (a_s, .inl (cs 1, a_s_n, .inl a_s_f)), (a_word, .inl (cs 1, a_word_n, .inl a_word_f))]) hP hD hS hA [0, 1, 2] (by decide) rfl
                    refine va_callv (va_runV (As := []) (rest := []) ⟨hx, hb, hml, hown, hg⟩ (c_MoReader_quoted l g cs ka a_sides a_ranks a_stop a_terms a_names a_stack a_variables a_kept a a_s a_word H.size n a_n x1_1 a_behind a_token a_open a_number (0 : Int32) a_top a_place a_variabled a_known a_rank a_s_n a_s_f a_word_n a_word_f a_behind_52 a_token_52 a_letters_52 a_word_f_52 hc52) (cwV (C := R_MoReader) 0 hg (gw_V wd_1216 wd_1217 wd_1218 wd_754 wd_1215) rfl rfl rfl (by decide +kernel) ⟨Nat.le_of_ble_eq_true rfl, Nat.le_of_ble_eq_true rfl⟩) ⟨gP_blind, va_recv (q0 := 0) (ci := 12) (q := (R_MoReader, F_MoReader, 22)) hK hP rfl rfl, gP_pre hPc hDc hK hgl hkn hkr hS hFc⟩ rfl rfl hl.1 rfl (lv_room (Nat.le_of_ble_eq_true rfl)) d_MoReader_scan_236 ⟨Nat.le_of_ble_eq_true rfl, Nat.le_of_ble_eq_true rfl⟩) hS (fun q _ h => hFc q h) hFc (fun u t H locs ht hvm hr52 hB hz1 hk1 hS => ?_)
                    rw [ht] at hB
                    obtain ⟨hP1, hD1⟩ := hB
                    obtain ⟨hP, hD⟩ := jn_A hP hD [0, 1, 2] [] rfl rfl (by decide) (by decide) hk1 hFc hP1 hD1
                    obtain ⟨hP, hD⟩ : PD g A H [(a, .inr (12, [.ref a_sides, .ref a_ranks, .ref a_stop, .ref a_terms, .ref a_names, .ref a_s, .int a_n, .int x1_1, .int a_behind_52, .int a_token_52, .int a_open, .long a_number, .ref a_word, .int a_letters_52, .ref a_stack, .int a_top, .int a_place, .ref a_variables, .int a_variabled, .int a_known, .int a_rank, .ref a_kept])), (a_s, .inl (cs 1, a_s_n, .inl a_s_f)), (a_word, .inl (cs 1, a_word_n, .inl a_word_f_52))] := ⟨hP, hD⟩
                    refine lv_goto hx hb d_MoReader_scan_239 rfl ?_
                    have hq := Option.some.inj hok
                    obtain ⟨hq0, hq⟩ := Prod.mk.inj hq
                    obtain ⟨hq1, hq⟩ := Prod.mk.inj hq
                    obtain ⟨hq2, hq⟩ := Prod.mk.inj hq
                    obtain ⟨hq3, hq⟩ := Prod.mk.inj hq
                    obtain ⟨hq4, hq⟩ := Prod.mk.inj hq
                    have hq5 := hq
                    subst hq0
                    subst hq1
                    subst hq2
                    subst hq3
                    subst hq4
                    subst hq5
                    obtain ⟨hP9, hD9⟩ := sub2 (ws' := [(a, .inr (12, [.ref a_sides, .ref a_ranks, .ref a_stop, .ref a_terms, .ref a_names, .ref a_s, .int a_n, .int x1_1, .int a_behind_52, .int a_token_52, .int a_open, .long a_number, .ref a_word, .int a_letters_52, .ref a_stack, .int a_top, .int a_place, .ref a_variables, .int a_variabled, .int a_known, .int a_rank, .ref a_kept])), (a_s, .inl (cs 1, a_s_n, .inl a_s_f)), (a_word, .inl (cs 1, a_word_n, .inl a_word_f_52))]) hP hD [0, 1, 2] rfl (by decide) rfl
                    rw [hQ]
                    exact W.vret hx hb hr (fun t ht hW => ⟨⟨(), rfl, trivial, by rw [ht]; exact hP9, hD9⟩, hS.F ht⟩) hS.2.2 d_MoReader_scan_349
                · rw [if_neg h27] at hok
                  refine lv_aload_n hx hb d_MoReader_scan_222 rfl (lv_at hl 2 rfl) ?_
                  obtain ⟨⟨a_behind_53, a_token_53, a_number_53⟩, hc53, hok⟩ := bd_some hok
                  dsimp only at hok
                  obtain ⟨hPc, hDc, hFc⟩ := cut0 (wc := [(a, .inr (12, [.ref a_sides, .ref a_ranks, .ref a_stop, .ref a_terms, .ref a_names, .ref a_s, .int a_n, .int x1_1, .int a_behind, .int a_token, .int a_open, .long a_number, .ref a_word, .int 0, .ref a_stack, .int a_top, .int a_place, .ref a_variables, .int a_variabled, .int a_known, .int a_rank, .ref a_kept])), (a_s, .inl (cs 1, a_s_n, .inl a_s_f))]) hP hD hS hA [0, 1] (by decide) rfl
                  refine va_callv (va_runV (As := []) (rest := []) ⟨hx, hb, hml, hown, hg⟩ (c_MoReader_digits l g cs ka a_sides a_ranks a_stop a_terms a_names a_word a_stack a_variables a_kept a a_s H.size n a_n x1_1 a_behind a_token a_open a_number (0 : Int32) a_top a_place a_variabled a_known a_rank a_s_n a_s_f a_behind_53 a_token_53 a_number_53 hc53) (cwV (C := R_MoReader) 0 hg (gw_V wd_1220 wd_1221 wd_1222 wd_754 wd_1219) rfl rfl rfl (by decide +kernel) ⟨Nat.le_of_ble_eq_true rfl, Nat.le_of_ble_eq_true rfl⟩) ⟨gP_blind, va_recv (q0 := 0) (ci := 12) (q := (R_MoReader, F_MoReader, 22)) hK hP rfl rfl, gP_pre hPc hDc hK hgl hkn hkr hS hFc⟩ rfl rfl hl.1 rfl (lv_room (Nat.le_of_ble_eq_true rfl)) d_MoReader_scan_223 ⟨Nat.le_of_ble_eq_true rfl, Nat.le_of_ble_eq_true rfl⟩) hS (fun q _ h => hFc q h) hFc (fun u t H locs ht hvm hr53 hB hz1 hk1 hS => ?_)
                  rw [ht] at hB
                  obtain ⟨hP1, hD1⟩ := hB
                  obtain ⟨hP, hD⟩ := jn_A hP hD [0, 1] [2] rfl rfl (by decide) (by decide) hk1 hFc hP1 hD1
                  obtain ⟨hP, hD⟩ : PD g A H [(a_word, .inl (cs 1, a_word_n, .inl a_word_f)), (a, .inr (12, [.ref a_sides, .ref a_ranks, .ref a_stop, .ref a_terms, .ref a_names, .ref a_s, .int a_n, .int x1_1, .int a_behind_53, .int a_token_53, .int a_open, .long a_number_53, .ref a_word, .int 0, .ref a_stack, .int a_top, .int a_place, .ref a_variables, .int a_variabled, .int a_known, .int a_rank, .ref a_kept])), (a_s, .inl (cs 1, a_s_n, .inl a_s_f))] := ⟨hP, hD⟩
                  refine lv_goto hx hb d_MoReader_scan_226 rfl ?_
                  have hq := Option.some.inj hok
                  obtain ⟨hq0, hq⟩ := Prod.mk.inj hq
                  obtain ⟨hq1, hq⟩ := Prod.mk.inj hq
                  obtain ⟨hq2, hq⟩ := Prod.mk.inj hq
                  obtain ⟨hq3, hq⟩ := Prod.mk.inj hq
                  obtain ⟨hq4, hq⟩ := Prod.mk.inj hq
                  have hq5 := hq
                  subst hq0
                  subst hq1
                  subst hq2
                  subst hq3
                  subst hq4
                  subst hq5
                  obtain ⟨hP9, hD9⟩ := sub2 (ws' := [(a, .inr (12, [.ref a_sides, .ref a_ranks, .ref a_stop, .ref a_terms, .ref a_names, .ref a_s, .int a_n, .int x1_1, .int a_behind_53, .int a_token_53, .int a_open, .long a_number_53, .ref a_word, .int 0, .ref a_stack, .int a_top, .int a_place, .ref a_variables, .int a_variabled, .int a_known, .int a_rank, .ref a_kept])), (a_s, .inl (cs 1, a_s_n, .inl a_s_f)), (a_word, .inl (cs 1, a_word_n, .inl a_word_f))]) hP hD [1, 2, 0] rfl (by decide) rfl
                  rw [hQ]
                  exact W.vret hx hb hr (fun t ht hW => ⟨⟨(), rfl, trivial, by rw [ht]; exact hP9, hD9⟩, hS.F ht⟩) hS.2.2 d_MoReader_scan_349
              · rw [if_neg h25] at hok
                have J54 : ∀ (kf54 : Nat) (H : Heap) (locs : List Loc) (ls : Array Slot) (x1_54 : Int32) (a_letters_54 : Int32) (a_word_54f : Nat → Int32), lv_has ls 4 [(2, .int y0_3), (1, .int x1_54), (0, .ref a)] → PD g A H [(a, .inr (12, [.ref a_sides, .ref a_ranks, .ref a_stop, .ref a_terms, .ref a_names, .ref a_s, .int a_n, .int x1_1, .int a_behind, .int a_token, .int a_open, .long a_number, .ref a_word, .int a_letters_54, .ref a_stack, .int a_top, .int a_place, .ref a_variables, .int a_variabled, .int a_known, .int a_rank, .ref a_kept])), (a_s, .inl (cs 1, a_s_n, .inl a_s_f)), (a_word, .inl (cs 1, a_word_n, .inl a_word_54f))] → va_S A s.heap H locs → p_MoReader_scan_146_54 n a_n a_behind a_token a_open a_number a_top a_place a_variabled a_known a_rank a_s_n a_s_f a_word_n x1_1 y0_3 kf54 x1_54 a_letters_54 a_word_54f = some (o_a_at, o_a_behind, o_a_token, o_a_number, o_a_letters, o_a_word_f) → W p l e (headSpec (.code y_MoReader_scan b_MoReader_scan 4 none :: GW) { frames := 5, cells := 0, slots := 0, locals := 111 }).room s m ([.ref a] : List Value).toArray below meth c H locs 0 0 Q (F0 m 146 ls []) := by
                  intro kf54
                  induction kf54 with
                  | zero => intro H locs ls x1_54 a_letters_54 a_word_54f hl ⟨hP, hD⟩ hS hok; rw [p_MoReader_scan_146_54] at hok; cases hok
                  | succ kf54 ih54 =>
                    intro H locs ls x1_54 a_letters_54 a_word_54f hl ⟨hP, hD⟩ hS hok
                    rw [p_MoReader_scan_146_54] at hok
                    refine lv_aload_n hx hb d_MoReader_scan_146 rfl (lv_at hl 2 rfl) ?_
                    refine lv_iload_n hx hb d_MoReader_scan_147 rfl (lv_at hl 1 rfl) ?_
                    obtain ⟨r55, hc55, hok⟩ := bd_some hok
                    obtain ⟨hPc, hDc, hFc⟩ := cut0 (wc := [(a, .inr (12, [.ref a_sides, .ref a_ranks, .ref a_stop, .ref a_terms, .ref a_names, .ref a_s, .int a_n, .int x1_1, .int a_behind, .int a_token, .int a_open, .long a_number, .ref a_word, .int a_letters_54, .ref a_stack, .int a_top, .int a_place, .ref a_variables, .int a_variabled, .int a_known, .int a_rank, .ref a_kept])), (a_s, .inl (cs 1, a_s_n, .inl a_s_f))]) hP hD hS hA [0, 1] (by decide) rfl
                    refine va_calli (va_runV (As := [.int x1_54]) (rest := []) ⟨hx, hb, hml, hown, hg⟩ (c_MoReader_look l g cs ka a_sides a_ranks a_stop a_terms a_names a_word a_stack a_variables a_kept a a_s H.size x1_54 a_n x1_1 a_behind a_token a_open a_number a_letters_54 a_top a_place a_variabled a_known a_rank a_s_n a_s_f r55 hc55) (cwV (C := R_MoReader) 1 hg (gw_V wd_1184 wd_1185 wd_1186 wd_754 wd_1183) rfl rfl rfl (by decide +kernel) ⟨Nat.le_of_ble_eq_true rfl, Nat.le_of_ble_eq_true rfl⟩) ⟨gP_blind, va_recv (q0 := 0) (ci := 12) (q := (R_MoReader, F_MoReader, 22)) hK hP rfl rfl, gP_pre hPc hDc hK hgl hkn hkr hS hFc⟩ rfl rfl hl.1 rfl (lv_room (Nat.le_of_ble_eq_true rfl)) d_MoReader_scan_148 ⟨Nat.le_of_ble_eq_true rfl, Nat.le_of_ble_eq_true rfl⟩) hS (fun q _ h => hFc q h) hFc (fun r55' u t H locs ht hvm hr55 hB hz1 hk1 hS => ?_)
                    subst hr55
                    rw [ht] at hB
                    obtain ⟨hP1, hD1⟩ := hB
                    obtain ⟨hP, hD⟩ := jn_A hP hD [0, 1] [2] rfl rfl (by decide) (by decide) hk1 hFc hP1 hD1
                    obtain ⟨hP, hD⟩ : PD g A H [(a_word, .inl (cs 1, a_word_n, .inl a_word_54f)), (a, .inr (12, [.ref a_sides, .ref a_ranks, .ref a_stop, .ref a_terms, .ref a_names, .ref a_s, .int a_n, .int x1_1, .int a_behind, .int a_token, .int a_open, .long a_number, .ref a_word, .int a_letters_54, .ref a_stack, .int a_top, .int a_place, .ref a_variables, .int a_variabled, .int a_known, .int a_rank, .ref a_kept])), (a_s, .inl (cs 1, a_s_n, .inl a_s_f))] := ⟨hP, hD⟩
                    obtain ⟨r56, hc56, hok⟩ := bd_some hok
                    obtain ⟨hPc, hDc, hFc⟩ := cut0 (wc := []) hP hD hS hA [] (by decide) rfl
                    refine va_calli (va_runS (As := [.int r55]) (rest := []) ⟨hx, hb, hml, hown, hg⟩ (c_MoReader_small l g cs ka H.size r55 r56 hc56) (va_cwS 1 hg (gw_S wd_1202 wd_1203 wd_754 wd_1201) rfl rfl rfl (by decide +kernel) ⟨Nat.le_of_ble_eq_true rfl, Nat.le_of_ble_eq_true rfl⟩) ⟨gP_blind, gP_pre hPc hDc hK hgl hkn hkr hS hFc⟩ rfl rfl hl.1 rfl (lv_room (Nat.le_of_ble_eq_true rfl)) d_MoReader_scan_151 ⟨Nat.le_of_ble_eq_true rfl, Nat.le_of_ble_eq_true rfl⟩) hS (fun q _ h => hFc q h) hFc (fun r56' u t H locs ht hvm hr56 hB hz1 hk1 hS => ?_)
                    subst hr56
                    rw [ht] at hB
                    obtain ⟨hP1, hD1⟩ := hB
                    obtain ⟨hP, hD⟩ := jn_A hP hD [] [0, 1, 2] rfl rfl (by decide) (by decide) hk1 hFc hP1 hD1
                    obtain ⟨hP, hD⟩ : PD g A H [(a_word, .inl (cs 1, a_word_n, .inl a_word_54f)), (a, .inr (12, [.ref a_sides, .ref a_ranks, .ref a_stop, .ref a_terms, .ref a_names, .ref a_s, .int a_n, .int x1_1, .int a_behind, .int a_token, .int a_open, .long a_number, .ref a_word, .int a_letters_54, .ref a_stack, .int a_top, .int a_place, .ref a_variables, .int a_variabled, .int a_known, .int a_rank, .ref a_kept])), (a_s, .inl (cs 1, a_s_n, .inl a_s_f))] := ⟨hP, hD⟩
                    have J57 : ∀ (H : Heap) (locs : List Loc) (ls : Array Slot), lv_has ls 4 [(2, .int y0_3), (1, .int x1_54), (0, .ref a)] → PD g A H [(a_word, .inl (cs 1, a_word_n, .inl a_word_54f)), (a, .inr (12, [.ref a_sides, .ref a_ranks, .ref a_stop, .ref a_terms, .ref a_names, .ref a_s, .int a_n, .int x1_1, .int a_behind, .int a_token, .int a_open, .long a_number, .ref a_word, .int a_letters_54, .ref a_stack, .int a_top, .int a_place, .ref a_variables, .int a_variabled, .int a_known, .int a_rank, .ref a_kept])), (a_s, .inl (cs 1, a_s_n, .inl a_s_f))] → va_S A s.heap H locs → p_MoReader_scan_179_57 n a_n a_behind a_token a_open a_number a_top a_place a_variabled a_known a_rank a_s_n a_s_f a_word_n x1_1 x1_54 a_letters_54 a_word_54f (fun w0 w1 w2 => p_MoReader_scan_146_54 n a_n a_behind a_token a_open a_number a_top a_place a_variabled a_known a_rank a_s_n a_s_f a_word_n x1_1 y0_3 kf54 w0 w1 w2) = some (o_a_at, o_a_behind, o_a_token, o_a_number, o_a_letters, o_a_word_f) → W p l e (headSpec (.code y_MoReader_scan b_MoReader_scan 4 none :: GW) { frames := 5, cells := 0, slots := 0, locals := 111 }).room s m ([.ref a] : List Value).toArray below meth c H locs 0 0 Q (F0 m 179 ls []) := by
                      intro H locs ls hl ⟨hP, hD⟩ hS hok
                      unfold p_MoReader_scan_179_57 at hok
                      refine lv_aload_n hx hb d_MoReader_scan_179 rfl (lv_at hl 2 rfl) ?_
                      refine lv_aload_n hx hb d_MoReader_scan_180 rfl (lv_at hl 2 rfl) ?_
                      refine va_get (D := g) (ci := 12) (v := .ref a_s) (C := R_MoReader) (T := F_MoReader) (N := 22) hx hb hg ul_MoReader hown hK hP 1 rfl rfl 5 (by decide) (hg _ wd_1176) (fun _ h9 => h9) rfl d_MoReader_scan_181 ?_
                      refine lv_iload_n hx hb d_MoReader_scan_184 rfl (lv_at hl 1 rfl) ?_
                      obtain ⟨hi58, hok⟩ := ck_some hok
                      refine va_bald hx hb hK hP 2 1 rfl rfl (ixb_in hi58) d_MoReader_scan_185 ?_
                      obtain ⟨⟨a_letters_59, a_word_f_59⟩, hc59, hok⟩ := bd_some hok
                      dsimp only at hok
                      obtain ⟨hPc, hDc, hFc⟩ := cut0 (wc := [(a, .inr (12, [.ref a_sides, .ref a_ranks, .ref a_stop, .ref a_terms, .ref a_names, .ref a_s, .int a_n, .int x1_1, .int a_behind, .int a_token, .int a_open, .long a_number, .ref a_word, .int a_letters_54, .ref a_stack, .int a_top, .int a_place, .ref a_variables, .int a_variabled, .int a_known, .int a_rank, .ref a_kept])), (a_word, .inl (cs 1, a_word_n, .inl a_word_54f))]) hP hD hS hA [1, 0] (by decide) rfl
                      refine va_callv (va_runV (As := [.int (a_s_f x1_54.toNatClampNeg)]) (rest := []) ⟨hx, hb, hml, hown, hg⟩ (c_MoReader_letter l g cs ka a_sides a_ranks a_stop a_terms a_names a_s a_stack a_variables a_kept a a_word H.size (a_s_f x1_54.toNatClampNeg) a_n x1_1 a_behind a_token a_open a_number a_letters_54 a_top a_place a_variabled a_known a_rank a_word_n a_word_54f a_letters_59 a_word_f_59 hc59) (cwV (C := R_MoReader) 1 hg (gw_V wd_1198 wd_1199 wd_1200 wd_754 wd_1197) rfl rfl rfl (by decide +kernel) ⟨Nat.le_of_ble_eq_true rfl, Nat.le_of_ble_eq_true rfl⟩) ⟨gP_blind, va_recv (q0 := 1) (ci := 12) (q := (R_MoReader, F_MoReader, 22)) hK hP rfl rfl, gP_pre hPc hDc hK hgl hkn hkr hS hFc⟩ rfl rfl hl.1 rfl (lv_room (Nat.le_of_ble_eq_true rfl)) d_MoReader_scan_186 ⟨Nat.le_of_ble_eq_true rfl, Nat.le_of_ble_eq_true rfl⟩) hS (fun q _ h => hFc q h) hFc (fun u t H locs ht hvm hr59 hB hz1 hk1 hS => ?_)
                      rw [ht] at hB
                      obtain ⟨hP1, hD1⟩ := hB
                      obtain ⟨hP, hD⟩ := jn_A hP hD [1, 0] [2] rfl rfl (by decide) (by decide) hk1 hFc hP1 hD1
                      obtain ⟨hP, hD⟩ : PD g A H [(a_s, .inl (cs 1, a_s_n, .inl a_s_f)), (a, .inr (12, [.ref a_sides, .ref a_ranks, .ref a_stop, .ref a_terms, .ref a_names, .ref a_s, .int a_n, .int x1_1, .int a_behind, .int a_token, .int a_open, .long a_number, .ref a_word, .int a_letters_59, .ref a_stack, .int a_top, .int a_place, .ref a_variables, .int a_variabled, .int a_known, .int a_rank, .ref a_kept])), (a_word, .inl (cs 1, a_word_n, .inl a_word_f_59))] := ⟨hP, hD⟩
                      refine lv_iinc (k := 1) (v := x1_54 + 1) hx hb d_MoReader_scan_189 hl rfl rfl (by decide) rfl (fun ls hl => ?_)
                      have hl : lv_has ls 4 [(1, .int (x1_54 + 1)), (2, .int y0_3), (0, .ref a)] := hl
                      refine lv_goto hx hb d_MoReader_scan_192 rfl ?_
                      exact ih54 _ _ _ (x1_54 + 1) a_letters_59 a_word_f_59 (lv_sub hl [1, 0, 2] rfl) (sub3 hP hD [1, 0, 2] (by decide)) hS hok
                    refine lv_if_ne hx hb d_MoReader_scan_154 rfl (fun h60 => ?_) (fun h60 => ?_)
                    · rw [if_neg h60] at hok
                      exact J57 _ _ _ (lv_sub hl [0, 1, 2] rfl) (sub3 hP hD [0, 1, 2] (by decide)) hS hok
                    · rw [if_pos h60] at hok
                      refine lv_aload_n hx hb d_MoReader_scan_157 rfl (lv_at hl 2 rfl) ?_
                      refine lv_iload_n hx hb d_MoReader_scan_158 rfl (lv_at hl 1 rfl) ?_
                      obtain ⟨r61, hc61, hok⟩ := bd_some hok
                      obtain ⟨hPc, hDc, hFc⟩ := cut0 (wc := [(a, .inr (12, [.ref a_sides, .ref a_ranks, .ref a_stop, .ref a_terms, .ref a_names, .ref a_s, .int a_n, .int x1_1, .int a_behind, .int a_token, .int a_open, .long a_number, .ref a_word, .int a_letters_54, .ref a_stack, .int a_top, .int a_place, .ref a_variables, .int a_variabled, .int a_known, .int a_rank, .ref a_kept])), (a_s, .inl (cs 1, a_s_n, .inl a_s_f))]) hP hD hS hA [1, 2] (by decide) rfl
                      refine va_calli (va_runV (As := [.int x1_54]) (rest := []) ⟨hx, hb, hml, hown, hg⟩ (c_MoReader_look l g cs ka a_sides a_ranks a_stop a_terms a_names a_word a_stack a_variables a_kept a a_s H.size x1_54 a_n x1_1 a_behind a_token a_open a_number a_letters_54 a_top a_place a_variabled a_known a_rank a_s_n a_s_f r61 hc61) (cwV (C := R_MoReader) 1 hg (gw_V wd_1184 wd_1185 wd_1186 wd_754 wd_1183) rfl rfl rfl (by decide +kernel) ⟨Nat.le_of_ble_eq_true rfl, Nat.le_of_ble_eq_true rfl⟩) ⟨gP_blind, va_recv (q0 := 1) (ci := 12) (q := (R_MoReader, F_MoReader, 22)) hK hP rfl rfl, gP_pre hPc hDc hK hgl hkn hkr hS hFc⟩ rfl rfl hl.1 rfl (lv_room (Nat.le_of_ble_eq_true rfl)) d_MoReader_scan_159 ⟨Nat.le_of_ble_eq_true rfl, Nat.le_of_ble_eq_true rfl⟩) hS (fun q _ h => hFc q h) hFc (fun r61' u t H locs ht hvm hr61 hB hz1 hk1 hS => ?_)
                      subst hr61
                      rw [ht] at hB
                      obtain ⟨hP1, hD1⟩ := hB
                      obtain ⟨hP, hD⟩ := jn_A hP hD [1, 2] [0] rfl rfl (by decide) (by decide) hk1 hFc hP1 hD1
                      obtain ⟨hP, hD⟩ : PD g A H [(a_word, .inl (cs 1, a_word_n, .inl a_word_54f)), (a, .inr (12, [.ref a_sides, .ref a_ranks, .ref a_stop, .ref a_terms, .ref a_names, .ref a_s, .int a_n, .int x1_1, .int a_behind, .int a_token, .int a_open, .long a_number, .ref a_word, .int a_letters_54, .ref a_stack, .int a_top, .int a_place, .ref a_variables, .int a_variabled, .int a_known, .int a_rank, .ref a_kept])), (a_s, .inl (cs 1, a_s_n, .inl a_s_f))] := ⟨hP, hD⟩
                      obtain ⟨r62, hc62, hok⟩ := bd_some hok
                      obtain ⟨hPc, hDc, hFc⟩ := cut0 (wc := []) hP hD hS hA [] (by decide) rfl
                      refine va_calli (va_runS (As := [.int r61]) (rest := []) ⟨hx, hb, hml, hown, hg⟩ (c_MoReader_great l g cs ka H.size r61 r62 hc62) (va_cwS 1 hg (gw_S wd_1205 wd_1206 wd_754 wd_1204) rfl rfl rfl (by decide +kernel) ⟨Nat.le_of_ble_eq_true rfl, Nat.le_of_ble_eq_true rfl⟩) ⟨gP_blind, gP_pre hPc hDc hK hgl hkn hkr hS hFc⟩ rfl rfl hl.1 rfl (lv_room (Nat.le_of_ble_eq_true rfl)) d_MoReader_scan_162 ⟨Nat.le_of_ble_eq_true rfl, Nat.le_of_ble_eq_true rfl⟩) hS (fun q _ h => hFc q h) hFc (fun r62' u t H locs ht hvm hr62 hB hz1 hk1 hS => ?_)
                      subst hr62
                      rw [ht] at hB
                      obtain ⟨hP1, hD1⟩ := hB
                      obtain ⟨hP, hD⟩ := jn_A hP hD [] [0, 1, 2] rfl rfl (by decide) (by decide) hk1 hFc hP1 hD1
                      obtain ⟨hP, hD⟩ : PD g A H [(a_word, .inl (cs 1, a_word_n, .inl a_word_54f)), (a, .inr (12, [.ref a_sides, .ref a_ranks, .ref a_stop, .ref a_terms, .ref a_names, .ref a_s, .int a_n, .int x1_1, .int a_behind, .int a_token, .int a_open, .long a_number, .ref a_word, .int a_letters_54, .ref a_stack, .int a_top, .int a_place, .ref a_variables, .int a_variabled, .int a_known, .int a_rank, .ref a_kept])), (a_s, .inl (cs 1, a_s_n, .inl a_s_f))] := ⟨hP, hD⟩
                      refine lv_if_ne hx hb d_MoReader_scan_165 rfl (fun h63 => ?_) (fun h63 => ?_)
                      · rw [if_neg h63] at hok
                        exact J57 _ _ _ (lv_sub hl [0, 1, 2] rfl) (sub3 hP hD [0, 1, 2] (by decide)) hS hok
                      · rw [if_pos h63] at hok
                        refine lv_aload_n hx hb d_MoReader_scan_168 rfl (lv_at hl 2 rfl) ?_
                        refine lv_iload_n hx hb d_MoReader_scan_169 rfl (lv_at hl 1 rfl) ?_
                        obtain ⟨r64, hc64, hok⟩ := bd_some hok
                        obtain ⟨hPc, hDc, hFc⟩ := cut0 (wc := [(a, .inr (12, [.ref a_sides, .ref a_ranks, .ref a_stop, .ref a_terms, .ref a_names, .ref a_s, .int a_n, .int x1_1, .int a_behind, .int a_token, .int a_open, .long a_number, .ref a_word, .int a_letters_54, .ref a_stack, .int a_top, .int a_place, .ref a_variables, .int a_variabled, .int a_known, .int a_rank, .ref a_kept])), (a_s, .inl (cs 1, a_s_n, .inl a_s_f))]) hP hD hS hA [1, 2] (by decide) rfl
                        refine va_calli (va_runV (As := [.int x1_54]) (rest := []) ⟨hx, hb, hml, hown, hg⟩ (c_MoReader_look l g cs ka a_sides a_ranks a_stop a_terms a_names a_word a_stack a_variables a_kept a a_s H.size x1_54 a_n x1_1 a_behind a_token a_open a_number a_letters_54 a_top a_place a_variabled a_known a_rank a_s_n a_s_f r64 hc64) (cwV (C := R_MoReader) 1 hg (gw_V wd_1184 wd_1185 wd_1186 wd_754 wd_1183) rfl rfl rfl (by decide +kernel) ⟨Nat.le_of_ble_eq_true rfl, Nat.le_of_ble_eq_true rfl⟩) ⟨gP_blind, va_recv (q0 := 1) (ci := 12) (q := (R_MoReader, F_MoReader, 22)) hK hP rfl rfl, gP_pre hPc hDc hK hgl hkn hkr hS hFc⟩ rfl rfl hl.1 rfl (lv_room (Nat.le_of_ble_eq_true rfl)) d_MoReader_scan_170 ⟨Nat.le_of_ble_eq_true rfl, Nat.le_of_ble_eq_true rfl⟩) hS (fun q _ h => hFc q h) hFc (fun r64' u t H locs ht hvm hr64 hB hz1 hk1 hS => ?_)
                        subst hr64
                        rw [ht] at hB
                        obtain ⟨hP1, hD1⟩ := hB
                        obtain ⟨hP, hD⟩ := jn_A hP hD [1, 2] [0] rfl rfl (by decide) (by decide) hk1 hFc hP1 hD1
                        obtain ⟨hP, hD⟩ : PD g A H [(a_word, .inl (cs 1, a_word_n, .inl a_word_54f)), (a, .inr (12, [.ref a_sides, .ref a_ranks, .ref a_stop, .ref a_terms, .ref a_names, .ref a_s, .int a_n, .int x1_1, .int a_behind, .int a_token, .int a_open, .long a_number, .ref a_word, .int a_letters_54, .ref a_stack, .int a_top, .int a_place, .ref a_variables, .int a_variabled, .int a_known, .int a_rank, .ref a_kept])), (a_s, .inl (cs 1, a_s_n, .inl a_s_f))] := ⟨hP, hD⟩
                        obtain ⟨r65, hc65, hok⟩ := bd_some hok
                        obtain ⟨hPc, hDc, hFc⟩ := cut0 (wc := []) hP hD hS hA [] (by decide) rfl
                        refine va_calli (va_runS (As := [.int r64]) (rest := []) ⟨hx, hb, hml, hown, hg⟩ (c_MoReader_digit l g cs ka H.size r64 r65 hc65) (va_cwS 1 hg (gw_S wd_1188 wd_1189 wd_754 wd_1187) rfl rfl rfl (by decide +kernel) ⟨Nat.le_of_ble_eq_true rfl, Nat.le_of_ble_eq_true rfl⟩) ⟨gP_blind, gP_pre hPc hDc hK hgl hkn hkr hS hFc⟩ rfl rfl hl.1 rfl (lv_room (Nat.le_of_ble_eq_true rfl)) d_MoReader_scan_173 ⟨Nat.le_of_ble_eq_true rfl, Nat.le_of_ble_eq_true rfl⟩) hS (fun q _ h => hFc q h) hFc (fun r65' u t H locs ht hvm hr65 hB hz1 hk1 hS => ?_)
                        subst hr65
                        rw [ht] at hB
                        obtain ⟨hP1, hD1⟩ := hB
                        obtain ⟨hP, hD⟩ := jn_A hP hD [] [0, 1, 2] rfl rfl (by decide) (by decide) hk1 hFc hP1 hD1
                        obtain ⟨hP, hD⟩ : PD g A H [(a_word, .inl (cs 1, a_word_n, .inl a_word_54f)), (a, .inr (12, [.ref a_sides, .ref a_ranks, .ref a_stop, .ref a_terms, .ref a_names, .ref a_s, .int a_n, .int x1_1, .int a_behind, .int a_token, .int a_open, .long a_number, .ref a_word, .int a_letters_54, .ref a_stack, .int a_top, .int a_place, .ref a_variables, .int a_variabled, .int a_known, .int a_rank, .ref a_kept])), (a_s, .inl (cs 1, a_s_n, .inl a_s_f))] := ⟨hP, hD⟩
                        refine lv_if_eq hx hb d_MoReader_scan_176 rfl (fun h66 => ?_) (fun h66 => ?_)
                        · rw [if_pos h66] at hok
                          refine lv_aload_n hx hb d_MoReader_scan_195 rfl (lv_at hl 2 rfl) ?_
                          refine lv_iload_n hx hb d_MoReader_scan_196 rfl (lv_at hl 0 rfl) ?_
                          obtain ⟨r67, hc67, hok⟩ := bd_some hok
                          obtain ⟨hPc, hDc, hFc⟩ := cut0 (wc := []) hP hD hS hA [] (by decide) rfl
                          refine va_calli (va_runS (As := [.int y0_3]) (rest := [.ref a]) ⟨hx, hb, hml, hown, hg⟩ (c_MoReader_great l g cs ka H.size y0_3 r67 hc67) (va_cwS 1 hg (gw_S wd_1205 wd_1206 wd_754 wd_1204) rfl rfl rfl (by decide +kernel) ⟨Nat.le_of_ble_eq_true rfl, Nat.le_of_ble_eq_true rfl⟩) ⟨gP_blind, gP_pre hPc hDc hK hgl hkn hkr hS hFc⟩ rfl rfl hl.1 rfl (lv_room (Nat.le_of_ble_eq_true rfl)) d_MoReader_scan_197 ⟨Nat.le_of_ble_eq_true rfl, Nat.le_of_ble_eq_true rfl⟩) hS (fun q _ h => hFc q h) hFc (fun r67' u t H locs ht hvm hr67 hB hz1 hk1 hS => ?_)
                          subst hr67
                          rw [ht] at hB
                          obtain ⟨hP1, hD1⟩ := hB
                          obtain ⟨hP, hD⟩ := jn_A hP hD [] [0, 1, 2] rfl rfl (by decide) (by decide) hk1 hFc hP1 hD1
                          obtain ⟨hP, hD⟩ : PD g A H [(a_word, .inl (cs 1, a_word_n, .inl a_word_54f)), (a, .inr (12, [.ref a_sides, .ref a_ranks, .ref a_stop, .ref a_terms, .ref a_names, .ref a_s, .int a_n, .int x1_1, .int a_behind, .int a_token, .int a_open, .long a_number, .ref a_word, .int a_letters_54, .ref a_stack, .int a_top, .int a_place, .ref a_variables, .int a_variabled, .int a_known, .int a_rank, .ref a_kept])), (a_s, .inl (cs 1, a_s_n, .inl a_s_f))] := ⟨hP, hD⟩
                          refine lv_if_eq hx hb d_MoReader_scan_200 rfl (fun h68 => ?_) (fun h68 => ?_)
                          · rw [if_pos h68] at hok
                            refine lv_iconst (v := 3) hx hb d_MoReader_scan_207 (by decide) ?_
                            refine lv_iload_n hx hb d_MoReader_scan_208 rfl (lv_at hl 1 rfl) ?_
                            obtain ⟨⟨a_behind_69, a_token_69⟩, hc69, hok⟩ := bd_some hok
                            dsimp only at hok
                            obtain ⟨hPc, hDc, hFc⟩ := cut0 (wc := [(a, .inr (12, [.ref a_sides, .ref a_ranks, .ref a_stop, .ref a_terms, .ref a_names, .ref a_s, .int a_n, .int x1_1, .int a_behind, .int a_token, .int a_open, .long a_number, .ref a_word, .int a_letters_54, .ref a_stack, .int a_top, .int a_place, .ref a_variables, .int a_variabled, .int a_known, .int a_rank, .ref a_kept]))]) hP hD hS hA [1] (by decide) rfl
                            refine va_callv (va_runV (As := [.int 3, .int x1_54]) (rest := []) ⟨hx, hb, hml, hown, hg⟩ (c_MoReader_take l g cs ka a_sides a_ranks a_stop a_terms a_names a_s a_word a_stack a_variables a_kept a H.size (3 : Int32) x1_54 a_n x1_1 a_behind a_token a_open a_number a_letters_54 a_top a_place a_variabled a_known a_rank a_behind_69 a_token_69 hc69) (cwV (C := R_MoReader) 2 hg (gw_V wd_1192 wd_1193 wd_1194 wd_754 wd_1191) rfl rfl rfl (by decide +kernel) ⟨Nat.le_of_ble_eq_true rfl, Nat.le_of_ble_eq_true rfl⟩) ⟨gP_blind, va_recv (q0 := 1) (ci := 12) (q := (R_MoReader, F_MoReader, 22)) hK hP rfl rfl, gP_pre hPc hDc hK hgl hkn hkr hS hFc⟩ rfl rfl hl.1 rfl (lv_room (Nat.le_of_ble_eq_true rfl)) d_MoReader_scan_209 ⟨Nat.le_of_ble_eq_true rfl, Nat.le_of_ble_eq_true rfl⟩) hS (fun q _ h => hFc q h) hFc (fun u t H locs ht hvm hr69 hB hz1 hk1 hS => ?_)
                            rw [ht] at hB
                            obtain ⟨hP1, hD1⟩ := hB
                            obtain ⟨hP, hD⟩ := jn_A hP hD [1] [0, 2] rfl rfl (by decide) (by decide) hk1 hFc hP1 hD1
                            obtain ⟨hP, hD⟩ : PD g A H [(a_word, .inl (cs 1, a_word_n, .inl a_word_54f)), (a_s, .inl (cs 1, a_s_n, .inl a_s_f)), (a, .inr (12, [.ref a_sides, .ref a_ranks, .ref a_stop, .ref a_terms, .ref a_names, .ref a_s, .int a_n, .int x1_1, .int a_behind_69, .int a_token_69, .int a_open, .long a_number, .ref a_word, .int a_letters_54, .ref a_stack, .int a_top, .int a_place, .ref a_variables, .int a_variabled, .int a_known, .int a_rank, .ref a_kept]))] := ⟨hP, hD⟩
                            refine lv_goto hx hb d_MoReader_scan_212 rfl ?_
                            have hq := Option.some.inj hok
                            obtain ⟨hq0, hq⟩ := Prod.mk.inj hq
                            obtain ⟨hq1, hq⟩ := Prod.mk.inj hq
                            obtain ⟨hq2, hq⟩ := Prod.mk.inj hq
                            obtain ⟨hq3, hq⟩ := Prod.mk.inj hq
                            obtain ⟨hq4, hq⟩ := Prod.mk.inj hq
                            have hq5 := hq
                            subst hq0
                            subst hq1
                            subst hq2
                            subst hq3
                            subst hq4
                            subst hq5
                            obtain ⟨hP9, hD9⟩ := sub2 (ws' := [(a, .inr (12, [.ref a_sides, .ref a_ranks, .ref a_stop, .ref a_terms, .ref a_names, .ref a_s, .int a_n, .int x1_1, .int a_behind_69, .int a_token_69, .int a_open, .long a_number, .ref a_word, .int a_letters_54, .ref a_stack, .int a_top, .int a_place, .ref a_variables, .int a_variabled, .int a_known, .int a_rank, .ref a_kept])), (a_s, .inl (cs 1, a_s_n, .inl a_s_f)), (a_word, .inl (cs 1, a_word_n, .inl a_word_54f))]) hP hD [2, 1, 0] rfl (by decide) rfl
                            rw [hQ]
                            exact W.vret hx hb hr (fun t ht hW => ⟨⟨(), rfl, trivial, by rw [ht]; exact hP9, hD9⟩, hS.F ht⟩) hS.2.2 d_MoReader_scan_349
                          · rw [if_neg h68] at hok
                            refine lv_iconst (v := 1) hx hb d_MoReader_scan_203 (by decide) ?_
                            refine lv_goto hx hb d_MoReader_scan_204 rfl ?_
                            refine lv_iload_n hx hb d_MoReader_scan_208 rfl (lv_at hl 1 rfl) ?_
                            obtain ⟨⟨a_behind_70, a_token_70⟩, hc70, hok⟩ := bd_some hok
                            dsimp only at hok
                            obtain ⟨hPc, hDc, hFc⟩ := cut0 (wc := [(a, .inr (12, [.ref a_sides, .ref a_ranks, .ref a_stop, .ref a_terms, .ref a_names, .ref a_s, .int a_n, .int x1_1, .int a_behind, .int a_token, .int a_open, .long a_number, .ref a_word, .int a_letters_54, .ref a_stack, .int a_top, .int a_place, .ref a_variables, .int a_variabled, .int a_known, .int a_rank, .ref a_kept]))]) hP hD hS hA [1] (by decide) rfl
                            refine va_callv (va_runV (As := [.int 1, .int x1_54]) (rest := []) ⟨hx, hb, hml, hown, hg⟩ (c_MoReader_take l g cs ka a_sides a_ranks a_stop a_terms a_names a_s a_word a_stack a_variables a_kept a H.size (1 : Int32) x1_54 a_n x1_1 a_behind a_token a_open a_number a_letters_54 a_top a_place a_variabled a_known a_rank a_behind_70 a_token_70 hc70) (cwV (C := R_MoReader) 2 hg (gw_V wd_1192 wd_1193 wd_1194 wd_754 wd_1191) rfl rfl rfl (by decide +kernel) ⟨Nat.le_of_ble_eq_true rfl, Nat.le_of_ble_eq_true rfl⟩) ⟨gP_blind, va_recv (q0 := 1) (ci := 12) (q := (R_MoReader, F_MoReader, 22)) hK hP rfl rfl, gP_pre hPc hDc hK hgl hkn hkr hS hFc⟩ rfl rfl hl.1 rfl (lv_room (Nat.le_of_ble_eq_true rfl)) d_MoReader_scan_209 ⟨Nat.le_of_ble_eq_true rfl, Nat.le_of_ble_eq_true rfl⟩) hS (fun q _ h => hFc q h) hFc (fun u t H locs ht hvm hr70 hB hz1 hk1 hS => ?_)
                            rw [ht] at hB
                            obtain ⟨hP1, hD1⟩ := hB
                            obtain ⟨hP, hD⟩ := jn_A hP hD [1] [0, 2] rfl rfl (by decide) (by decide) hk1 hFc hP1 hD1
                            obtain ⟨hP, hD⟩ : PD g A H [(a_word, .inl (cs 1, a_word_n, .inl a_word_54f)), (a_s, .inl (cs 1, a_s_n, .inl a_s_f)), (a, .inr (12, [.ref a_sides, .ref a_ranks, .ref a_stop, .ref a_terms, .ref a_names, .ref a_s, .int a_n, .int x1_1, .int a_behind_70, .int a_token_70, .int a_open, .long a_number, .ref a_word, .int a_letters_54, .ref a_stack, .int a_top, .int a_place, .ref a_variables, .int a_variabled, .int a_known, .int a_rank, .ref a_kept]))] := ⟨hP, hD⟩
                            refine lv_goto hx hb d_MoReader_scan_212 rfl ?_
                            have hq := Option.some.inj hok
                            obtain ⟨hq0, hq⟩ := Prod.mk.inj hq
                            obtain ⟨hq1, hq⟩ := Prod.mk.inj hq
                            obtain ⟨hq2, hq⟩ := Prod.mk.inj hq
                            obtain ⟨hq3, hq⟩ := Prod.mk.inj hq
                            obtain ⟨hq4, hq⟩ := Prod.mk.inj hq
                            have hq5 := hq
                            subst hq0
                            subst hq1
                            subst hq2
                            subst hq3
                            subst hq4
                            subst hq5
                            obtain ⟨hP9, hD9⟩ := sub2 (ws' := [(a, .inr (12, [.ref a_sides, .ref a_ranks, .ref a_stop, .ref a_terms, .ref a_names, .ref a_s, .int a_n, .int x1_1, .int a_behind_70, .int a_token_70, .int a_open, .long a_number, .ref a_word, .int a_letters_54, .ref a_stack, .int a_top, .int a_place, .ref a_variables, .int a_variabled, .int a_known, .int a_rank, .ref a_kept])), (a_s, .inl (cs 1, a_s_n, .inl a_s_f)), (a_word, .inl (cs 1, a_word_n, .inl a_word_54f))]) hP hD [2, 1, 0] rfl (by decide) rfl
                            rw [hQ]
                            exact W.vret hx hb hr (fun t ht hW => ⟨⟨(), rfl, trivial, by rw [ht]; exact hP9, hD9⟩, hS.F ht⟩) hS.2.2 d_MoReader_scan_349
                        · rw [if_neg h66] at hok
                          exact J57 _ _ _ (lv_sub hl [0, 1, 2] rfl) (sub3 hP hD [0, 1, 2] (by decide)) hS hok
                exact J54 n H locs ls x1_1 (0 : Int32) a_word_f hl ⟨hP, hD⟩ hS hok
          · rw [if_pos h4] at hok
            refine lv_aload_n hx hb d_MoReader_scan_115 rfl (lv_at hl 2 rfl) ?_
            refine lv_bipush (v := 13) hx hb d_MoReader_scan_116 (by decide) ?_
            refine va_put (D := g) (ci := 12) (v := .int 13) (ty := .int) (C := R_MoReader) (T := F_MoReader) (N := 22) hx hb hg ul_MoReader t_MoReader tk_MoReader n_MoReader hown hK hP hD hS 0 rfl rfl 9 (by decide) (hg _ wd_1179) (fun _ h9 => h9) rfl (by decide +kernel) rfl rfl (Nat.le_of_ble_eq_true rfl) d_MoReader_scan_118 (fun H locs hP hD hS => ?_)
            obtain ⟨hP, hD⟩ : PD g A H [(a, .inr (12, [.ref a_sides, .ref a_ranks, .ref a_stop, .ref a_terms, .ref a_names, .ref a_s, .int a_n, .int x1_1, .int a_behind, .int 13, .int a_open, .long a_number, .ref a_word, .int 0, .ref a_stack, .int a_top, .int a_place, .ref a_variables, .int a_variabled, .int a_known, .int a_rank, .ref a_kept])), (a_s, .inl (cs 1, a_s_n, .inl a_s_f)), (a_word, .inl (cs 1, a_word_n, .inl a_word_f))] := ⟨hP, hD⟩
            refine lv_aload_n hx hb d_MoReader_scan_121 rfl (lv_at hl 2 rfl) ?_
            refine lv_aload_n hx hb d_MoReader_scan_122 rfl (lv_at hl 2 rfl) ?_
            refine va_get (D := g) (ci := 12) (v := .int a_n) (C := R_MoReader) (T := F_MoReader) (N := 22) hx hb hg ul_MoReader hown hK hP 0 rfl rfl 6 (by decide) (hg _ wd_1175) (fun _ h9 => h9) rfl d_MoReader_scan_123 ?_
            refine va_put (D := g) (ci := 12) (v := .int a_n) (ty := .int) (C := R_MoReader) (T := F_MoReader) (N := 22) hx hb hg ul_MoReader t_MoReader tk_MoReader n_MoReader hown hK hP hD hS 0 rfl rfl 8 (by decide) (hg _ wd_1180) (fun _ h9 => h9) rfl (by decide +kernel) rfl rfl (Nat.le_of_ble_eq_true rfl) d_MoReader_scan_126 (fun H locs hP hD hS => ?_)
            obtain ⟨hP, hD⟩ : PD g A H [(a, .inr (12, [.ref a_sides, .ref a_ranks, .ref a_stop, .ref a_terms, .ref a_names, .ref a_s, .int a_n, .int x1_1, .int a_n, .int 13, .int a_open, .long a_number, .ref a_word, .int 0, .ref a_stack, .int a_top, .int a_place, .ref a_variables, .int a_variabled, .int a_known, .int a_rank, .ref a_kept])), (a_s, .inl (cs 1, a_s_n, .inl a_s_f)), (a_word, .inl (cs 1, a_word_n, .inl a_word_f))] := ⟨hP, hD⟩
            refine lv_goto hx hb d_MoReader_scan_129 rfl ?_
            have hq := Option.some.inj hok
            obtain ⟨hq0, hq⟩ := Prod.mk.inj hq
            obtain ⟨hq1, hq⟩ := Prod.mk.inj hq
            obtain ⟨hq2, hq⟩ := Prod.mk.inj hq
            obtain ⟨hq3, hq⟩ := Prod.mk.inj hq
            obtain ⟨hq4, hq⟩ := Prod.mk.inj hq
            have hq5 := hq
            subst hq0
            subst hq1
            subst hq2
            subst hq3
            subst hq4
            subst hq5
            obtain ⟨hP9, hD9⟩ := sub2 (ws' := [(a, .inr (12, [.ref a_sides, .ref a_ranks, .ref a_stop, .ref a_terms, .ref a_names, .ref a_s, .int a_n, .int x1_1, .int a_n, .int 13, .int a_open, .long a_number, .ref a_word, .int 0, .ref a_stack, .int a_top, .int a_place, .ref a_variables, .int a_variabled, .int a_known, .int a_rank, .ref a_kept])), (a_s, .inl (cs 1, a_s_n, .inl a_s_f)), (a_word, .inl (cs 1, a_word_n, .inl a_word_f))]) hP hD [0, 1, 2] rfl (by decide) rfl
            rw [hQ]
            exact W.vret hx hb hr (fun t ht hW => ⟨⟨(), rfl, trivial, by rw [ht]; exact hP9, hD9⟩, hS.F ht⟩) hS.2.2 d_MoReader_scan_349
        refine lv_icmp_ge hx hb d_MoReader_scan_93 rfl (fun h71 => ?_) (fun h71 => ?_)
        · rw [if_pos h71] at hok
          refine lv_iconst (v := (-1)) hx hb d_MoReader_scan_105 (by decide) ?_
          exact J3 _ _ _ ((-1) : Int32) (lv_sub hl [0, 1] rfl) (sub3 hP hD [0, 1, 2] (by decide)) hS hok
        · rw [if_neg h71] at hok
          refine lv_aload_n hx hb d_MoReader_scan_96 rfl (lv_at hl 1 rfl) ?_
          refine va_get (D := g) (ci := 12) (v := .ref a_s) (C := R_MoReader) (T := F_MoReader) (N := 22) hx hb hg ul_MoReader hown hK hP 0 rfl rfl 5 (by decide) (hg _ wd_1176) (fun _ h9 => h9) rfl d_MoReader_scan_97 ?_
          refine lv_iload_n hx hb d_MoReader_scan_100 rfl (lv_at hl 0 rfl) ?_
          obtain ⟨hi72, hok⟩ := ck_some hok
          refine va_bald hx hb hK hP 1 1 rfl rfl (ixb_in hi72) d_MoReader_scan_101 ?_
          refine lv_goto hx hb d_MoReader_scan_102 rfl ?_
          exact J3 _ _ _ (a_s_f x1_1.toNatClampNeg) (lv_sub hl [0, 1] rfl) (sub3 hP hD [0, 1, 2] (by decide)) hS hok
      refine lv_icmp_ge hx hb d_MoReader_scan_10 rfl (fun h73 => ?_) (fun h73 => ?_)
      · rw [if_pos h73] at hok
        exact J2 _ _ _ (lv_sub hl [0, 1] rfl) (sub3 hP hD [0, 1, 2] (by decide)) hS hok
      · rw [if_neg h73] at hok
        refine lv_aload_n hx hb d_MoReader_scan_13 rfl (lv_at hl 1 rfl) ?_
        refine va_get (D := g) (ci := 12) (v := .ref a_s) (C := R_MoReader) (T := F_MoReader) (N := 22) hx hb hg ul_MoReader hown hK hP 0 rfl rfl 5 (by decide) (hg _ wd_1176) (fun _ h9 => h9) rfl d_MoReader_scan_14 ?_
        refine lv_iload_n hx hb d_MoReader_scan_17 rfl (lv_at hl 0 rfl) ?_
        obtain ⟨hi74, hok⟩ := ck_some hok
        refine va_bald hx hb hK hP 1 1 rfl rfl (ixb_in hi74) d_MoReader_scan_18 ?_
        obtain ⟨r75, hc75, hok⟩ := bd_some hok
        obtain ⟨hPc, hDc, hFc⟩ := cut0 (wc := []) hP hD hS hA [] (by decide) rfl
        refine va_calli (va_runS (As := [.int (a_s_f x1_1.toNatClampNeg)]) (rest := []) ⟨hx, hb, hml, hown, hg⟩ (c_MoReader_blank l g cs ka H.size (a_s_f x1_1.toNatClampNeg) r75 hc75) (va_cwS 1 hg (gw_S wd_1213 wd_1214 wd_754 wd_1212) rfl rfl rfl (by decide +kernel) ⟨Nat.le_of_ble_eq_true rfl, Nat.le_of_ble_eq_true rfl⟩) ⟨gP_blind, gP_pre hPc hDc hK hgl hkn hkr hS hFc⟩ rfl rfl hl.1 rfl (lv_room (Nat.le_of_ble_eq_true rfl)) d_MoReader_scan_19 ⟨Nat.le_of_ble_eq_true rfl, Nat.le_of_ble_eq_true rfl⟩) hS (fun q _ h => hFc q h) hFc (fun r75' u t H locs ht hvm hr75 hB hz1 hk1 hS => ?_)
        subst hr75
        rw [ht] at hB
        obtain ⟨hP1, hD1⟩ := hB
        obtain ⟨hP, hD⟩ := jn_A hP hD [] [0, 1, 2] rfl rfl (by decide) (by decide) hk1 hFc hP1 hD1
        obtain ⟨hP, hD⟩ : PD g A H [(a, .inr (12, [.ref a_sides, .ref a_ranks, .ref a_stop, .ref a_terms, .ref a_names, .ref a_s, .int a_n, .int a_at, .int a_behind, .int a_token, .int a_open, .long a_number, .ref a_word, .int a_letters, .ref a_stack, .int a_top, .int a_place, .ref a_variables, .int a_variabled, .int a_known, .int a_rank, .ref a_kept])), (a_s, .inl (cs 1, a_s_n, .inl a_s_f)), (a_word, .inl (cs 1, a_word_n, .inl a_word_f))] := ⟨hP, hD⟩
        have J76 : ∀ (H : Heap) (locs : List Loc) (ls : Array Slot), lv_has ls 4 [(1, .int x1_1), (0, .ref a)] → PD g A H [(a, .inr (12, [.ref a_sides, .ref a_ranks, .ref a_stop, .ref a_terms, .ref a_names, .ref a_s, .int a_n, .int a_at, .int a_behind, .int a_token, .int a_open, .long a_number, .ref a_word, .int a_letters, .ref a_stack, .int a_top, .int a_place, .ref a_variables, .int a_variabled, .int a_known, .int a_rank, .ref a_kept])), (a_s, .inl (cs 1, a_s_n, .inl a_s_f)), (a_word, .inl (cs 1, a_word_n, .inl a_word_f))] → va_S A s.heap H locs → p_MoReader_scan_36 n a_n a_s_n a_s_f x1_1 (fun w0 => p_MoReader_scan_5 n a_n a_behind a_token a_open a_number a_top a_place a_variabled a_known a_rank a_s_n a_s_f a_word_n a_word_f kf1 w0) = some (o_a_at, o_a_behind, o_a_token, o_a_number, o_a_letters, o_a_word_f) → W p l e (headSpec (.code y_MoReader_scan b_MoReader_scan 4 none :: GW) { frames := 5, cells := 0, slots := 0, locals := 111 }).room s m ([.ref a] : List Value).toArray below meth c H locs 0 0 Q (F0 m 36 ls []) := by
          intro H locs ls hl ⟨hP, hD⟩ hS hok
          unfold p_MoReader_scan_36 at hok
          refine lv_aload_n hx hb d_MoReader_scan_36 rfl (lv_at hl 1 rfl) ?_
          refine va_get (D := g) (ci := 12) (v := .ref a_s) (C := R_MoReader) (T := F_MoReader) (N := 22) hx hb hg ul_MoReader hown hK hP 0 rfl rfl 5 (by decide) (hg _ wd_1176) (fun _ h9 => h9) rfl d_MoReader_scan_37 ?_
          refine lv_iload_n hx hb d_MoReader_scan_40 rfl (lv_at hl 0 rfl) ?_
          obtain ⟨hi77, hok⟩ := ck_some hok
          refine va_bald hx hb hK hP 1 1 rfl rfl (ixb_in hi77) d_MoReader_scan_41 ?_
          refine lv_bipush (v := 37) hx hb d_MoReader_scan_42 (by decide) ?_
          refine lv_icmp_ne hx hb d_MoReader_scan_44 rfl (fun h78 => ?_) (fun h78 => ?_)
          · rw [if_neg h78] at hok
            refine lv_iinc (k := 0) (v := x1_1 + 1) hx hb d_MoReader_scan_72 hl rfl rfl (by decide) rfl (fun ls hl => ?_)
            have hl : lv_has ls 4 [(1, .int (x1_1 + 1)), (0, .ref a)] := hl
            refine lv_goto hx hb d_MoReader_scan_75 rfl ?_
            exact ih1 _ _ _ (x1_1 + 1) (lv_sub hl [0, 1] rfl) (sub3 hP hD [0, 1, 2] (by decide)) hS hok
          · rw [if_pos h78] at hok
            have J79 : ∀ (kf79 : Nat) (H : Heap) (locs : List Loc) (ls : Array Slot) (x1_79 : Int32), lv_has ls 4 [(1, .int x1_79), (0, .ref a)] → PD g A H [(a, .inr (12, [.ref a_sides, .ref a_ranks, .ref a_stop, .ref a_terms, .ref a_names, .ref a_s, .int a_n, .int a_at, .int a_behind, .int a_token, .int a_open, .long a_number, .ref a_word, .int a_letters, .ref a_stack, .int a_top, .int a_place, .ref a_variables, .int a_variabled, .int a_known, .int a_rank, .ref a_kept])), (a_s, .inl (cs 1, a_s_n, .inl a_s_f)), (a_word, .inl (cs 1, a_word_n, .inl a_word_f))] → va_S A s.heap H locs → p_MoReader_scan_47 n a_n a_s_n a_s_f (fun w0 => p_MoReader_scan_5 n a_n a_behind a_token a_open a_number a_top a_place a_variabled a_known a_rank a_s_n a_s_f a_word_n a_word_f kf1 w0) kf79 x1_79 = some (o_a_at, o_a_behind, o_a_token, o_a_number, o_a_letters, o_a_word_f) → W p l e (headSpec (.code y_MoReader_scan b_MoReader_scan 4 none :: GW) { frames := 5, cells := 0, slots := 0, locals := 111 }).room s m ([.ref a] : List Value).toArray below meth c H locs 0 0 Q (F0 m 47 ls []) := by
              intro kf79
              induction kf79 with
              | zero => intro H locs ls x1_79 hl ⟨hP, hD⟩ hS hok; rw [p_MoReader_scan_47] at hok; cases hok
              | succ kf79 ih79 =>
                intro H locs ls x1_79 hl ⟨hP, hD⟩ hS hok
                rw [p_MoReader_scan_47] at hok
                refine lv_iload_n hx hb d_MoReader_scan_47 rfl (lv_at hl 0 rfl) ?_
                refine lv_aload_n hx hb d_MoReader_scan_48 rfl (lv_at hl 1 rfl) ?_
                refine va_get (D := g) (ci := 12) (v := .int a_n) (C := R_MoReader) (T := F_MoReader) (N := 22) hx hb hg ul_MoReader hown hK hP 0 rfl rfl 6 (by decide) (hg _ wd_1175) (fun _ h9 => h9) rfl d_MoReader_scan_49 ?_
                refine lv_icmp_ge hx hb d_MoReader_scan_52 rfl (fun h80 => ?_) (fun h80 => ?_)
                · rw [if_pos h80] at hok
                  exact ih1 _ _ _ x1_79 (lv_sub hl [0, 1] rfl) (sub3 hP hD [0, 1, 2] (by decide)) hS hok
                · rw [if_neg h80] at hok
                  refine lv_aload_n hx hb d_MoReader_scan_55 rfl (lv_at hl 1 rfl) ?_
                  refine va_get (D := g) (ci := 12) (v := .ref a_s) (C := R_MoReader) (T := F_MoReader) (N := 22) hx hb hg ul_MoReader hown hK hP 0 rfl rfl 5 (by decide) (hg _ wd_1176) (fun _ h9 => h9) rfl d_MoReader_scan_56 ?_
                  refine lv_iload_n hx hb d_MoReader_scan_59 rfl (lv_at hl 0 rfl) ?_
                  obtain ⟨hi81, hok⟩ := ck_some hok
                  refine va_bald hx hb hK hP 1 1 rfl rfl (ixb_in hi81) d_MoReader_scan_60 ?_
                  refine lv_bipush (v := 10) hx hb d_MoReader_scan_61 (by decide) ?_
                  refine lv_icmp_eq hx hb d_MoReader_scan_63 rfl (fun h82 => ?_) (fun h82 => ?_)
                  · rw [if_pos h82] at hok
                    exact ih1 _ _ _ x1_79 (lv_sub hl [0, 1] rfl) (sub3 hP hD [0, 1, 2] (by decide)) hS hok
                  · rw [if_neg h82] at hok
                    refine lv_iinc (k := 0) (v := x1_79 + 1) hx hb d_MoReader_scan_66 hl rfl rfl (by decide) rfl (fun ls hl => ?_)
                    have hl : lv_has ls 4 [(1, .int (x1_79 + 1)), (0, .ref a)] := hl
                    refine lv_goto hx hb d_MoReader_scan_69 rfl ?_
                    exact ih79 _ _ _ (x1_79 + 1) (lv_sub hl [0, 1] rfl) (sub3 hP hD [0, 1, 2] (by decide)) hS hok
            exact J79 n H locs ls x1_1 hl ⟨hP, hD⟩ hS hok
        refine lv_if_ne hx hb d_MoReader_scan_22 rfl (fun h83 => ?_) (fun h83 => ?_)
        · rw [if_neg h83] at hok
          exact J76 _ _ _ (lv_sub hl [0, 1] rfl) (sub3 hP hD [0, 1, 2] (by decide)) hS hok
        · rw [if_pos h83] at hok
          refine lv_aload_n hx hb d_MoReader_scan_25 rfl (lv_at hl 1 rfl) ?_
          refine va_get (D := g) (ci := 12) (v := .ref a_s) (C := R_MoReader) (T := F_MoReader) (N := 22) hx hb hg ul_MoReader hown hK hP 0 rfl rfl 5 (by decide) (hg _ wd_1176) (fun _ h9 => h9) rfl d_MoReader_scan_26 ?_
          refine lv_iload_n hx hb d_MoReader_scan_29 rfl (lv_at hl 0 rfl) ?_
          obtain ⟨hi84, hok⟩ := ck_some hok
          refine va_bald hx hb hK hP 1 1 rfl rfl (ixb_in hi84) d_MoReader_scan_30 ?_
          refine lv_bipush (v := 37) hx hb d_MoReader_scan_31 (by decide) ?_
          refine lv_icmp_ne hx hb d_MoReader_scan_33 rfl (fun h85 => ?_) (fun h85 => ?_)
          · rw [if_neg h85] at hok
            exact J2 _ _ _ (lv_sub hl [0, 1] rfl) (sub3 hP hD [0, 1, 2] (by decide)) hS hok
          · rw [if_pos h85] at hok
            exact J76 _ _ _ (lv_sub hl [0, 1] rfl) (sub3 hP hD [0, 1, 2] (by decide)) hS hok
  exact J1 n H locs ls a_behind hl ⟨hP, hD⟩ hS hok

theorem d_MoReader_spells_0 : decode b_MoReader_spells 0 = .ok (.aload_n 0, 1) := by decide +kernel
theorem d_MoReader_spells_1 : decode b_MoReader_spells 1 = .ok (.getfield 139, 3) := by decide +kernel
theorem d_MoReader_spells_4 : decode b_MoReader_spells 4 = .ok (.aload_n 1, 1) := by decide +kernel
theorem d_MoReader_spells_5 : decode b_MoReader_spells 5 = .ok (.invokevirtual 184, 3) := by decide +kernel
theorem d_MoReader_spells_8 : decode b_MoReader_spells 8 = .ok (.if_icmp .eq 5, 3) := by decide +kernel
theorem d_MoReader_spells_11 : decode b_MoReader_spells 11 = .ok (.iconst 0, 1) := by decide +kernel
theorem d_MoReader_spells_12 : decode b_MoReader_spells 12 = .ok (.ireturn, 1) := by decide +kernel
theorem d_MoReader_spells_13 : decode b_MoReader_spells 13 = .ok (.iconst 0, 1) := by decide +kernel
theorem d_MoReader_spells_14 : decode b_MoReader_spells 14 = .ok (.istore_n 2, 1) := by decide +kernel
theorem d_MoReader_spells_15 : decode b_MoReader_spells 15 = .ok (.iload_n 2, 1) := by decide +kernel
theorem d_MoReader_spells_16 : decode b_MoReader_spells 16 = .ok (.aload_n 0, 1) := by decide +kernel
theorem d_MoReader_spells_17 : decode b_MoReader_spells 17 = .ok (.getfield 139, 3) := by decide +kernel
theorem d_MoReader_spells_20 : decode b_MoReader_spells 20 = .ok (.if_icmp .ge 25, 3) := by decide +kernel
theorem d_MoReader_spells_23 : decode b_MoReader_spells 23 = .ok (.aload_n 0, 1) := by decide +kernel
theorem d_MoReader_spells_24 : decode b_MoReader_spells 24 = .ok (.getfield 68, 3) := by decide +kernel
theorem d_MoReader_spells_27 : decode b_MoReader_spells 27 = .ok (.iload_n 2, 1) := by decide +kernel
theorem d_MoReader_spells_28 : decode b_MoReader_spells 28 = .ok (.baload, 1) := by decide +kernel
theorem d_MoReader_spells_29 : decode b_MoReader_spells 29 = .ok (.aload_n 1, 1) := by decide +kernel
theorem d_MoReader_spells_30 : decode b_MoReader_spells 30 = .ok (.iload_n 2, 1) := by decide +kernel
theorem d_MoReader_spells_31 : decode b_MoReader_spells 31 = .ok (.invokevirtual 188, 3) := by decide +kernel
theorem d_MoReader_spells_34 : decode b_MoReader_spells 34 = .ok (.if_icmp .eq 5, 3) := by decide +kernel
theorem d_MoReader_spells_37 : decode b_MoReader_spells 37 = .ok (.iconst 0, 1) := by decide +kernel
theorem d_MoReader_spells_38 : decode b_MoReader_spells 38 = .ok (.ireturn, 1) := by decide +kernel
theorem d_MoReader_spells_39 : decode b_MoReader_spells 39 = .ok (.iinc 2 1, 3) := by decide +kernel
theorem d_MoReader_spells_42 : decode b_MoReader_spells 42 = .ok (.goto (-27), 3) := by decide +kernel
theorem d_MoReader_spells_45 : decode b_MoReader_spells 45 = .ok (.iconst 1, 1) := by decide +kernel
theorem d_MoReader_spells_46 : decode b_MoReader_spells 46 = .ok (.ireturn, 1) := by decide +kernel
def p_MoReader_spells_15 (n : Nat) (sx : Nat) (a_letters : Int32) (a_word_n : Nat) (a_word_f : Nat → Int32) (kf3 : Nat) (x2_3 : Int32) : Option Int32 := match kf3 with
  | 0 => none
  | kf3 + 1 => if a_letters ≤ x2_3 then (some (1 : Int32)) else (ck (ixb x2_3 a_word_n) ((p_String_charAt sx x2_3).bind (fun r6 => if (a_word_f x2_3.toNatClampNeg) = r6 then (p_MoReader_spells_15 n sx a_letters a_word_n a_word_f kf3 (x2_3 + 1)) else (some (0 : Int32)))))
def p_MoReader_spells (n : Nat) (sx : Nat) (a_n : Int32) (a_at : Int32) (a_behind : Int32) (a_token : Int32) (a_open : Int32) (a_number : Int64) (a_letters : Int32) (a_top : Int32) (a_place : Int32) (a_variabled : Int32) (a_known : Int32) (a_rank : Int32) (a_word_n : Nat) (a_word_f : Nat → Int32) : Option Int32 := ck (decide (sx < kn_n)) ((p_String_length sx).bind (fun r1 => if a_letters = r1 then (p_MoReader_spells_15 n sx a_letters a_word_n a_word_f n (0 : Int32)) else (some (0 : Int32))))
set_option maxHeartbeats 40000000 in
set_option maxRecDepth 100000 in
theorem c_MoReader_spells (l : Launch) (g : va_G) (cs : Nat → ClassId) (ka : Nat → Nat) (a_sides : Nat) (a_ranks : Nat) (a_stop : Nat) (a_terms : Nat) (a_names : Nat) (a_s : Nat) (a_stack : Nat) (a_variables : Nat) (a_kept : Nat) (a a_word : Nat) (sz : Nat) (n : Nat) (sx : Nat) (a_n : Int32) (a_at : Int32) (a_behind : Int32) (a_token : Int32) (a_open : Int32) (a_number : Int64) (a_letters : Int32) (a_top : Int32) (a_place : Int32) (a_variabled : Int32) (a_known : Int32) (a_rank : Int32) (a_word_n : Nat) (a_word_f : Nat → Int32) (r : Int32) (hok : p_MoReader_spells n sx a_n a_at a_behind a_token a_open a_number a_letters a_top a_place a_variabled a_known a_rank a_word_n a_word_f = some r) : Met l y_MoReader_spells (.code y_MoReader_spells b_MoReader_spells 3 (some .boolean) :: GW) { frames := 4, cells := 0, slots := 0, locals := 85 } (va_Pc [.ref a, .ref (ka (200 + sx))] (gP g cs ka [(a, .inr (12, [.ref a_sides, .ref a_ranks, .ref a_stop, .ref a_terms, .ref a_names, .ref a_s, .int a_n, .int a_at, .int a_behind, .int a_token, .int a_open, .long a_number, .ref a_word, .int a_letters, .ref a_stack, .int a_top, .int a_place, .ref a_variables, .int a_variabled, .int a_known, .int a_rank, .ref a_kept])), (a_word, .inl (cs 1, a_word_n, .inl a_word_f))] sz)) (va_Qi (fun (r' : Int32) (_ : Unit) => r = r') (fun _ t => va_P g classes [(a, .inr (12, [.ref a_sides, .ref a_ranks, .ref a_stop, .ref a_terms, .ref a_names, .ref a_s, .int a_n, .int a_at, .int a_behind, .int a_token, .int a_open, .long a_number, .ref a_word, .int a_letters, .ref a_stack, .int a_top, .int a_place, .ref a_variables, .int a_variabled, .int a_known, .int a_rank, .ref a_kept])), (a_word, .inl (cs 1, a_word_n, .inl a_word_f))] t.heap ∧ va_D (va_A [(a, .inr (12, [.ref a_sides, .ref a_ranks, .ref a_stop, .ref a_terms, .ref a_names, .ref a_s, .int a_n, .int a_at, .int a_behind, .int a_token, .int a_open, .long a_number, .ref a_word, .int a_letters, .ref a_stack, .int a_top, .int a_place, .ref a_variables, .int a_variabled, .int a_known, .int a_rank, .ref a_kept])), (a_word, .inl (cs 1, a_word_n, .inl a_word_f))] sz) [(a, .inr (12, [.ref a_sides, .ref a_ranks, .ref a_stop, .ref a_terms, .ref a_names, .ref a_s, .int a_n, .int a_at, .int a_behind, .int a_token, .int a_open, .long a_number, .ref a_word, .int a_letters, .ref a_stack, .int a_top, .int a_place, .ref a_variables, .int a_variabled, .int a_known, .int a_rank, .ref a_kept])), (a_word, .inl (cs 1, a_word_n, .inl a_word_f))]) (va_A [(a, .inr (12, [.ref a_sides, .ref a_ranks, .ref a_stop, .ref a_terms, .ref a_names, .ref a_s, .int a_n, .int a_at, .int a_behind, .int a_token, .int a_open, .long a_number, .ref a_word, .int a_letters, .ref a_stack, .int a_top, .int a_place, .ref a_variables, .int a_variabled, .int a_known, .int a_rank, .ref a_kept])), (a_word, .inl (cs 1, a_word_n, .inl a_word_f))] sz)) 0 0 (va_A [(a, .inr (12, [.ref a_sides, .ref a_ranks, .ref a_stop, .ref a_terms, .ref a_names, .ref a_s, .int a_n, .int a_at, .int a_behind, .int a_token, .int a_open, .long a_number, .ref a_word, .int a_letters, .ref a_stack, .int a_top, .int a_place, .ref a_variables, .int a_variabled, .int a_known, .int a_rank, .ref a_kept])), (a_word, .inl (cs 1, a_word_n, .inl a_word_f))] sz) := by
  refine Met.ofW (cc := b_MoReader_spells) (maxL := 3) (ret := (some .boolean)) (by decide) rfl ?_
  intro p e s m args below meth c s₁ B hml hv
  obtain ⟨rfl, hsz, hP, hK, hD0, hgl, hkn, hkr⟩ := hv
  have hx := B.exec
  have hb := B.bytes
  have hr := B.returns
  have hg : ∀ w ∈ GW, w.before ([.ref a, .ref (ka (200 + sx))] : List Value).toArray s = true := fun w hw => atoms_spec (ws := .code y_MoReader_spells b_MoReader_spells 3 (some .boolean) :: GW) B.pre w (List.mem_cons_of_mem _ hw)
  have hown : s.vm.findClass R_MoReader = some m.cls := findClass_of_methodNamed B.named
  have hlocks := B.notSynchronized
  subst hsz
  have hD := hD0.self (sz := s.heap.size)
  generalize hAe : va_A [(a, .inr (12, [.ref a_sides, .ref a_ranks, .ref a_stop, .ref a_terms, .ref a_names, .ref a_s, .int a_n, .int a_at, .int a_behind, .int a_token, .int a_open, .long a_number, .ref a_word, .int a_letters, .ref a_stack, .int a_top, .int a_place, .ref a_variables, .int a_variabled, .int a_known, .int a_rank, .ref a_kept])), (a_word, .inl (cs 1, a_word_n, .inl a_word_f))] s.heap.size = A at hD hkn ⊢
  have hA : ∀ q : Nat, s.heap.size ≤ q → A q := fun q h => by rw [← hAe]; exact Or.inr h
  have hS : va_S A s.heap s.heap [] := va_S.rf
  have hP : va_P g classes [(a, .inr (12, [.ref a_sides, .ref a_ranks, .ref a_stop, .ref a_terms, .ref a_names, .ref a_s, .int a_n, .int a_at, .int a_behind, .int a_token, .int a_open, .long a_number, .ref a_word, .int a_letters, .ref a_stack, .int a_top, .int a_place, .ref a_variables, .int a_variabled, .int a_known, .int a_rank, .ref a_kept])), (a_word, .inl (cs 1, a_word_n, .inl a_word_f))] s.heap := hP
  have hl := lv_entry ([.ref a, .ref (ka (200 + sx))]) (n := 3) (Nat.le_of_ble_eq_true rfl)
  rw [lg_entry_eq]
  generalize (lg_sl ([.ref a, .ref (ka (200 + sx))]) ++ List.replicate (3 - (lg_sl ([.ref a, .ref (ka (200 + sx))])).length) Slot.unset).toArray = ls at hl ⊢
  have hl : lv_has ls 3 [(0, .ref a), (1, .ref (ka (200 + sx)))] := hl
  refine gq (fun Q hQ => ?_)
  obtain ⟨H, hH⟩ : ∃ H : Heap, H = s.heap := ⟨_, rfl⟩
  rw [← hH] at hP
  have hS : va_S A s.heap H [] := by rw [hH]; exact hS
  refine W.eqH hH ?_
  obtain ⟨locs, hlc⟩ : ∃ L : List Loc, L = [] := ⟨_, rfl⟩
  rw [← hlc] at hS ⊢
  unfold p_MoReader_spells at hok
  obtain ⟨hb_sx, hok⟩ := ck_some hok
  have hb_sx := of_decide_eq_true hb_sx
  refine lv_aload_n hx hb d_MoReader_spells_0 rfl (lv_at hl 0 rfl) ?_
  refine va_get (D := g) (ci := 12) (v := .int a_letters) (C := R_MoReader) (T := F_MoReader) (N := 22) hx hb hg ul_MoReader hown hK hP 0 rfl rfl 13 (by decide) (hg _ wd_1178) (fun _ h9 => h9) rfl d_MoReader_spells_1 ?_
  refine lv_aload_n hx hb d_MoReader_spells_4 rfl (lv_at hl 1 rfl) ?_
  obtain ⟨r1, hc1, hok⟩ := bd_some hok
  obtain ⟨hPc, hDc, hFc⟩ := cut0 (wc := []) hP hD hS hA [] (by decide) rfl
  refine va_calli (va_runV (As := []) (rest := [.int a_letters]) ⟨hx, hb, hml, hown, hg⟩ (c_String_length l g cs ka H.size sx r1 hc1) (cwV (C := "java/lang/String") 0 hg (gw_V wd_1223 wd_196 wd_197 wd_164 wd_194) rfl rfl rfl (by decide +kernel) ⟨Nat.le_of_ble_eq_true rfl, Nat.le_of_ble_eq_true rfl⟩) ⟨gP_blind, kn_recv hkn hb_sx hS, gP_pre hPc hDc hK hgl hkn hkr hS hFc⟩ rfl rfl hl.1 rfl (lv_room (Nat.le_of_ble_eq_true rfl)) d_MoReader_spells_5 ⟨Nat.le_of_ble_eq_true rfl, Nat.le_of_ble_eq_true rfl⟩) hS (fun q _ h => hFc q h) hFc (fun r1' u t H locs ht hvm hr1 hB hz1 hk1 hS => ?_)
  subst hr1
  rw [ht] at hB
  obtain ⟨hP1, hD1⟩ := hB
  obtain ⟨hP, hD⟩ := jn_A hP hD [] [0, 1] rfl rfl (by decide) (by decide) hk1 hFc hP1 hD1
  obtain ⟨hP, hD⟩ : PD g A H [(a, .inr (12, [.ref a_sides, .ref a_ranks, .ref a_stop, .ref a_terms, .ref a_names, .ref a_s, .int a_n, .int a_at, .int a_behind, .int a_token, .int a_open, .long a_number, .ref a_word, .int a_letters, .ref a_stack, .int a_top, .int a_place, .ref a_variables, .int a_variabled, .int a_known, .int a_rank, .ref a_kept])), (a_word, .inl (cs 1, a_word_n, .inl a_word_f))] := ⟨hP, hD⟩
  refine lv_icmp_eq hx hb d_MoReader_spells_8 rfl (fun h2 => ?_) (fun h2 => ?_)
  · rw [if_pos h2] at hok
    refine lv_iconst (v := 0) hx hb d_MoReader_spells_13 (by decide) ?_
    refine lv_istore_n hx hb d_MoReader_spells_14 rfl hl (by decide) rfl (fun ls hl => ?_)
    have hl : lv_has ls 3 [(2, .int 0), (0, .ref a), (1, .ref (ka (200 + sx)))] := hl
    have J3 : ∀ (kf3 : Nat) (H : Heap) (locs : List Loc) (ls : Array Slot) (x2_3 : Int32), lv_has ls 3 [(2, .int x2_3), (0, .ref a), (1, .ref (ka (200 + sx)))] → PD g A H [(a, .inr (12, [.ref a_sides, .ref a_ranks, .ref a_stop, .ref a_terms, .ref a_names, .ref a_s, .int a_n, .int a_at, .int a_behind, .int a_token, .int a_open, .long a_number, .ref a_word, .int a_letters, .ref a_stack, .int a_top, .int a_place, .ref a_variables, .int a_variabled, .int a_known, .int a_rank, .ref a_kept])), (a_word, .inl (cs 1, a_word_n, .inl a_word_f))] → va_S A s.heap H locs → p_MoReader_spells_15 n sx a_letters a_word_n a_word_f kf3 x2_3 = some r → W p l e (headSpec (.code y_MoReader_spells b_MoReader_spells 3 (some .boolean) :: GW) { frames := 4, cells := 0, slots := 0, locals := 85 }).room s m ([.ref a, .ref (ka (200 + sx))] : List Value).toArray below meth c H locs 0 0 Q (F0 m 15 ls []) := by
      intro kf3
      induction kf3 with
      | zero => intro H locs ls x2_3 hl ⟨hP, hD⟩ hS hok; rw [p_MoReader_spells_15] at hok; cases hok
      | succ kf3 ih3 =>
        intro H locs ls x2_3 hl ⟨hP, hD⟩ hS hok
        rw [p_MoReader_spells_15] at hok
        refine lv_iload_n hx hb d_MoReader_spells_15 rfl (lv_at hl 0 rfl) ?_
        refine lv_aload_n hx hb d_MoReader_spells_16 rfl (lv_at hl 1 rfl) ?_
        refine va_get (D := g) (ci := 12) (v := .int a_letters) (C := R_MoReader) (T := F_MoReader) (N := 22) hx hb hg ul_MoReader hown hK hP 0 rfl rfl 13 (by decide) (hg _ wd_1178) (fun _ h9 => h9) rfl d_MoReader_spells_17 ?_
        refine lv_icmp_ge hx hb d_MoReader_spells_20 rfl (fun h4 => ?_) (fun h4 => ?_)
        · rw [if_pos h4] at hok
          refine lv_iconst (v := 1) hx hb d_MoReader_spells_45 (by decide) ?_
          have hq := Option.some.inj hok
          have hq0 := hq
          subst hq0
          obtain ⟨hP9, hD9⟩ := sub2 (ws' := [(a, .inr (12, [.ref a_sides, .ref a_ranks, .ref a_stop, .ref a_terms, .ref a_names, .ref a_s, .int a_n, .int a_at, .int a_behind, .int a_token, .int a_open, .long a_number, .ref a_word, .int a_letters, .ref a_stack, .int a_top, .int a_place, .ref a_variables, .int a_variabled, .int a_known, .int a_rank, .ref a_kept])), (a_word, .inl (cs 1, a_word_n, .inl a_word_f))]) hP hD [0, 1] rfl (by decide) rfl
          rw [hQ]
          exact W.zret (v := 1) hx hb hr rfl (fun t ht hW => ⟨⟨_, (), rfl, rfl, by rw [ht]; exact hP9, hD9⟩, hS.F ht⟩) hS.2.2 d_MoReader_spells_46
        · rw [if_neg h4] at hok
          refine lv_aload_n hx hb d_MoReader_spells_23 rfl (lv_at hl 1 rfl) ?_
          refine va_get (D := g) (ci := 12) (v := .ref a_word) (C := R_MoReader) (T := F_MoReader) (N := 22) hx hb hg ul_MoReader hown hK hP 0 rfl rfl 12 (by decide) (hg _ wd_1177) (fun _ h9 => h9) rfl d_MoReader_spells_24 ?_
          refine lv_iload_n hx hb d_MoReader_spells_27 rfl (lv_at hl 0 rfl) ?_
          obtain ⟨hi5, hok⟩ := ck_some hok
          refine va_bald hx hb hK hP 1 1 rfl rfl (ixb_in hi5) d_MoReader_spells_28 ?_
          refine lv_aload_n hx hb d_MoReader_spells_29 rfl (lv_at hl 2 rfl) ?_
          refine lv_iload_n hx hb d_MoReader_spells_30 rfl (lv_at hl 0 rfl) ?_
          obtain ⟨r6, hc6, hok⟩ := bd_some hok
          obtain ⟨hPc, hDc, hFc⟩ := cut0 (wc := []) hP hD hS hA [] (by decide) rfl
          refine va_calli (va_runV (As := [.int x2_3]) (rest := [.int (a_word_f x2_3.toNatClampNeg)]) ⟨hx, hb, hml, hown, hg⟩ (c_String_charAt l g cs ka H.size sx x2_3 r6 hc6) (cwV (C := "java/lang/String") 1 hg (gw_V wd_1224 wd_427 wd_428 wd_164 wd_425) rfl rfl rfl (by decide +kernel) ⟨Nat.le_of_ble_eq_true rfl, Nat.le_of_ble_eq_true rfl⟩) ⟨gP_blind, kn_recv hkn hb_sx hS, gP_pre hPc hDc hK hgl hkn hkr hS hFc⟩ rfl rfl hl.1 rfl (lv_room (Nat.le_of_ble_eq_true rfl)) d_MoReader_spells_31 ⟨Nat.le_of_ble_eq_true rfl, Nat.le_of_ble_eq_true rfl⟩) hS (fun q _ h => hFc q h) hFc (fun r6' u t H locs ht hvm hr6 hB hz1 hk1 hS => ?_)
          subst hr6
          rw [ht] at hB
          obtain ⟨hP1, hD1⟩ := hB
          obtain ⟨hP, hD⟩ := jn_A hP hD [] [0, 1] rfl rfl (by decide) (by decide) hk1 hFc hP1 hD1
          obtain ⟨hP, hD⟩ : PD g A H [(a, .inr (12, [.ref a_sides, .ref a_ranks, .ref a_stop, .ref a_terms, .ref a_names, .ref a_s, .int a_n, .int a_at, .int a_behind, .int a_token, .int a_open, .long a_number, .ref a_word, .int a_letters, .ref a_stack, .int a_top, .int a_place, .ref a_variables, .int a_variabled, .int a_known, .int a_rank, .ref a_kept])), (a_word, .inl (cs 1, a_word_n, .inl a_word_f))] := ⟨hP, hD⟩
          refine lv_icmp_eq hx hb d_MoReader_spells_34 rfl (fun h7 => ?_) (fun h7 => ?_)
          · rw [if_pos h7] at hok
            refine lv_iinc (k := 0) (v := x2_3 + 1) hx hb d_MoReader_spells_39 hl rfl rfl (by decide) rfl (fun ls hl => ?_)
            have hl : lv_has ls 3 [(2, .int (x2_3 + 1)), (0, .ref a), (1, .ref (ka (200 + sx)))] := hl
            refine lv_goto hx hb d_MoReader_spells_42 rfl ?_
            exact ih3 _ _ _ (x2_3 + 1) (lv_sub hl [0, 1, 2] rfl) (sub3 hP hD [0, 1] (by decide)) hS hok
          · rw [if_neg h7] at hok
            refine lv_iconst (v := 0) hx hb d_MoReader_spells_37 (by decide) ?_
            have hq := Option.some.inj hok
            have hq0 := hq
            subst hq0
            obtain ⟨hP9, hD9⟩ := sub2 (ws' := [(a, .inr (12, [.ref a_sides, .ref a_ranks, .ref a_stop, .ref a_terms, .ref a_names, .ref a_s, .int a_n, .int a_at, .int a_behind, .int a_token, .int a_open, .long a_number, .ref a_word, .int a_letters, .ref a_stack, .int a_top, .int a_place, .ref a_variables, .int a_variabled, .int a_known, .int a_rank, .ref a_kept])), (a_word, .inl (cs 1, a_word_n, .inl a_word_f))]) hP hD [0, 1] rfl (by decide) rfl
            rw [hQ]
            exact W.zret (v := 0) hx hb hr rfl (fun t ht hW => ⟨⟨_, (), rfl, rfl, by rw [ht]; exact hP9, hD9⟩, hS.F ht⟩) hS.2.2 d_MoReader_spells_38
    exact J3 n H locs ls (0 : Int32) hl ⟨hP, hD⟩ hS hok
  · rw [if_neg h2] at hok
    refine lv_iconst (v := 0) hx hb d_MoReader_spells_11 (by decide) ?_
    have hq := Option.some.inj hok
    have hq0 := hq
    subst hq0
    obtain ⟨hP9, hD9⟩ := sub2 (ws' := [(a, .inr (12, [.ref a_sides, .ref a_ranks, .ref a_stop, .ref a_terms, .ref a_names, .ref a_s, .int a_n, .int a_at, .int a_behind, .int a_token, .int a_open, .long a_number, .ref a_word, .int a_letters, .ref a_stack, .int a_top, .int a_place, .ref a_variables, .int a_variabled, .int a_known, .int a_rank, .ref a_kept])), (a_word, .inl (cs 1, a_word_n, .inl a_word_f))]) hP hD [0, 1] rfl (by decide) rfl
    rw [hQ]
    exact W.zret (v := 0) hx hb hr rfl (fun t ht hW => ⟨⟨_, (), rfl, rfl, by rw [ht]; exact hP9, hD9⟩, hS.F ht⟩) hS.2.2 d_MoReader_spells_12

theorem d_MoReader_rank_0 : decode b_MoReader_rank 0 = .ok (.aload_n 0, 1) := by decide +kernel
theorem d_MoReader_rank_1 : decode b_MoReader_rank 1 = .ok (.getfield 123, 3) := by decide +kernel
theorem d_MoReader_rank_4 : decode b_MoReader_rank 4 = .ok (.bipush 10, 2) := by decide +kernel
theorem d_MoReader_rank_6 : decode b_MoReader_rank 6 = .ok (.if_icmp .ne 7, 3) := by decide +kernel
theorem d_MoReader_rank_9 : decode b_MoReader_rank 9 = .ok (.sipush 1000, 3) := by decide +kernel
theorem d_MoReader_rank_12 : decode b_MoReader_rank 12 = .ok (.ireturn, 1) := by decide +kernel
theorem d_MoReader_rank_13 : decode b_MoReader_rank 13 = .ok (.iconst 0, 1) := by decide +kernel
theorem d_MoReader_rank_14 : decode b_MoReader_rank 14 = .ok (.istore_n 1, 1) := by decide +kernel
theorem d_MoReader_rank_15 : decode b_MoReader_rank 15 = .ok (.aload_n 0, 1) := by decide +kernel
theorem d_MoReader_rank_16 : decode b_MoReader_rank 16 = .ok (.getfield 123, 3) := by decide +kernel
theorem d_MoReader_rank_19 : decode b_MoReader_rank 19 = .ok (.iconst 3, 1) := by decide +kernel
theorem d_MoReader_rank_20 : decode b_MoReader_rank 20 = .ok (.if_icmp .ne 38, 3) := by decide +kernel
theorem d_MoReader_rank_23 : decode b_MoReader_rank 23 = .ok (.iload_n 1, 1) := by decide +kernel
theorem d_MoReader_rank_24 : decode b_MoReader_rank 24 = .ok (.aload_n 0, 1) := by decide +kernel
theorem d_MoReader_rank_25 : decode b_MoReader_rank 25 = .ok (.getfield 51, 3) := by decide +kernel
theorem d_MoReader_rank_28 : decode b_MoReader_rank 28 = .ok (.arraylength, 1) := by decide +kernel
theorem d_MoReader_rank_29 : decode b_MoReader_rank 29 = .ok (.if_icmp .ge 29, 3) := by decide +kernel
theorem d_MoReader_rank_32 : decode b_MoReader_rank 32 = .ok (.aload_n 0, 1) := by decide +kernel
theorem d_MoReader_rank_33 : decode b_MoReader_rank 33 = .ok (.aload_n 0, 1) := by decide +kernel
theorem d_MoReader_rank_34 : decode b_MoReader_rank 34 = .ok (.getfield 51, 3) := by decide +kernel
theorem d_MoReader_rank_37 : decode b_MoReader_rank 37 = .ok (.iload_n 1, 1) := by decide +kernel
theorem d_MoReader_rank_38 : decode b_MoReader_rank 38 = .ok (.aaload, 1) := by decide +kernel
theorem d_MoReader_rank_39 : decode b_MoReader_rank 39 = .ok (.invokevirtual 192, 3) := by decide +kernel
theorem d_MoReader_rank_42 : decode b_MoReader_rank 42 = .ok (.ifCond .eq 10, 3) := by decide +kernel
theorem d_MoReader_rank_45 : decode b_MoReader_rank 45 = .ok (.aload_n 0, 1) := by decide +kernel
theorem d_MoReader_rank_46 : decode b_MoReader_rank 46 = .ok (.getfield 57, 3) := by decide +kernel
theorem d_MoReader_rank_49 : decode b_MoReader_rank 49 = .ok (.iload_n 1, 1) := by decide +kernel
theorem d_MoReader_rank_50 : decode b_MoReader_rank 50 = .ok (.iaload, 1) := by decide +kernel
theorem d_MoReader_rank_51 : decode b_MoReader_rank 51 = .ok (.ireturn, 1) := by decide +kernel
theorem d_MoReader_rank_52 : decode b_MoReader_rank 52 = .ok (.iinc 1 1, 3) := by decide +kernel
theorem d_MoReader_rank_55 : decode b_MoReader_rank 55 = .ok (.goto (-40), 3) := by decide +kernel
theorem d_MoReader_rank_58 : decode b_MoReader_rank 58 = .ok (.iconst (-1), 1) := by decide +kernel
theorem d_MoReader_rank_59 : decode b_MoReader_rank 59 = .ok (.ireturn, 1) := by decide +kernel
def p_MoReader_rank_15 (n : Nat) (a_n : Int32) (a_at : Int32) (a_behind : Int32) (a_token : Int32) (a_open : Int32) (a_number : Int64) (a_letters : Int32) (a_top : Int32) (a_place : Int32) (a_variabled : Int32) (a_known : Int32) (a_rank : Int32) (a_ranks_n : Nat) (a_ranks_f : Nat → Int32) (a_word_n : Nat) (a_word_f : Nat → Int32) (kf2 : Nat) (x1_2 : Int32) : Option Int32 := match kf2 with
  | 0 => none
  | kf2 + 1 => if a_token = 3 then (if (Int32.ofNat 20) ≤ x1_2 then (some ((-1) : Int32)) else (ck (ixb x1_2 20) ((p_MoReader_spells n (kn_sides.getD x1_2.toNatClampNeg 0) a_n a_at a_behind a_token a_open a_number a_letters a_top a_place a_variabled a_known a_rank a_word_n a_word_f).bind (fun r6 => if r6 = 0 then (p_MoReader_rank_15 n a_n a_at a_behind a_token a_open a_number a_letters a_top a_place a_variabled a_known a_rank a_ranks_n a_ranks_f a_word_n a_word_f kf2 (x1_2 + 1)) else (ck (ixb x1_2 a_ranks_n) (some (a_ranks_f x1_2.toNatClampNeg))))))) else (some ((-1) : Int32))
def p_MoReader_rank (n : Nat) (a_n : Int32) (a_at : Int32) (a_behind : Int32) (a_token : Int32) (a_open : Int32) (a_number : Int64) (a_letters : Int32) (a_top : Int32) (a_place : Int32) (a_variabled : Int32) (a_known : Int32) (a_rank : Int32) (a_ranks_n : Nat) (a_ranks_f : Nat → Int32) (a_word_n : Nat) (a_word_f : Nat → Int32) : Option Int32 := if a_token = 10 then (some (1000 : Int32)) else (p_MoReader_rank_15 n a_n a_at a_behind a_token a_open a_number a_letters a_top a_place a_variabled a_known a_rank a_ranks_n a_ranks_f a_word_n a_word_f n (0 : Int32))
set_option maxHeartbeats 40000000 in
set_option maxRecDepth 100000 in
theorem c_MoReader_rank (l : Launch) (g : va_G) (cs : Nat → ClassId) (ka : Nat → Nat) (a_stop : Nat) (a_terms : Nat) (a_names : Nat) (a_s : Nat) (a_stack : Nat) (a_variables : Nat) (a_kept : Nat) (a a_sides a_ranks a_word : Nat) (sz : Nat) (n : Nat) (a_n : Int32) (a_at : Int32) (a_behind : Int32) (a_token : Int32) (a_open : Int32) (a_number : Int64) (a_letters : Int32) (a_top : Int32) (a_place : Int32) (a_variabled : Int32) (a_known : Int32) (a_rank : Int32) (a_ranks_n : Nat) (a_ranks_f : Nat → Int32) (a_word_n : Nat) (a_word_f : Nat → Int32) (r : Int32) (hok : p_MoReader_rank n a_n a_at a_behind a_token a_open a_number a_letters a_top a_place a_variabled a_known a_rank a_ranks_n a_ranks_f a_word_n a_word_f = some r) : Met l y_MoReader_rank (.code y_MoReader_rank b_MoReader_rank 2 (some .int) :: GW) { frames := 5, cells := 0, slots := 0, locals := 107 } (va_Pc [.ref a] (gP g cs ka [(a, .inr (12, [.ref a_sides, .ref a_ranks, .ref a_stop, .ref a_terms, .ref a_names, .ref a_s, .int a_n, .int a_at, .int a_behind, .int a_token, .int a_open, .long a_number, .ref a_word, .int a_letters, .ref a_stack, .int a_top, .int a_place, .ref a_variables, .int a_variabled, .int a_known, .int a_rank, .ref a_kept])), (a_sides, .inl (cs 4, 20, .inr (.inr (.inr (.inr (sdf ka)))))), (a_ranks, .inl (cs 0, a_ranks_n, .inl a_ranks_f)), (a_word, .inl (cs 1, a_word_n, .inl a_word_f))] sz)) (va_Qi (fun (r' : Int32) (_ : Unit) => r = r') (fun _ t => va_P g classes [(a, .inr (12, [.ref a_sides, .ref a_ranks, .ref a_stop, .ref a_terms, .ref a_names, .ref a_s, .int a_n, .int a_at, .int a_behind, .int a_token, .int a_open, .long a_number, .ref a_word, .int a_letters, .ref a_stack, .int a_top, .int a_place, .ref a_variables, .int a_variabled, .int a_known, .int a_rank, .ref a_kept])), (a_sides, .inl (cs 4, 20, .inr (.inr (.inr (.inr (sdf ka)))))), (a_ranks, .inl (cs 0, a_ranks_n, .inl a_ranks_f)), (a_word, .inl (cs 1, a_word_n, .inl a_word_f))] t.heap ∧ va_D (va_A [(a, .inr (12, [.ref a_sides, .ref a_ranks, .ref a_stop, .ref a_terms, .ref a_names, .ref a_s, .int a_n, .int a_at, .int a_behind, .int a_token, .int a_open, .long a_number, .ref a_word, .int a_letters, .ref a_stack, .int a_top, .int a_place, .ref a_variables, .int a_variabled, .int a_known, .int a_rank, .ref a_kept])), (a_sides, .inl (cs 4, 20, .inr (.inr (.inr (.inr (sdf ka)))))), (a_ranks, .inl (cs 0, a_ranks_n, .inl a_ranks_f)), (a_word, .inl (cs 1, a_word_n, .inl a_word_f))] sz) [(a, .inr (12, [.ref a_sides, .ref a_ranks, .ref a_stop, .ref a_terms, .ref a_names, .ref a_s, .int a_n, .int a_at, .int a_behind, .int a_token, .int a_open, .long a_number, .ref a_word, .int a_letters, .ref a_stack, .int a_top, .int a_place, .ref a_variables, .int a_variabled, .int a_known, .int a_rank, .ref a_kept])), (a_sides, .inl (cs 4, 20, .inr (.inr (.inr (.inr (sdf ka)))))), (a_ranks, .inl (cs 0, a_ranks_n, .inl a_ranks_f)), (a_word, .inl (cs 1, a_word_n, .inl a_word_f))]) (va_A [(a, .inr (12, [.ref a_sides, .ref a_ranks, .ref a_stop, .ref a_terms, .ref a_names, .ref a_s, .int a_n, .int a_at, .int a_behind, .int a_token, .int a_open, .long a_number, .ref a_word, .int a_letters, .ref a_stack, .int a_top, .int a_place, .ref a_variables, .int a_variabled, .int a_known, .int a_rank, .ref a_kept])), (a_sides, .inl (cs 4, 20, .inr (.inr (.inr (.inr (sdf ka)))))), (a_ranks, .inl (cs 0, a_ranks_n, .inl a_ranks_f)), (a_word, .inl (cs 1, a_word_n, .inl a_word_f))] sz)) 0 0 (va_A [(a, .inr (12, [.ref a_sides, .ref a_ranks, .ref a_stop, .ref a_terms, .ref a_names, .ref a_s, .int a_n, .int a_at, .int a_behind, .int a_token, .int a_open, .long a_number, .ref a_word, .int a_letters, .ref a_stack, .int a_top, .int a_place, .ref a_variables, .int a_variabled, .int a_known, .int a_rank, .ref a_kept])), (a_sides, .inl (cs 4, 20, .inr (.inr (.inr (.inr (sdf ka)))))), (a_ranks, .inl (cs 0, a_ranks_n, .inl a_ranks_f)), (a_word, .inl (cs 1, a_word_n, .inl a_word_f))] sz) := by
  refine Met.ofW (cc := b_MoReader_rank) (maxL := 2) (ret := (some .int)) (by decide) rfl ?_
  intro p e s m args below meth c s₁ B hml hv
  obtain ⟨rfl, hsz, hP, hK, hD0, hgl, hkn, hkr⟩ := hv
  have hx := B.exec
  have hb := B.bytes
  have hr := B.returns
  have hg : ∀ w ∈ GW, w.before ([.ref a] : List Value).toArray s = true := fun w hw => atoms_spec (ws := .code y_MoReader_rank b_MoReader_rank 2 (some .int) :: GW) B.pre w (List.mem_cons_of_mem _ hw)
  have hown : s.vm.findClass R_MoReader = some m.cls := findClass_of_methodNamed B.named
  have hlocks := B.notSynchronized
  subst hsz
  have hD := hD0.self (sz := s.heap.size)
  generalize hAe : va_A [(a, .inr (12, [.ref a_sides, .ref a_ranks, .ref a_stop, .ref a_terms, .ref a_names, .ref a_s, .int a_n, .int a_at, .int a_behind, .int a_token, .int a_open, .long a_number, .ref a_word, .int a_letters, .ref a_stack, .int a_top, .int a_place, .ref a_variables, .int a_variabled, .int a_known, .int a_rank, .ref a_kept])), (a_sides, .inl (cs 4, 20, .inr (.inr (.inr (.inr (sdf ka)))))), (a_ranks, .inl (cs 0, a_ranks_n, .inl a_ranks_f)), (a_word, .inl (cs 1, a_word_n, .inl a_word_f))] s.heap.size = A at hD hkn ⊢
  have hA : ∀ q : Nat, s.heap.size ≤ q → A q := fun q h => by rw [← hAe]; exact Or.inr h
  have hS : va_S A s.heap s.heap [] := va_S.rf
  have hP : va_P g classes [(a, .inr (12, [.ref a_sides, .ref a_ranks, .ref a_stop, .ref a_terms, .ref a_names, .ref a_s, .int a_n, .int a_at, .int a_behind, .int a_token, .int a_open, .long a_number, .ref a_word, .int a_letters, .ref a_stack, .int a_top, .int a_place, .ref a_variables, .int a_variabled, .int a_known, .int a_rank, .ref a_kept])), (a_sides, .inl (cs 4, 20, .inr (.inr (.inr (.inr (sdf ka)))))), (a_ranks, .inl (cs 0, a_ranks_n, .inl a_ranks_f)), (a_word, .inl (cs 1, a_word_n, .inl a_word_f))] s.heap := hP
  have hl := lv_entry ([.ref a]) (n := 2) (Nat.le_of_ble_eq_true rfl)
  rw [lg_entry_eq]
  generalize (lg_sl ([.ref a]) ++ List.replicate (2 - (lg_sl ([.ref a])).length) Slot.unset).toArray = ls at hl ⊢
  have hl : lv_has ls 2 [(0, .ref a)] := hl
  refine gq (fun Q hQ => ?_)
  obtain ⟨H, hH⟩ : ∃ H : Heap, H = s.heap := ⟨_, rfl⟩
  rw [← hH] at hP
  have hS : va_S A s.heap H [] := by rw [hH]; exact hS
  refine W.eqH hH ?_
  obtain ⟨locs, hlc⟩ : ∃ L : List Loc, L = [] := ⟨_, rfl⟩
  rw [← hlc] at hS ⊢
  unfold p_MoReader_rank at hok
  refine lv_aload_n hx hb d_MoReader_rank_0 rfl (lv_at hl 0 rfl) ?_
  refine va_get (D := g) (ci := 12) (v := .int a_token) (C := R_MoReader) (T := F_MoReader) (N := 22) hx hb hg ul_MoReader hown hK hP 0 rfl rfl 9 (by decide) (hg _ wd_1179) (fun _ h9 => h9) rfl d_MoReader_rank_1 ?_
  refine lv_bipush (v := 10) hx hb d_MoReader_rank_4 (by decide) ?_
  refine lv_icmp_ne hx hb d_MoReader_rank_6 rfl (fun h1 => ?_) (fun h1 => ?_)
  · rw [if_neg h1] at hok
    refine lv_iconst (v := 0) hx hb d_MoReader_rank_13 (by decide) ?_
    refine lv_istore_n hx hb d_MoReader_rank_14 rfl hl (by decide) rfl (fun ls hl => ?_)
    have hl : lv_has ls 2 [(1, .int 0), (0, .ref a)] := hl
    have J2 : ∀ (kf2 : Nat) (H : Heap) (locs : List Loc) (ls : Array Slot) (x1_2 : Int32), lv_has ls 2 [(1, .int x1_2), (0, .ref a)] → PD g A H [(a, .inr (12, [.ref a_sides, .ref a_ranks, .ref a_stop, .ref a_terms, .ref a_names, .ref a_s, .int a_n, .int a_at, .int a_behind, .int a_token, .int a_open, .long a_number, .ref a_word, .int a_letters, .ref a_stack, .int a_top, .int a_place, .ref a_variables, .int a_variabled, .int a_known, .int a_rank, .ref a_kept])), (a_sides, .inl (cs 4, 20, .inr (.inr (.inr (.inr (sdf ka)))))), (a_ranks, .inl (cs 0, a_ranks_n, .inl a_ranks_f)), (a_word, .inl (cs 1, a_word_n, .inl a_word_f))] → va_S A s.heap H locs → p_MoReader_rank_15 n a_n a_at a_behind a_token a_open a_number a_letters a_top a_place a_variabled a_known a_rank a_ranks_n a_ranks_f a_word_n a_word_f kf2 x1_2 = some r → W p l e (headSpec (.code y_MoReader_rank b_MoReader_rank 2 (some .int) :: GW) { frames := 5, cells := 0, slots := 0, locals := 107 }).room s m ([.ref a] : List Value).toArray below meth c H locs 0 0 Q (F0 m 15 ls []) := by
      intro kf2
      induction kf2 with
      | zero => intro H locs ls x1_2 hl ⟨hP, hD⟩ hS hok; rw [p_MoReader_rank_15] at hok; cases hok
      | succ kf2 ih2 =>
        intro H locs ls x1_2 hl ⟨hP, hD⟩ hS hok
        rw [p_MoReader_rank_15] at hok
        refine lv_aload_n hx hb d_MoReader_rank_15 rfl (lv_at hl 1 rfl) ?_
        refine va_get (D := g) (ci := 12) (v := .int a_token) (C := R_MoReader) (T := F_MoReader) (N := 22) hx hb hg ul_MoReader hown hK hP 0 rfl rfl 9 (by decide) (hg _ wd_1179) (fun _ h9 => h9) rfl d_MoReader_rank_16 ?_
        refine lv_iconst (v := 3) hx hb d_MoReader_rank_19 (by decide) ?_
        refine lv_icmp_ne hx hb d_MoReader_rank_20 rfl (fun h3 => ?_) (fun h3 => ?_)
        · rw [if_neg h3] at hok
          refine lv_iconst (v := (-1)) hx hb d_MoReader_rank_58 (by decide) ?_
          have hq := Option.some.inj hok
          have hq0 := hq
          subst hq0
          obtain ⟨hP9, hD9⟩ := sub2 (ws' := [(a, .inr (12, [.ref a_sides, .ref a_ranks, .ref a_stop, .ref a_terms, .ref a_names, .ref a_s, .int a_n, .int a_at, .int a_behind, .int a_token, .int a_open, .long a_number, .ref a_word, .int a_letters, .ref a_stack, .int a_top, .int a_place, .ref a_variables, .int a_variabled, .int a_known, .int a_rank, .ref a_kept])), (a_sides, .inl (cs 4, 20, .inr (.inr (.inr (.inr (sdf ka)))))), (a_ranks, .inl (cs 0, a_ranks_n, .inl a_ranks_f)), (a_word, .inl (cs 1, a_word_n, .inl a_word_f))]) hP hD [0, 1, 2, 3] rfl (by decide) rfl
          rw [hQ]
          exact W.iret (v := (-1)) hx hb hr (fun t ht hW => ⟨⟨_, (), rfl, rfl, by rw [ht]; exact hP9, hD9⟩, hS.F ht⟩) hS.2.2 d_MoReader_rank_59
        · rw [if_pos h3] at hok
          refine lv_iload_n hx hb d_MoReader_rank_23 rfl (lv_at hl 0 rfl) ?_
          refine lv_aload_n hx hb d_MoReader_rank_24 rfl (lv_at hl 1 rfl) ?_
          refine va_get (D := g) (ci := 12) (v := .ref a_sides) (C := R_MoReader) (T := F_MoReader) (N := 22) hx hb hg ul_MoReader hown hK hP 0 rfl rfl 0 (by decide) (hg _ wd_1225) (fun _ h9 => h9) rfl d_MoReader_rank_25 ?_
          refine va_alen (v := Int32.ofNat 20) hx hb hK hP 1 4 rfl rfl rfl d_MoReader_rank_28 ?_
          refine lv_icmp_ge hx hb d_MoReader_rank_29 rfl (fun h4 => ?_) (fun h4 => ?_)
          · rw [if_pos h4] at hok
            refine lv_iconst (v := (-1)) hx hb d_MoReader_rank_58 (by decide) ?_
            have hq := Option.some.inj hok
            have hq0 := hq
            subst hq0
            obtain ⟨hP9, hD9⟩ := sub2 (ws' := [(a, .inr (12, [.ref a_sides, .ref a_ranks, .ref a_stop, .ref a_terms, .ref a_names, .ref a_s, .int a_n, .int a_at, .int a_behind, .int a_token, .int a_open, .long a_number, .ref a_word, .int a_letters, .ref a_stack, .int a_top, .int a_place, .ref a_variables, .int a_variabled, .int a_known, .int a_rank, .ref a_kept])), (a_sides, .inl (cs 4, 20, .inr (.inr (.inr (.inr (sdf ka)))))), (a_ranks, .inl (cs 0, a_ranks_n, .inl a_ranks_f)), (a_word, .inl (cs 1, a_word_n, .inl a_word_f))]) hP hD [0, 1, 2, 3] rfl (by decide) rfl
            rw [hQ]
            exact W.iret (v := (-1)) hx hb hr (fun t ht hW => ⟨⟨_, (), rfl, rfl, by rw [ht]; exact hP9, hD9⟩, hS.F ht⟩) hS.2.2 d_MoReader_rank_59
          · rw [if_neg h4] at hok
            refine lv_aload_n hx hb d_MoReader_rank_32 rfl (lv_at hl 1 rfl) ?_
            refine lv_aload_n hx hb d_MoReader_rank_33 rfl (lv_at hl 1 rfl) ?_
            refine va_get (D := g) (ci := 12) (v := .ref a_sides) (C := R_MoReader) (T := F_MoReader) (N := 22) hx hb hg ul_MoReader hown hK hP 0 rfl rfl 0 (by decide) (hg _ wd_1225) (fun _ h9 => h9) rfl d_MoReader_rank_34 ?_
            refine lv_iload_n hx hb d_MoReader_rank_37 rfl (lv_at hl 0 rfl) ?_
            obtain ⟨hi5, hok⟩ := ck_some hok
            refine sd_ald hx hb hK hP 1 4 rfl rfl (ixb_in hi5) (ixb_lt hi5) d_MoReader_rank_38 ?_
            obtain ⟨r6, hc6, hok⟩ := bd_some hok
            obtain ⟨hPc, hDc, hFc⟩ := cut0 (wc := [(a, .inr (12, [.ref a_sides, .ref a_ranks, .ref a_stop, .ref a_terms, .ref a_names, .ref a_s, .int a_n, .int a_at, .int a_behind, .int a_token, .int a_open, .long a_number, .ref a_word, .int a_letters, .ref a_stack, .int a_top, .int a_place, .ref a_variables, .int a_variabled, .int a_known, .int a_rank, .ref a_kept])), (a_word, .inl (cs 1, a_word_n, .inl a_word_f))]) hP hD hS hA [0, 3] (by decide) rfl
            refine va_calli (va_runV (As := [.ref (ka (200 + kn_sides.getD x1_2.toNatClampNeg 0))]) (rest := []) ⟨hx, hb, hml, hown, hg⟩ (c_MoReader_spells l g cs ka a_sides a_ranks a_stop a_terms a_names a_s a_stack a_variables a_kept a a_word H.size n (kn_sides.getD x1_2.toNatClampNeg 0) a_n a_at a_behind a_token a_open a_number a_letters a_top a_place a_variabled a_known a_rank a_word_n a_word_f r6 hc6) (cwV (C := R_MoReader) 1 hg (gw_V wd_1227 wd_1228 wd_1229 wd_754 wd_1226) rfl rfl rfl (by decide +kernel) ⟨Nat.le_of_ble_eq_true rfl, Nat.le_of_ble_eq_true rfl⟩) ⟨gP_blind, va_recv (q0 := 0) (ci := 12) (q := (R_MoReader, F_MoReader, 22)) hK hP rfl rfl, gP_pre hPc hDc hK hgl hkn hkr hS hFc⟩ rfl rfl hl.1 rfl (lv_room (Nat.le_of_ble_eq_true rfl)) d_MoReader_rank_39 ⟨Nat.le_of_ble_eq_true rfl, Nat.le_of_ble_eq_true rfl⟩) hS (fun q _ h => hFc q h) hFc (fun r6' u t H locs ht hvm hr6 hB hz1 hk1 hS => ?_)
            subst hr6
            rw [ht] at hB
            obtain ⟨hP1, hD1⟩ := hB
            obtain ⟨hP, hD⟩ := jn_A hP hD [0, 3] [1, 2] rfl rfl (by decide) (by decide) hk1 hFc hP1 hD1
            obtain ⟨hP, hD⟩ : PD g A H [(a_sides, .inl (cs 4, 20, .inr (.inr (.inr (.inr (sdf ka)))))), (a_ranks, .inl (cs 0, a_ranks_n, .inl a_ranks_f)), (a, .inr (12, [.ref a_sides, .ref a_ranks, .ref a_stop, .ref a_terms, .ref a_names, .ref a_s, .int a_n, .int a_at, .int a_behind, .int a_token, .int a_open, .long a_number, .ref a_word, .int a_letters, .ref a_stack, .int a_top, .int a_place, .ref a_variables, .int a_variabled, .int a_known, .int a_rank, .ref a_kept])), (a_word, .inl (cs 1, a_word_n, .inl a_word_f))] := ⟨hP, hD⟩
            refine lv_if_eq hx hb d_MoReader_rank_42 rfl (fun h7 => ?_) (fun h7 => ?_)
            · rw [if_pos h7] at hok
              refine lv_iinc (k := 0) (v := x1_2 + 1) hx hb d_MoReader_rank_52 hl rfl rfl (by decide) rfl (fun ls hl => ?_)
              have hl : lv_has ls 2 [(1, .int (x1_2 + 1)), (0, .ref a)] := hl
              refine lv_goto hx hb d_MoReader_rank_55 rfl ?_
              exact ih2 _ _ _ (x1_2 + 1) (lv_sub hl [0, 1] rfl) (sub3 hP hD [2, 0, 1, 3] (by decide)) hS hok
            · rw [if_neg h7] at hok
              refine lv_aload_n hx hb d_MoReader_rank_45 rfl (lv_at hl 1 rfl) ?_
              refine va_get (D := g) (ci := 12) (v := .ref a_ranks) (C := R_MoReader) (T := F_MoReader) (N := 22) hx hb hg ul_MoReader hown hK hP 2 rfl rfl 1 (by decide) (hg _ wd_1230) (fun _ h9 => h9) rfl d_MoReader_rank_46 ?_
              refine lv_iload_n hx hb d_MoReader_rank_49 rfl (lv_at hl 0 rfl) ?_
              obtain ⟨hi8, hok⟩ := ck_some hok
              refine va_iald hx hb hK hP 1 0 rfl rfl (ixb_in hi8) d_MoReader_rank_50 ?_
              have hq := Option.some.inj hok
              have hq0 := hq
              subst hq0
              obtain ⟨hP9, hD9⟩ := sub2 (ws' := [(a, .inr (12, [.ref a_sides, .ref a_ranks, .ref a_stop, .ref a_terms, .ref a_names, .ref a_s, .int a_n, .int a_at, .int a_behind, .int a_token, .int a_open, .long a_number, .ref a_word, .int a_letters, .ref a_stack, .int a_top, .int a_place, .ref a_variables, .int a_variabled, .int a_known, .int a_rank, .ref a_kept])), (a_sides, .inl (cs 4, 20, .inr (.inr (.inr (.inr (sdf ka)))))), (a_ranks, .inl (cs 0, a_ranks_n, .inl a_ranks_f)), (a_word, .inl (cs 1, a_word_n, .inl a_word_f))]) hP hD [2, 0, 1, 3] rfl (by decide) rfl
              rw [hQ]
              exact W.iret (v := a_ranks_f x1_2.toNatClampNeg) hx hb hr (fun t ht hW => ⟨⟨_, (), rfl, rfl, by rw [ht]; exact hP9, hD9⟩, hS.F ht⟩) hS.2.2 d_MoReader_rank_51
    exact J2 n H locs ls (0 : Int32) hl ⟨hP, hD⟩ hS hok
  · rw [if_pos h1] at hok
    refine lv_sipush (v := 1000) hx hb d_MoReader_rank_9 (by decide) ?_
    have hq := Option.some.inj hok
    have hq0 := hq
    subst hq0
    obtain ⟨hP9, hD9⟩ := sub2 (ws' := [(a, .inr (12, [.ref a_sides, .ref a_ranks, .ref a_stop, .ref a_terms, .ref a_names, .ref a_s, .int a_n, .int a_at, .int a_behind, .int a_token, .int a_open, .long a_number, .ref a_word, .int a_letters, .ref a_stack, .int a_top, .int a_place, .ref a_variables, .int a_variabled, .int a_known, .int a_rank, .ref a_kept])), (a_sides, .inl (cs 4, 20, .inr (.inr (.inr (.inr (sdf ka)))))), (a_ranks, .inl (cs 0, a_ranks_n, .inl a_ranks_f)), (a_word, .inl (cs 1, a_word_n, .inl a_word_f))]) hP hD [0, 1, 2, 3] rfl (by decide) rfl
    rw [hQ]
    exact W.iret (v := 1000) hx hb hr (fun t ht hW => ⟨⟨_, (), rfl, rfl, by rw [ht]; exact hP9, hD9⟩, hS.F ht⟩) hS.2.2 d_MoReader_rank_12

theorem d_MoReader_prefix_0 : decode b_MoReader_prefix 0 = .ok (.aload_n 0, 1) := by decide +kernel
theorem d_MoReader_prefix_1 : decode b_MoReader_prefix 1 = .ok (.getfield 123, 3) := by decide +kernel
theorem d_MoReader_prefix_4 : decode b_MoReader_prefix 4 = .ok (.iconst 3, 1) := by decide +kernel
theorem d_MoReader_prefix_5 : decode b_MoReader_prefix 5 = .ok (.if_icmp .eq 7, 3) := by decide +kernel
theorem d_MoReader_prefix_8 : decode b_MoReader_prefix 8 = .ok (.iconst (-1), 1) := by decide +kernel
theorem d_MoReader_prefix_9 : decode b_MoReader_prefix 9 = .ok (.goto 34, 3) := by decide +kernel
theorem d_MoReader_prefix_12 : decode b_MoReader_prefix 12 = .ok (.aload_n 0, 1) := by decide +kernel
theorem d_MoReader_prefix_13 : decode b_MoReader_prefix 13 = .ok (.ldc 196, 2) := by decide +kernel
theorem d_MoReader_prefix_15 : decode b_MoReader_prefix 15 = .ok (.invokevirtual 192, 3) := by decide +kernel
theorem d_MoReader_prefix_18 : decode b_MoReader_prefix 18 = .ok (.ifCond .eq 9, 3) := by decide +kernel
theorem d_MoReader_prefix_21 : decode b_MoReader_prefix 21 = .ok (.sipush 900, 3) := by decide +kernel
theorem d_MoReader_prefix_24 : decode b_MoReader_prefix 24 = .ok (.goto 19, 3) := by decide +kernel
theorem d_MoReader_prefix_27 : decode b_MoReader_prefix 27 = .ok (.aload_n 0, 1) := by decide +kernel
theorem d_MoReader_prefix_28 : decode b_MoReader_prefix 28 = .ok (.ldc 41, 2) := by decide +kernel
theorem d_MoReader_prefix_30 : decode b_MoReader_prefix 30 = .ok (.invokevirtual 192, 3) := by decide +kernel
theorem d_MoReader_prefix_33 : decode b_MoReader_prefix 33 = .ok (.ifCond .eq 9, 3) := by decide +kernel
theorem d_MoReader_prefix_36 : decode b_MoReader_prefix 36 = .ok (.sipush 200, 3) := by decide +kernel
theorem d_MoReader_prefix_39 : decode b_MoReader_prefix 39 = .ok (.goto 4, 3) := by decide +kernel
theorem d_MoReader_prefix_42 : decode b_MoReader_prefix 42 = .ok (.iconst (-1), 1) := by decide +kernel
theorem d_MoReader_prefix_43 : decode b_MoReader_prefix 43 = .ok (.ireturn, 1) := by decide +kernel
def p_MoReader_prefix (n : Nat) (a_n : Int32) (a_at : Int32) (a_behind : Int32) (a_token : Int32) (a_open : Int32) (a_number : Int64) (a_letters : Int32) (a_top : Int32) (a_place : Int32) (a_variabled : Int32) (a_known : Int32) (a_rank : Int32) (a_word_n : Nat) (a_word_f : Nat → Int32) : Option Int32 := if a_token = 3 then ((p_MoReader_spells n 22 a_n a_at a_behind a_token a_open a_number a_letters a_top a_place a_variabled a_known a_rank a_word_n a_word_f).bind (fun r2 => if r2 = 0 then ((p_MoReader_spells n 17 a_n a_at a_behind a_token a_open a_number a_letters a_top a_place a_variabled a_known a_rank a_word_n a_word_f).bind (fun r4 => if r4 = 0 then (some ((-1) : Int32)) else (some (200 : Int32)))) else (some (900 : Int32)))) else (some ((-1) : Int32))
set_option maxHeartbeats 40000000 in
set_option maxRecDepth 100000 in
theorem c_MoReader_prefix (l : Launch) (g : va_G) (cs : Nat → ClassId) (ka : Nat → Nat) (a_sides : Nat) (a_ranks : Nat) (a_stop : Nat) (a_terms : Nat) (a_names : Nat) (a_s : Nat) (a_stack : Nat) (a_variables : Nat) (a_kept : Nat) (a a_word : Nat) (sz : Nat) (n : Nat) (a_n : Int32) (a_at : Int32) (a_behind : Int32) (a_token : Int32) (a_open : Int32) (a_number : Int64) (a_letters : Int32) (a_top : Int32) (a_place : Int32) (a_variabled : Int32) (a_known : Int32) (a_rank : Int32) (a_word_n : Nat) (a_word_f : Nat → Int32) (r : Int32) (hok : p_MoReader_prefix n a_n a_at a_behind a_token a_open a_number a_letters a_top a_place a_variabled a_known a_rank a_word_n a_word_f = some r) : Met l y_MoReader_prefix (.code y_MoReader_prefix b_MoReader_prefix 1 (some .int) :: GW) { frames := 5, cells := 0, slots := 0, locals := 107 } (va_Pc [.ref a] (gP g cs ka [(a, .inr (12, [.ref a_sides, .ref a_ranks, .ref a_stop, .ref a_terms, .ref a_names, .ref a_s, .int a_n, .int a_at, .int a_behind, .int a_token, .int a_open, .long a_number, .ref a_word, .int a_letters, .ref a_stack, .int a_top, .int a_place, .ref a_variables, .int a_variabled, .int a_known, .int a_rank, .ref a_kept])), (a_word, .inl (cs 1, a_word_n, .inl a_word_f))] sz)) (va_Qi (fun (r' : Int32) (_ : Unit) => r = r') (fun _ t => va_P g classes [(a, .inr (12, [.ref a_sides, .ref a_ranks, .ref a_stop, .ref a_terms, .ref a_names, .ref a_s, .int a_n, .int a_at, .int a_behind, .int a_token, .int a_open, .long a_number, .ref a_word, .int a_letters, .ref a_stack, .int a_top, .int a_place, .ref a_variables, .int a_variabled, .int a_known, .int a_rank, .ref a_kept])), (a_word, .inl (cs 1, a_word_n, .inl a_word_f))] t.heap ∧ va_D (va_A [(a, .inr (12, [.ref a_sides, .ref a_ranks, .ref a_stop, .ref a_terms, .ref a_names, .ref a_s, .int a_n, .int a_at, .int a_behind, .int a_token, .int a_open, .long a_number, .ref a_word, .int a_letters, .ref a_stack, .int a_top, .int a_place, .ref a_variables, .int a_variabled, .int a_known, .int a_rank, .ref a_kept])), (a_word, .inl (cs 1, a_word_n, .inl a_word_f))] sz) [(a, .inr (12, [.ref a_sides, .ref a_ranks, .ref a_stop, .ref a_terms, .ref a_names, .ref a_s, .int a_n, .int a_at, .int a_behind, .int a_token, .int a_open, .long a_number, .ref a_word, .int a_letters, .ref a_stack, .int a_top, .int a_place, .ref a_variables, .int a_variabled, .int a_known, .int a_rank, .ref a_kept])), (a_word, .inl (cs 1, a_word_n, .inl a_word_f))]) (va_A [(a, .inr (12, [.ref a_sides, .ref a_ranks, .ref a_stop, .ref a_terms, .ref a_names, .ref a_s, .int a_n, .int a_at, .int a_behind, .int a_token, .int a_open, .long a_number, .ref a_word, .int a_letters, .ref a_stack, .int a_top, .int a_place, .ref a_variables, .int a_variabled, .int a_known, .int a_rank, .ref a_kept])), (a_word, .inl (cs 1, a_word_n, .inl a_word_f))] sz)) 0 0 (va_A [(a, .inr (12, [.ref a_sides, .ref a_ranks, .ref a_stop, .ref a_terms, .ref a_names, .ref a_s, .int a_n, .int a_at, .int a_behind, .int a_token, .int a_open, .long a_number, .ref a_word, .int a_letters, .ref a_stack, .int a_top, .int a_place, .ref a_variables, .int a_variabled, .int a_known, .int a_rank, .ref a_kept])), (a_word, .inl (cs 1, a_word_n, .inl a_word_f))] sz) := by
  refine Met.ofW (cc := b_MoReader_prefix) (maxL := 1) (ret := (some .int)) (by decide) rfl ?_
  intro p e s m args below meth c s₁ B hml hv
  obtain ⟨rfl, hsz, hP, hK, hD0, hgl, hkn, hkr⟩ := hv
  have hx := B.exec
  have hb := B.bytes
  have hr := B.returns
  have hg : ∀ w ∈ GW, w.before ([.ref a] : List Value).toArray s = true := fun w hw => atoms_spec (ws := .code y_MoReader_prefix b_MoReader_prefix 1 (some .int) :: GW) B.pre w (List.mem_cons_of_mem _ hw)
  have hown : s.vm.findClass R_MoReader = some m.cls := findClass_of_methodNamed B.named
  have hlocks := B.notSynchronized
  subst hsz
  have hD := hD0.self (sz := s.heap.size)
  generalize hAe : va_A [(a, .inr (12, [.ref a_sides, .ref a_ranks, .ref a_stop, .ref a_terms, .ref a_names, .ref a_s, .int a_n, .int a_at, .int a_behind, .int a_token, .int a_open, .long a_number, .ref a_word, .int a_letters, .ref a_stack, .int a_top, .int a_place, .ref a_variables, .int a_variabled, .int a_known, .int a_rank, .ref a_kept])), (a_word, .inl (cs 1, a_word_n, .inl a_word_f))] s.heap.size = A at hD hkn ⊢
  have hA : ∀ q : Nat, s.heap.size ≤ q → A q := fun q h => by rw [← hAe]; exact Or.inr h
  have hS : va_S A s.heap s.heap [] := va_S.rf
  have hP : va_P g classes [(a, .inr (12, [.ref a_sides, .ref a_ranks, .ref a_stop, .ref a_terms, .ref a_names, .ref a_s, .int a_n, .int a_at, .int a_behind, .int a_token, .int a_open, .long a_number, .ref a_word, .int a_letters, .ref a_stack, .int a_top, .int a_place, .ref a_variables, .int a_variabled, .int a_known, .int a_rank, .ref a_kept])), (a_word, .inl (cs 1, a_word_n, .inl a_word_f))] s.heap := hP
  have hl := lv_entry ([.ref a]) (n := 1) (Nat.le_of_ble_eq_true rfl)
  rw [lg_entry_eq]
  generalize (lg_sl ([.ref a]) ++ List.replicate (1 - (lg_sl ([.ref a])).length) Slot.unset).toArray = ls at hl ⊢
  have hl : lv_has ls 1 [(0, .ref a)] := hl
  refine gq (fun Q hQ => ?_)
  obtain ⟨H, hH⟩ : ∃ H : Heap, H = s.heap := ⟨_, rfl⟩
  rw [← hH] at hP
  have hS : va_S A s.heap H [] := by rw [hH]; exact hS
  refine W.eqH hH ?_
  obtain ⟨locs, hlc⟩ : ∃ L : List Loc, L = [] := ⟨_, rfl⟩
  rw [← hlc] at hS ⊢
  unfold p_MoReader_prefix at hok
  refine lv_aload_n hx hb d_MoReader_prefix_0 rfl (lv_at hl 0 rfl) ?_
  refine va_get (D := g) (ci := 12) (v := .int a_token) (C := R_MoReader) (T := F_MoReader) (N := 22) hx hb hg ul_MoReader hown hK hP 0 rfl rfl 9 (by decide) (hg _ wd_1179) (fun _ h9 => h9) rfl d_MoReader_prefix_1 ?_
  refine lv_iconst (v := 3) hx hb d_MoReader_prefix_4 (by decide) ?_
  refine lv_icmp_eq hx hb d_MoReader_prefix_5 rfl (fun h1 => ?_) (fun h1 => ?_)
  · rw [if_pos h1] at hok
    refine lv_aload_n hx hb d_MoReader_prefix_12 rfl (lv_at hl 0 rfl) ?_
    refine va_ldcS hx hb hown (hkr.1 ("UnifyBenchModel$Reader", 196, "\\+", 22) (by decide +kernel)) d_MoReader_prefix_13 ?_
    obtain ⟨r2, hc2, hok⟩ := bd_some hok
    obtain ⟨hPc, hDc, hFc⟩ := cut0 (wc := [(a, .inr (12, [.ref a_sides, .ref a_ranks, .ref a_stop, .ref a_terms, .ref a_names, .ref a_s, .int a_n, .int a_at, .int a_behind, .int a_token, .int a_open, .long a_number, .ref a_word, .int a_letters, .ref a_stack, .int a_top, .int a_place, .ref a_variables, .int a_variabled, .int a_known, .int a_rank, .ref a_kept])), (a_word, .inl (cs 1, a_word_n, .inl a_word_f))]) hP hD hS hA [0, 1] (by decide) rfl
    refine va_calli (va_runV (As := [.ref (ka (200 + 22))]) (rest := []) ⟨hx, hb, hml, hown, hg⟩ (c_MoReader_spells l g cs ka a_sides a_ranks a_stop a_terms a_names a_s a_stack a_variables a_kept a a_word H.size n 22 a_n a_at a_behind a_token a_open a_number a_letters a_top a_place a_variabled a_known a_rank a_word_n a_word_f r2 hc2) (cwV (C := R_MoReader) 1 hg (gw_V wd_1227 wd_1228 wd_1229 wd_754 wd_1226) rfl rfl rfl (by decide +kernel) ⟨Nat.le_of_ble_eq_true rfl, Nat.le_of_ble_eq_true rfl⟩) ⟨gP_blind, va_recv (q0 := 0) (ci := 12) (q := (R_MoReader, F_MoReader, 22)) hK hP rfl rfl, gP_pre hPc hDc hK hgl hkn hkr hS hFc⟩ rfl rfl hl.1 rfl (lv_room (Nat.le_of_ble_eq_true rfl)) d_MoReader_prefix_15 ⟨Nat.le_of_ble_eq_true rfl, Nat.le_of_ble_eq_true rfl⟩) hS (fun q _ h => hFc q h) hFc (fun r2' u t H locs ht hvm hr2 hB hz1 hk1 hS => ?_)
    subst hr2
    rw [ht] at hB
    obtain ⟨hP1, hD1⟩ := hB
    obtain ⟨hP, hD⟩ := jn_A hP hD [0, 1] [] rfl rfl (by decide) (by decide) hk1 hFc hP1 hD1
    obtain ⟨hP, hD⟩ : PD g A H [(a, .inr (12, [.ref a_sides, .ref a_ranks, .ref a_stop, .ref a_terms, .ref a_names, .ref a_s, .int a_n, .int a_at, .int a_behind, .int a_token, .int a_open, .long a_number, .ref a_word, .int a_letters, .ref a_stack, .int a_top, .int a_place, .ref a_variables, .int a_variabled, .int a_known, .int a_rank, .ref a_kept])), (a_word, .inl (cs 1, a_word_n, .inl a_word_f))] := ⟨hP, hD⟩
    refine lv_if_eq hx hb d_MoReader_prefix_18 rfl (fun h3 => ?_) (fun h3 => ?_)
    · rw [if_pos h3] at hok
      refine lv_aload_n hx hb d_MoReader_prefix_27 rfl (lv_at hl 0 rfl) ?_
      refine va_ldcS hx hb hown (hkr.1 ("UnifyBenchModel$Reader", 41, "-", 17) (by decide +kernel)) d_MoReader_prefix_28 ?_
      obtain ⟨r4, hc4, hok⟩ := bd_some hok
      obtain ⟨hPc, hDc, hFc⟩ := cut0 (wc := [(a, .inr (12, [.ref a_sides, .ref a_ranks, .ref a_stop, .ref a_terms, .ref a_names, .ref a_s, .int a_n, .int a_at, .int a_behind, .int a_token, .int a_open, .long a_number, .ref a_word, .int a_letters, .ref a_stack, .int a_top, .int a_place, .ref a_variables, .int a_variabled, .int a_known, .int a_rank, .ref a_kept])), (a_word, .inl (cs 1, a_word_n, .inl a_word_f))]) hP hD hS hA [0, 1] (by decide) rfl
      refine va_calli (va_runV (As := [.ref (ka (200 + 17))]) (rest := []) ⟨hx, hb, hml, hown, hg⟩ (c_MoReader_spells l g cs ka a_sides a_ranks a_stop a_terms a_names a_s a_stack a_variables a_kept a a_word H.size n 17 a_n a_at a_behind a_token a_open a_number a_letters a_top a_place a_variabled a_known a_rank a_word_n a_word_f r4 hc4) (cwV (C := R_MoReader) 1 hg (gw_V wd_1227 wd_1228 wd_1229 wd_754 wd_1226) rfl rfl rfl (by decide +kernel) ⟨Nat.le_of_ble_eq_true rfl, Nat.le_of_ble_eq_true rfl⟩) ⟨gP_blind, va_recv (q0 := 0) (ci := 12) (q := (R_MoReader, F_MoReader, 22)) hK hP rfl rfl, gP_pre hPc hDc hK hgl hkn hkr hS hFc⟩ rfl rfl hl.1 rfl (lv_room (Nat.le_of_ble_eq_true rfl)) d_MoReader_prefix_30 ⟨Nat.le_of_ble_eq_true rfl, Nat.le_of_ble_eq_true rfl⟩) hS (fun q _ h => hFc q h) hFc (fun r4' u t H locs ht hvm hr4 hB hz1 hk1 hS => ?_)
      subst hr4
      rw [ht] at hB
      obtain ⟨hP1, hD1⟩ := hB
      obtain ⟨hP, hD⟩ := jn_A hP hD [0, 1] [] rfl rfl (by decide) (by decide) hk1 hFc hP1 hD1
      obtain ⟨hP, hD⟩ : PD g A H [(a, .inr (12, [.ref a_sides, .ref a_ranks, .ref a_stop, .ref a_terms, .ref a_names, .ref a_s, .int a_n, .int a_at, .int a_behind, .int a_token, .int a_open, .long a_number, .ref a_word, .int a_letters, .ref a_stack, .int a_top, .int a_place, .ref a_variables, .int a_variabled, .int a_known, .int a_rank, .ref a_kept])), (a_word, .inl (cs 1, a_word_n, .inl a_word_f))] := ⟨hP, hD⟩
      refine lv_if_eq hx hb d_MoReader_prefix_33 rfl (fun h5 => ?_) (fun h5 => ?_)
      · rw [if_pos h5] at hok
        refine lv_iconst (v := (-1)) hx hb d_MoReader_prefix_42 (by decide) ?_
        have hq := Option.some.inj hok
        have hq0 := hq
        subst hq0
        obtain ⟨hP9, hD9⟩ := sub2 (ws' := [(a, .inr (12, [.ref a_sides, .ref a_ranks, .ref a_stop, .ref a_terms, .ref a_names, .ref a_s, .int a_n, .int a_at, .int a_behind, .int a_token, .int a_open, .long a_number, .ref a_word, .int a_letters, .ref a_stack, .int a_top, .int a_place, .ref a_variables, .int a_variabled, .int a_known, .int a_rank, .ref a_kept])), (a_word, .inl (cs 1, a_word_n, .inl a_word_f))]) hP hD [0, 1] rfl (by decide) rfl
        rw [hQ]
        exact W.iret (v := (-1)) hx hb hr (fun t ht hW => ⟨⟨_, (), rfl, rfl, by rw [ht]; exact hP9, hD9⟩, hS.F ht⟩) hS.2.2 d_MoReader_prefix_43
      · rw [if_neg h5] at hok
        refine lv_sipush (v := 200) hx hb d_MoReader_prefix_36 (by decide) ?_
        refine lv_goto hx hb d_MoReader_prefix_39 rfl ?_
        have hq := Option.some.inj hok
        have hq0 := hq
        subst hq0
        obtain ⟨hP9, hD9⟩ := sub2 (ws' := [(a, .inr (12, [.ref a_sides, .ref a_ranks, .ref a_stop, .ref a_terms, .ref a_names, .ref a_s, .int a_n, .int a_at, .int a_behind, .int a_token, .int a_open, .long a_number, .ref a_word, .int a_letters, .ref a_stack, .int a_top, .int a_place, .ref a_variables, .int a_variabled, .int a_known, .int a_rank, .ref a_kept])), (a_word, .inl (cs 1, a_word_n, .inl a_word_f))]) hP hD [0, 1] rfl (by decide) rfl
        rw [hQ]
        exact W.iret (v := 200) hx hb hr (fun t ht hW => ⟨⟨_, (), rfl, rfl, by rw [ht]; exact hP9, hD9⟩, hS.F ht⟩) hS.2.2 d_MoReader_prefix_43
    · rw [if_neg h3] at hok
      refine lv_sipush (v := 900) hx hb d_MoReader_prefix_21 (by decide) ?_
      refine lv_goto hx hb d_MoReader_prefix_24 rfl ?_
      have hq := Option.some.inj hok
      have hq0 := hq
      subst hq0
      obtain ⟨hP9, hD9⟩ := sub2 (ws' := [(a, .inr (12, [.ref a_sides, .ref a_ranks, .ref a_stop, .ref a_terms, .ref a_names, .ref a_s, .int a_n, .int a_at, .int a_behind, .int a_token, .int a_open, .long a_number, .ref a_word, .int a_letters, .ref a_stack, .int a_top, .int a_place, .ref a_variables, .int a_variabled, .int a_known, .int a_rank, .ref a_kept])), (a_word, .inl (cs 1, a_word_n, .inl a_word_f))]) hP hD [0, 1] rfl (by decide) rfl
      rw [hQ]
      exact W.iret (v := 900) hx hb hr (fun t ht hW => ⟨⟨_, (), rfl, rfl, by rw [ht]; exact hP9, hD9⟩, hS.F ht⟩) hS.2.2 d_MoReader_prefix_43
  · rw [if_neg h1] at hok
    refine lv_iconst (v := (-1)) hx hb d_MoReader_prefix_8 (by decide) ?_
    refine lv_goto hx hb d_MoReader_prefix_9 rfl ?_
    have hq := Option.some.inj hok
    have hq0 := hq
    subst hq0
    obtain ⟨hP9, hD9⟩ := sub2 (ws' := [(a, .inr (12, [.ref a_sides, .ref a_ranks, .ref a_stop, .ref a_terms, .ref a_names, .ref a_s, .int a_n, .int a_at, .int a_behind, .int a_token, .int a_open, .long a_number, .ref a_word, .int a_letters, .ref a_stack, .int a_top, .int a_place, .ref a_variables, .int a_variabled, .int a_known, .int a_rank, .ref a_kept])), (a_word, .inl (cs 1, a_word_n, .inl a_word_f))]) hP hD [0, 1] rfl (by decide) rfl
    rw [hQ]
    exact W.iret (v := (-1)) hx hb hr (fun t ht hW => ⟨⟨_, (), rfl, rfl, by rw [ht]; exact hP9, hD9⟩, hS.F ht⟩) hS.2.2 d_MoReader_prefix_43

theorem d_MoReader_begins_0 : decode b_MoReader_begins 0 = .ok (.aload_n 0, 1) := by decide +kernel
theorem d_MoReader_begins_1 : decode b_MoReader_begins 1 = .ok (.getfield 123, 3) := by decide +kernel
theorem d_MoReader_begins_4 : decode b_MoReader_begins 4 = .ok (.iconst 5, 1) := by decide +kernel
theorem d_MoReader_begins_5 : decode b_MoReader_begins 5 = .ok (.if_icmp .eq 55, 3) := by decide +kernel
theorem d_MoReader_begins_8 : decode b_MoReader_begins 8 = .ok (.aload_n 0, 1) := by decide +kernel
theorem d_MoReader_begins_9 : decode b_MoReader_begins 9 = .ok (.getfield 123, 3) := by decide +kernel
theorem d_MoReader_begins_12 : decode b_MoReader_begins 12 = .ok (.bipush 7, 2) := by decide +kernel
theorem d_MoReader_begins_14 : decode b_MoReader_begins 14 = .ok (.if_icmp .eq 46, 3) := by decide +kernel
theorem d_MoReader_begins_17 : decode b_MoReader_begins 17 = .ok (.aload_n 0, 1) := by decide +kernel
theorem d_MoReader_begins_18 : decode b_MoReader_begins 18 = .ok (.getfield 123, 3) := by decide +kernel
theorem d_MoReader_begins_21 : decode b_MoReader_begins 21 = .ok (.bipush 9, 2) := by decide +kernel
theorem d_MoReader_begins_23 : decode b_MoReader_begins 23 = .ok (.if_icmp .eq 37, 3) := by decide +kernel
theorem d_MoReader_begins_26 : decode b_MoReader_begins 26 = .ok (.aload_n 0, 1) := by decide +kernel
theorem d_MoReader_begins_27 : decode b_MoReader_begins 27 = .ok (.getfield 123, 3) := by decide +kernel
theorem d_MoReader_begins_30 : decode b_MoReader_begins 30 = .ok (.bipush 10, 2) := by decide +kernel
theorem d_MoReader_begins_32 : decode b_MoReader_begins 32 = .ok (.if_icmp .eq 28, 3) := by decide +kernel
theorem d_MoReader_begins_35 : decode b_MoReader_begins 35 = .ok (.aload_n 0, 1) := by decide +kernel
theorem d_MoReader_begins_36 : decode b_MoReader_begins 36 = .ok (.getfield 123, 3) := by decide +kernel
theorem d_MoReader_begins_39 : decode b_MoReader_begins 39 = .ok (.bipush 11, 2) := by decide +kernel
theorem d_MoReader_begins_41 : decode b_MoReader_begins 41 = .ok (.if_icmp .eq 19, 3) := by decide +kernel
theorem d_MoReader_begins_44 : decode b_MoReader_begins 44 = .ok (.aload_n 0, 1) := by decide +kernel
theorem d_MoReader_begins_45 : decode b_MoReader_begins 45 = .ok (.getfield 123, 3) := by decide +kernel
theorem d_MoReader_begins_48 : decode b_MoReader_begins 48 = .ok (.ifCond .eq 12, 3) := by decide +kernel
theorem d_MoReader_begins_51 : decode b_MoReader_begins 51 = .ok (.aload_n 0, 1) := by decide +kernel
theorem d_MoReader_begins_52 : decode b_MoReader_begins 52 = .ok (.getfield 123, 3) := by decide +kernel
theorem d_MoReader_begins_55 : decode b_MoReader_begins 55 = .ok (.bipush 13, 2) := by decide +kernel
theorem d_MoReader_begins_57 : decode b_MoReader_begins 57 = .ok (.if_icmp .ne 5, 3) := by decide +kernel
theorem d_MoReader_begins_60 : decode b_MoReader_begins 60 = .ok (.iconst 0, 1) := by decide +kernel
theorem d_MoReader_begins_61 : decode b_MoReader_begins 61 = .ok (.ireturn, 1) := by decide +kernel
theorem d_MoReader_begins_62 : decode b_MoReader_begins 62 = .ok (.aload_n 0, 1) := by decide +kernel
theorem d_MoReader_begins_63 : decode b_MoReader_begins 63 = .ok (.invokevirtual 198, 3) := by decide +kernel
theorem d_MoReader_begins_66 : decode b_MoReader_begins 66 = .ok (.iconst (-1), 1) := by decide +kernel
theorem d_MoReader_begins_67 : decode b_MoReader_begins 67 = .ok (.if_icmp .eq 11, 3) := by decide +kernel
theorem d_MoReader_begins_70 : decode b_MoReader_begins 70 = .ok (.aload_n 0, 1) := by decide +kernel
theorem d_MoReader_begins_71 : decode b_MoReader_begins 71 = .ok (.invokevirtual 201, 3) := by decide +kernel
theorem d_MoReader_begins_74 : decode b_MoReader_begins 74 = .ok (.iconst (-1), 1) := by decide +kernel
theorem d_MoReader_begins_75 : decode b_MoReader_begins 75 = .ok (.if_icmp .eq 7, 3) := by decide +kernel
theorem d_MoReader_begins_78 : decode b_MoReader_begins 78 = .ok (.iconst 1, 1) := by decide +kernel
theorem d_MoReader_begins_79 : decode b_MoReader_begins 79 = .ok (.goto 4, 3) := by decide +kernel
theorem d_MoReader_begins_82 : decode b_MoReader_begins 82 = .ok (.iconst 0, 1) := by decide +kernel
theorem d_MoReader_begins_83 : decode b_MoReader_begins 83 = .ok (.ireturn, 1) := by decide +kernel
def p_MoReader_begins (n : Nat) (a_n : Int32) (a_at : Int32) (a_behind : Int32) (a_token : Int32) (a_open : Int32) (a_number : Int64) (a_letters : Int32) (a_top : Int32) (a_place : Int32) (a_variabled : Int32) (a_known : Int32) (a_rank : Int32) (a_ranks_n : Nat) (a_ranks_f : Nat → Int32) (a_word_n : Nat) (a_word_f : Nat → Int32) : Option Int32 := if a_token = 5 then (some (0 : Int32)) else (if a_token = 7 then (some (0 : Int32)) else (if a_token = 9 then (some (0 : Int32)) else (if a_token = 10 then (some (0 : Int32)) else (if a_token = 11 then (some (0 : Int32)) else (if a_token = 0 then (some (0 : Int32)) else (if a_token = 13 then (some (0 : Int32)) else ((p_MoReader_rank n a_n a_at a_behind a_token a_open a_number a_letters a_top a_place a_variabled a_known a_rank a_ranks_n a_ranks_f a_word_n a_word_f).bind (fun r8 => if r8 = (-1) then (some (1 : Int32)) else ((p_MoReader_prefix n a_n a_at a_behind a_token a_open a_number a_letters a_top a_place a_variabled a_known a_rank a_word_n a_word_f).bind (fun r10 => if r10 = (-1) then (some (0 : Int32)) else (some (1 : Int32))))))))))))
set_option maxHeartbeats 40000000 in
set_option maxRecDepth 100000 in
theorem c_MoReader_begins (l : Launch) (g : va_G) (cs : Nat → ClassId) (ka : Nat → Nat) (a_stop : Nat) (a_terms : Nat) (a_names : Nat) (a_s : Nat) (a_stack : Nat) (a_variables : Nat) (a_kept : Nat) (a a_sides a_ranks a_word : Nat) (sz : Nat) (n : Nat) (a_n : Int32) (a_at : Int32) (a_behind : Int32) (a_token : Int32) (a_open : Int32) (a_number : Int64) (a_letters : Int32) (a_top : Int32) (a_place : Int32) (a_variabled : Int32) (a_known : Int32) (a_rank : Int32) (a_ranks_n : Nat) (a_ranks_f : Nat → Int32) (a_word_n : Nat) (a_word_f : Nat → Int32) (r : Int32) (hok : p_MoReader_begins n a_n a_at a_behind a_token a_open a_number a_letters a_top a_place a_variabled a_known a_rank a_ranks_n a_ranks_f a_word_n a_word_f = some r) : Met l y_MoReader_begins (.code y_MoReader_begins b_MoReader_begins 1 (some .boolean) :: GW) { frames := 6, cells := 0, slots := 0, locals := 128 } (va_Pc [.ref a] (gP g cs ka [(a, .inr (12, [.ref a_sides, .ref a_ranks, .ref a_stop, .ref a_terms, .ref a_names, .ref a_s, .int a_n, .int a_at, .int a_behind, .int a_token, .int a_open, .long a_number, .ref a_word, .int a_letters, .ref a_stack, .int a_top, .int a_place, .ref a_variables, .int a_variabled, .int a_known, .int a_rank, .ref a_kept])), (a_sides, .inl (cs 4, 20, .inr (.inr (.inr (.inr (sdf ka)))))), (a_ranks, .inl (cs 0, a_ranks_n, .inl a_ranks_f)), (a_word, .inl (cs 1, a_word_n, .inl a_word_f))] sz)) (va_Qi (fun (r' : Int32) (_ : Unit) => r = r') (fun _ t => va_P g classes [(a, .inr (12, [.ref a_sides, .ref a_ranks, .ref a_stop, .ref a_terms, .ref a_names, .ref a_s, .int a_n, .int a_at, .int a_behind, .int a_token, .int a_open, .long a_number, .ref a_word, .int a_letters, .ref a_stack, .int a_top, .int a_place, .ref a_variables, .int a_variabled, .int a_known, .int a_rank, .ref a_kept])), (a_sides, .inl (cs 4, 20, .inr (.inr (.inr (.inr (sdf ka)))))), (a_ranks, .inl (cs 0, a_ranks_n, .inl a_ranks_f)), (a_word, .inl (cs 1, a_word_n, .inl a_word_f))] t.heap ∧ va_D (va_A [(a, .inr (12, [.ref a_sides, .ref a_ranks, .ref a_stop, .ref a_terms, .ref a_names, .ref a_s, .int a_n, .int a_at, .int a_behind, .int a_token, .int a_open, .long a_number, .ref a_word, .int a_letters, .ref a_stack, .int a_top, .int a_place, .ref a_variables, .int a_variabled, .int a_known, .int a_rank, .ref a_kept])), (a_sides, .inl (cs 4, 20, .inr (.inr (.inr (.inr (sdf ka)))))), (a_ranks, .inl (cs 0, a_ranks_n, .inl a_ranks_f)), (a_word, .inl (cs 1, a_word_n, .inl a_word_f))] sz) [(a, .inr (12, [.ref a_sides, .ref a_ranks, .ref a_stop, .ref a_terms, .ref a_names, .ref a_s, .int a_n, .int a_at, .int a_behind, .int a_token, .int a_open, .long a_number, .ref a_word, .int a_letters, .ref a_stack, .int a_top, .int a_place, .ref a_variables, .int a_variabled, .int a_known, .int a_rank, .ref a_kept])), (a_sides, .inl (cs 4, 20, .inr (.inr (.inr (.inr (sdf ka)))))), (a_ranks, .inl (cs 0, a_ranks_n, .inl a_ranks_f)), (a_word, .inl (cs 1, a_word_n, .inl a_word_f))]) (va_A [(a, .inr (12, [.ref a_sides, .ref a_ranks, .ref a_stop, .ref a_terms, .ref a_names, .ref a_s, .int a_n, .int a_at, .int a_behind, .int a_token, .int a_open, .long a_number, .ref a_word, .int a_letters, .ref a_stack, .int a_top, .int a_place, .ref a_variables, .int a_variabled, .int a_known, .int a_rank, .ref a_kept])), (a_sides, .inl (cs 4, 20, .inr (.inr (.inr (.inr (sdf ka)))))), (a_ranks, .inl (cs 0, a_ranks_n, .inl a_ranks_f)), (a_word, .inl (cs 1, a_word_n, .inl a_word_f))] sz)) 0 0 (va_A [(a, .inr (12, [.ref a_sides, .ref a_ranks, .ref a_stop, .ref a_terms, .ref a_names, .ref a_s, .int a_n, .int a_at, .int a_behind, .int a_token, .int a_open, .long a_number, .ref a_word, .int a_letters, .ref a_stack, .int a_top, .int a_place, .ref a_variables, .int a_variabled, .int a_known, .int a_rank, .ref a_kept])), (a_sides, .inl (cs 4, 20, .inr (.inr (.inr (.inr (sdf ka)))))), (a_ranks, .inl (cs 0, a_ranks_n, .inl a_ranks_f)), (a_word, .inl (cs 1, a_word_n, .inl a_word_f))] sz) := by
  refine Met.ofW (cc := b_MoReader_begins) (maxL := 1) (ret := (some .boolean)) (by decide) rfl ?_
  intro p e s m args below meth c s₁ B hml hv
  obtain ⟨rfl, hsz, hP, hK, hD0, hgl, hkn, hkr⟩ := hv
  have hx := B.exec
  have hb := B.bytes
  have hr := B.returns
  have hg : ∀ w ∈ GW, w.before ([.ref a] : List Value).toArray s = true := fun w hw => atoms_spec (ws := .code y_MoReader_begins b_MoReader_begins 1 (some .boolean) :: GW) B.pre w (List.mem_cons_of_mem _ hw)
  have hown : s.vm.findClass R_MoReader = some m.cls := findClass_of_methodNamed B.named
  have hlocks := B.notSynchronized
  subst hsz
  have hD := hD0.self (sz := s.heap.size)
  generalize hAe : va_A [(a, .inr (12, [.ref a_sides, .ref a_ranks, .ref a_stop, .ref a_terms, .ref a_names, .ref a_s, .int a_n, .int a_at, .int a_behind, .int a_token, .int a_open, .long a_number, .ref a_word, .int a_letters, .ref a_stack, .int a_top, .int a_place, .ref a_variables, .int a_variabled, .int a_known, .int a_rank, .ref a_kept])), (a_sides, .inl (cs 4, 20, .inr (.inr (.inr (.inr (sdf ka)))))), (a_ranks, .inl (cs 0, a_ranks_n, .inl a_ranks_f)), (a_word, .inl (cs 1, a_word_n, .inl a_word_f))] s.heap.size = A at hD hkn ⊢
  have hA : ∀ q : Nat, s.heap.size ≤ q → A q := fun q h => by rw [← hAe]; exact Or.inr h
  have hS : va_S A s.heap s.heap [] := va_S.rf
  have hP : va_P g classes [(a, .inr (12, [.ref a_sides, .ref a_ranks, .ref a_stop, .ref a_terms, .ref a_names, .ref a_s, .int a_n, .int a_at, .int a_behind, .int a_token, .int a_open, .long a_number, .ref a_word, .int a_letters, .ref a_stack, .int a_top, .int a_place, .ref a_variables, .int a_variabled, .int a_known, .int a_rank, .ref a_kept])), (a_sides, .inl (cs 4, 20, .inr (.inr (.inr (.inr (sdf ka)))))), (a_ranks, .inl (cs 0, a_ranks_n, .inl a_ranks_f)), (a_word, .inl (cs 1, a_word_n, .inl a_word_f))] s.heap := hP
  have hl := lv_entry ([.ref a]) (n := 1) (Nat.le_of_ble_eq_true rfl)
  rw [lg_entry_eq]
  generalize (lg_sl ([.ref a]) ++ List.replicate (1 - (lg_sl ([.ref a])).length) Slot.unset).toArray = ls at hl ⊢
  have hl : lv_has ls 1 [(0, .ref a)] := hl
  refine gq (fun Q hQ => ?_)
  obtain ⟨H, hH⟩ : ∃ H : Heap, H = s.heap := ⟨_, rfl⟩
  rw [← hH] at hP
  have hS : va_S A s.heap H [] := by rw [hH]; exact hS
  refine W.eqH hH ?_
  obtain ⟨locs, hlc⟩ : ∃ L : List Loc, L = [] := ⟨_, rfl⟩
  rw [← hlc] at hS ⊢
  unfold p_MoReader_begins at hok
  refine lv_aload_n hx hb d_MoReader_begins_0 rfl (lv_at hl 0 rfl) ?_
  refine va_get (D := g) (ci := 12) (v := .int a_token) (C := R_MoReader) (T := F_MoReader) (N := 22) hx hb hg ul_MoReader hown hK hP 0 rfl rfl 9 (by decide) (hg _ wd_1179) (fun _ h9 => h9) rfl d_MoReader_begins_1 ?_
  refine lv_iconst (v := 5) hx hb d_MoReader_begins_4 (by decide) ?_
  refine lv_icmp_eq hx hb d_MoReader_begins_5 rfl (fun h1 => ?_) (fun h1 => ?_)
  · rw [if_pos h1] at hok
    refine lv_iconst (v := 0) hx hb d_MoReader_begins_60 (by decide) ?_
    have hq := Option.some.inj hok
    have hq0 := hq
    subst hq0
    obtain ⟨hP9, hD9⟩ := sub2 (ws' := [(a, .inr (12, [.ref a_sides, .ref a_ranks, .ref a_stop, .ref a_terms, .ref a_names, .ref a_s, .int a_n, .int a_at, .int a_behind, .int a_token, .int a_open, .long a_number, .ref a_word, .int a_letters, .ref a_stack, .int a_top, .int a_place, .ref a_variables, .int a_variabled, .int a_known, .int a_rank, .ref a_kept])), (a_sides, .inl (cs 4, 20, .inr (.inr (.inr (.inr (sdf ka)))))), (a_ranks, .inl (cs 0, a_ranks_n, .inl a_ranks_f)), (a_word, .inl (cs 1, a_word_n, .inl a_word_f))]) hP hD [0, 1, 2, 3] rfl (by decide) rfl
    rw [hQ]
    exact W.zret (v := 0) hx hb hr rfl (fun t ht hW => ⟨⟨_, (), rfl, rfl, by rw [ht]; exact hP9, hD9⟩, hS.F ht⟩) hS.2.2 d_MoReader_begins_61
  · rw [if_neg h1] at hok
    refine lv_aload_n hx hb d_MoReader_begins_8 rfl (lv_at hl 0 rfl) ?_
    refine va_get (D := g) (ci := 12) (v := .int a_token) (C := R_MoReader) (T := F_MoReader) (N := 22) hx hb hg ul_MoReader hown hK hP 0 rfl rfl 9 (by decide) (hg _ wd_1179) (fun _ h9 => h9) rfl d_MoReader_begins_9 ?_
    refine lv_bipush (v := 7) hx hb d_MoReader_begins_12 (by decide) ?_
    refine lv_icmp_eq hx hb d_MoReader_begins_14 rfl (fun h2 => ?_) (fun h2 => ?_)
    · rw [if_pos h2] at hok
      refine lv_iconst (v := 0) hx hb d_MoReader_begins_60 (by decide) ?_
      have hq := Option.some.inj hok
      have hq0 := hq
      subst hq0
      obtain ⟨hP9, hD9⟩ := sub2 (ws' := [(a, .inr (12, [.ref a_sides, .ref a_ranks, .ref a_stop, .ref a_terms, .ref a_names, .ref a_s, .int a_n, .int a_at, .int a_behind, .int a_token, .int a_open, .long a_number, .ref a_word, .int a_letters, .ref a_stack, .int a_top, .int a_place, .ref a_variables, .int a_variabled, .int a_known, .int a_rank, .ref a_kept])), (a_sides, .inl (cs 4, 20, .inr (.inr (.inr (.inr (sdf ka)))))), (a_ranks, .inl (cs 0, a_ranks_n, .inl a_ranks_f)), (a_word, .inl (cs 1, a_word_n, .inl a_word_f))]) hP hD [0, 1, 2, 3] rfl (by decide) rfl
      rw [hQ]
      exact W.zret (v := 0) hx hb hr rfl (fun t ht hW => ⟨⟨_, (), rfl, rfl, by rw [ht]; exact hP9, hD9⟩, hS.F ht⟩) hS.2.2 d_MoReader_begins_61
    · rw [if_neg h2] at hok
      refine lv_aload_n hx hb d_MoReader_begins_17 rfl (lv_at hl 0 rfl) ?_
      refine va_get (D := g) (ci := 12) (v := .int a_token) (C := R_MoReader) (T := F_MoReader) (N := 22) hx hb hg ul_MoReader hown hK hP 0 rfl rfl 9 (by decide) (hg _ wd_1179) (fun _ h9 => h9) rfl d_MoReader_begins_18 ?_
      refine lv_bipush (v := 9) hx hb d_MoReader_begins_21 (by decide) ?_
      refine lv_icmp_eq hx hb d_MoReader_begins_23 rfl (fun h3 => ?_) (fun h3 => ?_)
      · rw [if_pos h3] at hok
        refine lv_iconst (v := 0) hx hb d_MoReader_begins_60 (by decide) ?_
        have hq := Option.some.inj hok
        have hq0 := hq
        subst hq0
        obtain ⟨hP9, hD9⟩ := sub2 (ws' := [(a, .inr (12, [.ref a_sides, .ref a_ranks, .ref a_stop, .ref a_terms, .ref a_names, .ref a_s, .int a_n, .int a_at, .int a_behind, .int a_token, .int a_open, .long a_number, .ref a_word, .int a_letters, .ref a_stack, .int a_top, .int a_place, .ref a_variables, .int a_variabled, .int a_known, .int a_rank, .ref a_kept])), (a_sides, .inl (cs 4, 20, .inr (.inr (.inr (.inr (sdf ka)))))), (a_ranks, .inl (cs 0, a_ranks_n, .inl a_ranks_f)), (a_word, .inl (cs 1, a_word_n, .inl a_word_f))]) hP hD [0, 1, 2, 3] rfl (by decide) rfl
        rw [hQ]
        exact W.zret (v := 0) hx hb hr rfl (fun t ht hW => ⟨⟨_, (), rfl, rfl, by rw [ht]; exact hP9, hD9⟩, hS.F ht⟩) hS.2.2 d_MoReader_begins_61
      · rw [if_neg h3] at hok
        refine lv_aload_n hx hb d_MoReader_begins_26 rfl (lv_at hl 0 rfl) ?_
        refine va_get (D := g) (ci := 12) (v := .int a_token) (C := R_MoReader) (T := F_MoReader) (N := 22) hx hb hg ul_MoReader hown hK hP 0 rfl rfl 9 (by decide) (hg _ wd_1179) (fun _ h9 => h9) rfl d_MoReader_begins_27 ?_
        refine lv_bipush (v := 10) hx hb d_MoReader_begins_30 (by decide) ?_
        refine lv_icmp_eq hx hb d_MoReader_begins_32 rfl (fun h4 => ?_) (fun h4 => ?_)
        · rw [if_pos h4] at hok
          refine lv_iconst (v := 0) hx hb d_MoReader_begins_60 (by decide) ?_
          have hq := Option.some.inj hok
          have hq0 := hq
          subst hq0
          obtain ⟨hP9, hD9⟩ := sub2 (ws' := [(a, .inr (12, [.ref a_sides, .ref a_ranks, .ref a_stop, .ref a_terms, .ref a_names, .ref a_s, .int a_n, .int a_at, .int a_behind, .int a_token, .int a_open, .long a_number, .ref a_word, .int a_letters, .ref a_stack, .int a_top, .int a_place, .ref a_variables, .int a_variabled, .int a_known, .int a_rank, .ref a_kept])), (a_sides, .inl (cs 4, 20, .inr (.inr (.inr (.inr (sdf ka)))))), (a_ranks, .inl (cs 0, a_ranks_n, .inl a_ranks_f)), (a_word, .inl (cs 1, a_word_n, .inl a_word_f))]) hP hD [0, 1, 2, 3] rfl (by decide) rfl
          rw [hQ]
          exact W.zret (v := 0) hx hb hr rfl (fun t ht hW => ⟨⟨_, (), rfl, rfl, by rw [ht]; exact hP9, hD9⟩, hS.F ht⟩) hS.2.2 d_MoReader_begins_61
        · rw [if_neg h4] at hok
          refine lv_aload_n hx hb d_MoReader_begins_35 rfl (lv_at hl 0 rfl) ?_
          refine va_get (D := g) (ci := 12) (v := .int a_token) (C := R_MoReader) (T := F_MoReader) (N := 22) hx hb hg ul_MoReader hown hK hP 0 rfl rfl 9 (by decide) (hg _ wd_1179) (fun _ h9 => h9) rfl d_MoReader_begins_36 ?_
          refine lv_bipush (v := 11) hx hb d_MoReader_begins_39 (by decide) ?_
          refine lv_icmp_eq hx hb d_MoReader_begins_41 rfl (fun h5 => ?_) (fun h5 => ?_)
          · rw [if_pos h5] at hok
            refine lv_iconst (v := 0) hx hb d_MoReader_begins_60 (by decide) ?_
            have hq := Option.some.inj hok
            have hq0 := hq
            subst hq0
            obtain ⟨hP9, hD9⟩ := sub2 (ws' := [(a, .inr (12, [.ref a_sides, .ref a_ranks, .ref a_stop, .ref a_terms, .ref a_names, .ref a_s, .int a_n, .int a_at, .int a_behind, .int a_token, .int a_open, .long a_number, .ref a_word, .int a_letters, .ref a_stack, .int a_top, .int a_place, .ref a_variables, .int a_variabled, .int a_known, .int a_rank, .ref a_kept])), (a_sides, .inl (cs 4, 20, .inr (.inr (.inr (.inr (sdf ka)))))), (a_ranks, .inl (cs 0, a_ranks_n, .inl a_ranks_f)), (a_word, .inl (cs 1, a_word_n, .inl a_word_f))]) hP hD [0, 1, 2, 3] rfl (by decide) rfl
            rw [hQ]
            exact W.zret (v := 0) hx hb hr rfl (fun t ht hW => ⟨⟨_, (), rfl, rfl, by rw [ht]; exact hP9, hD9⟩, hS.F ht⟩) hS.2.2 d_MoReader_begins_61
          · rw [if_neg h5] at hok
            refine lv_aload_n hx hb d_MoReader_begins_44 rfl (lv_at hl 0 rfl) ?_
            refine va_get (D := g) (ci := 12) (v := .int a_token) (C := R_MoReader) (T := F_MoReader) (N := 22) hx hb hg ul_MoReader hown hK hP 0 rfl rfl 9 (by decide) (hg _ wd_1179) (fun _ h9 => h9) rfl d_MoReader_begins_45 ?_
            refine lv_if_eq hx hb d_MoReader_begins_48 rfl (fun h6 => ?_) (fun h6 => ?_)
            · rw [if_pos h6] at hok
              refine lv_iconst (v := 0) hx hb d_MoReader_begins_60 (by decide) ?_
              have hq := Option.some.inj hok
              have hq0 := hq
              subst hq0
              obtain ⟨hP9, hD9⟩ := sub2 (ws' := [(a, .inr (12, [.ref a_sides, .ref a_ranks, .ref a_stop, .ref a_terms, .ref a_names, .ref a_s, .int a_n, .int a_at, .int a_behind, .int a_token, .int a_open, .long a_number, .ref a_word, .int a_letters, .ref a_stack, .int a_top, .int a_place, .ref a_variables, .int a_variabled, .int a_known, .int a_rank, .ref a_kept])), (a_sides, .inl (cs 4, 20, .inr (.inr (.inr (.inr (sdf ka)))))), (a_ranks, .inl (cs 0, a_ranks_n, .inl a_ranks_f)), (a_word, .inl (cs 1, a_word_n, .inl a_word_f))]) hP hD [0, 1, 2, 3] rfl (by decide) rfl
              rw [hQ]
              exact W.zret (v := 0) hx hb hr rfl (fun t ht hW => ⟨⟨_, (), rfl, rfl, by rw [ht]; exact hP9, hD9⟩, hS.F ht⟩) hS.2.2 d_MoReader_begins_61
            · rw [if_neg h6] at hok
              refine lv_aload_n hx hb d_MoReader_begins_51 rfl (lv_at hl 0 rfl) ?_
              refine va_get (D := g) (ci := 12) (v := .int a_token) (C := R_MoReader) (T := F_MoReader) (N := 22) hx hb hg ul_MoReader hown hK hP 0 rfl rfl 9 (by decide) (hg _ wd_1179) (fun _ h9 => h9) rfl d_MoReader_begins_52 ?_
              refine lv_bipush (v := 13) hx hb d_MoReader_begins_55 (by decide) ?_
              refine lv_icmp_ne hx hb d_MoReader_begins_57 rfl (fun h7 => ?_) (fun h7 => ?_)
              · rw [if_neg h7] at hok
                refine lv_aload_n hx hb d_MoReader_begins_62 rfl (lv_at hl 0 rfl) ?_
                obtain ⟨r8, hc8, hok⟩ := bd_some hok
                obtain ⟨hPc, hDc, hFc⟩ := cut0 (wc := [(a, .inr (12, [.ref a_sides, .ref a_ranks, .ref a_stop, .ref a_terms, .ref a_names, .ref a_s, .int a_n, .int a_at, .int a_behind, .int a_token, .int a_open, .long a_number, .ref a_word, .int a_letters, .ref a_stack, .int a_top, .int a_place, .ref a_variables, .int a_variabled, .int a_known, .int a_rank, .ref a_kept])), (a_sides, .inl (cs 4, 20, .inr (.inr (.inr (.inr (sdf ka)))))), (a_ranks, .inl (cs 0, a_ranks_n, .inl a_ranks_f)), (a_word, .inl (cs 1, a_word_n, .inl a_word_f))]) hP hD hS hA [0, 1, 2, 3] (by decide) rfl
                refine va_calli (va_runV (As := []) (rest := []) ⟨hx, hb, hml, hown, hg⟩ (c_MoReader_rank l g cs ka a_stop a_terms a_names a_s a_stack a_variables a_kept a a_sides a_ranks a_word H.size n a_n a_at a_behind a_token a_open a_number a_letters a_top a_place a_variabled a_known a_rank a_ranks_n a_ranks_f a_word_n a_word_f r8 hc8) (cwV (C := R_MoReader) 0 hg (gw_V wd_1232 wd_1233 wd_1234 wd_754 wd_1231) rfl rfl rfl (by decide +kernel) ⟨Nat.le_of_ble_eq_true rfl, Nat.le_of_ble_eq_true rfl⟩) ⟨gP_blind, va_recv (q0 := 0) (ci := 12) (q := (R_MoReader, F_MoReader, 22)) hK hP rfl rfl, gP_pre hPc hDc hK hgl hkn hkr hS hFc⟩ rfl rfl hl.1 rfl (lv_room (Nat.le_of_ble_eq_true rfl)) d_MoReader_begins_63 ⟨Nat.le_of_ble_eq_true rfl, Nat.le_of_ble_eq_true rfl⟩) hS (fun q _ h => hFc q h) hFc (fun r8' u t H locs ht hvm hr8 hB hz1 hk1 hS => ?_)
                subst hr8
                rw [ht] at hB
                obtain ⟨hP1, hD1⟩ := hB
                obtain ⟨hP, hD⟩ := jn_A hP hD [0, 1, 2, 3] [] rfl rfl (by decide) (by decide) hk1 hFc hP1 hD1
                obtain ⟨hP, hD⟩ : PD g A H [(a, .inr (12, [.ref a_sides, .ref a_ranks, .ref a_stop, .ref a_terms, .ref a_names, .ref a_s, .int a_n, .int a_at, .int a_behind, .int a_token, .int a_open, .long a_number, .ref a_word, .int a_letters, .ref a_stack, .int a_top, .int a_place, .ref a_variables, .int a_variabled, .int a_known, .int a_rank, .ref a_kept])), (a_sides, .inl (cs 4, 20, .inr (.inr (.inr (.inr (sdf ka)))))), (a_ranks, .inl (cs 0, a_ranks_n, .inl a_ranks_f)), (a_word, .inl (cs 1, a_word_n, .inl a_word_f))] := ⟨hP, hD⟩
                refine lv_iconst (v := (-1)) hx hb d_MoReader_begins_66 (by decide) ?_
                refine lv_icmp_eq hx hb d_MoReader_begins_67 rfl (fun h9 => ?_) (fun h9 => ?_)
                · rw [if_pos h9] at hok
                  refine lv_iconst (v := 1) hx hb d_MoReader_begins_78 (by decide) ?_
                  refine lv_goto hx hb d_MoReader_begins_79 rfl ?_
                  have hq := Option.some.inj hok
                  have hq0 := hq
                  subst hq0
                  obtain ⟨hP9, hD9⟩ := sub2 (ws' := [(a, .inr (12, [.ref a_sides, .ref a_ranks, .ref a_stop, .ref a_terms, .ref a_names, .ref a_s, .int a_n, .int a_at, .int a_behind, .int a_token, .int a_open, .long a_number, .ref a_word, .int a_letters, .ref a_stack, .int a_top, .int a_place, .ref a_variables, .int a_variabled, .int a_known, .int a_rank, .ref a_kept])), (a_sides, .inl (cs 4, 20, .inr (.inr (.inr (.inr (sdf ka)))))), (a_ranks, .inl (cs 0, a_ranks_n, .inl a_ranks_f)), (a_word, .inl (cs 1, a_word_n, .inl a_word_f))]) hP hD [0, 1, 2, 3] rfl (by decide) rfl
                  rw [hQ]
                  exact W.zret (v := 1) hx hb hr rfl (fun t ht hW => ⟨⟨_, (), rfl, rfl, by rw [ht]; exact hP9, hD9⟩, hS.F ht⟩) hS.2.2 d_MoReader_begins_83
                · rw [if_neg h9] at hok
                  refine lv_aload_n hx hb d_MoReader_begins_70 rfl (lv_at hl 0 rfl) ?_
                  obtain ⟨r10, hc10, hok⟩ := bd_some hok
                  obtain ⟨hPc, hDc, hFc⟩ := cut0 (wc := [(a, .inr (12, [.ref a_sides, .ref a_ranks, .ref a_stop, .ref a_terms, .ref a_names, .ref a_s, .int a_n, .int a_at, .int a_behind, .int a_token, .int a_open, .long a_number, .ref a_word, .int a_letters, .ref a_stack, .int a_top, .int a_place, .ref a_variables, .int a_variabled, .int a_known, .int a_rank, .ref a_kept])), (a_word, .inl (cs 1, a_word_n, .inl a_word_f))]) hP hD hS hA [0, 3] (by decide) rfl
                  refine va_calli (va_runV (As := []) (rest := []) ⟨hx, hb, hml, hown, hg⟩ (c_MoReader_prefix l g cs ka a_sides a_ranks a_stop a_terms a_names a_s a_stack a_variables a_kept a a_word H.size n a_n a_at a_behind a_token a_open a_number a_letters a_top a_place a_variabled a_known a_rank a_word_n a_word_f r10 hc10) (cwV (C := R_MoReader) 0 hg (gw_V wd_1236 wd_1237 wd_1238 wd_754 wd_1235) rfl rfl rfl (by decide +kernel) ⟨Nat.le_of_ble_eq_true rfl, Nat.le_of_ble_eq_true rfl⟩) ⟨gP_blind, va_recv (q0 := 0) (ci := 12) (q := (R_MoReader, F_MoReader, 22)) hK hP rfl rfl, gP_pre hPc hDc hK hgl hkn hkr hS hFc⟩ rfl rfl hl.1 rfl (lv_room (Nat.le_of_ble_eq_true rfl)) d_MoReader_begins_71 ⟨Nat.le_of_ble_eq_true rfl, Nat.le_of_ble_eq_true rfl⟩) hS (fun q _ h => hFc q h) hFc (fun r10' u t H locs ht hvm hr10 hB hz1 hk1 hS => ?_)
                  subst hr10
                  rw [ht] at hB
                  obtain ⟨hP1, hD1⟩ := hB
                  obtain ⟨hP, hD⟩ := jn_A hP hD [0, 3] [1, 2] rfl rfl (by decide) (by decide) hk1 hFc hP1 hD1
                  obtain ⟨hP, hD⟩ : PD g A H [(a_sides, .inl (cs 4, 20, .inr (.inr (.inr (.inr (sdf ka)))))), (a_ranks, .inl (cs 0, a_ranks_n, .inl a_ranks_f)), (a, .inr (12, [.ref a_sides, .ref a_ranks, .ref a_stop, .ref a_terms, .ref a_names, .ref a_s, .int a_n, .int a_at, .int a_behind, .int a_token, .int a_open, .long a_number, .ref a_word, .int a_letters, .ref a_stack, .int a_top, .int a_place, .ref a_variables, .int a_variabled, .int a_known, .int a_rank, .ref a_kept])), (a_word, .inl (cs 1, a_word_n, .inl a_word_f))] := ⟨hP, hD⟩
                  refine lv_iconst (v := (-1)) hx hb d_MoReader_begins_74 (by decide) ?_
                  refine lv_icmp_eq hx hb d_MoReader_begins_75 rfl (fun h11 => ?_) (fun h11 => ?_)
                  · rw [if_pos h11] at hok
                    refine lv_iconst (v := 0) hx hb d_MoReader_begins_82 (by decide) ?_
                    have hq := Option.some.inj hok
                    have hq0 := hq
                    subst hq0
                    obtain ⟨hP9, hD9⟩ := sub2 (ws' := [(a, .inr (12, [.ref a_sides, .ref a_ranks, .ref a_stop, .ref a_terms, .ref a_names, .ref a_s, .int a_n, .int a_at, .int a_behind, .int a_token, .int a_open, .long a_number, .ref a_word, .int a_letters, .ref a_stack, .int a_top, .int a_place, .ref a_variables, .int a_variabled, .int a_known, .int a_rank, .ref a_kept])), (a_sides, .inl (cs 4, 20, .inr (.inr (.inr (.inr (sdf ka)))))), (a_ranks, .inl (cs 0, a_ranks_n, .inl a_ranks_f)), (a_word, .inl (cs 1, a_word_n, .inl a_word_f))]) hP hD [2, 0, 1, 3] rfl (by decide) rfl
                    rw [hQ]
                    exact W.zret (v := 0) hx hb hr rfl (fun t ht hW => ⟨⟨_, (), rfl, rfl, by rw [ht]; exact hP9, hD9⟩, hS.F ht⟩) hS.2.2 d_MoReader_begins_83
                  · rw [if_neg h11] at hok
                    refine lv_iconst (v := 1) hx hb d_MoReader_begins_78 (by decide) ?_
                    refine lv_goto hx hb d_MoReader_begins_79 rfl ?_
                    have hq := Option.some.inj hok
                    have hq0 := hq
                    subst hq0
                    obtain ⟨hP9, hD9⟩ := sub2 (ws' := [(a, .inr (12, [.ref a_sides, .ref a_ranks, .ref a_stop, .ref a_terms, .ref a_names, .ref a_s, .int a_n, .int a_at, .int a_behind, .int a_token, .int a_open, .long a_number, .ref a_word, .int a_letters, .ref a_stack, .int a_top, .int a_place, .ref a_variables, .int a_variabled, .int a_known, .int a_rank, .ref a_kept])), (a_sides, .inl (cs 4, 20, .inr (.inr (.inr (.inr (sdf ka)))))), (a_ranks, .inl (cs 0, a_ranks_n, .inl a_ranks_f)), (a_word, .inl (cs 1, a_word_n, .inl a_word_f))]) hP hD [2, 0, 1, 3] rfl (by decide) rfl
                    rw [hQ]
                    exact W.zret (v := 1) hx hb hr rfl (fun t ht hW => ⟨⟨_, (), rfl, rfl, by rw [ht]; exact hP9, hD9⟩, hS.F ht⟩) hS.2.2 d_MoReader_begins_83
              · rw [if_pos h7] at hok
                refine lv_iconst (v := 0) hx hb d_MoReader_begins_60 (by decide) ?_
                have hq := Option.some.inj hok
                have hq0 := hq
                subst hq0
                obtain ⟨hP9, hD9⟩ := sub2 (ws' := [(a, .inr (12, [.ref a_sides, .ref a_ranks, .ref a_stop, .ref a_terms, .ref a_names, .ref a_s, .int a_n, .int a_at, .int a_behind, .int a_token, .int a_open, .long a_number, .ref a_word, .int a_letters, .ref a_stack, .int a_top, .int a_place, .ref a_variables, .int a_variabled, .int a_known, .int a_rank, .ref a_kept])), (a_sides, .inl (cs 4, 20, .inr (.inr (.inr (.inr (sdf ka)))))), (a_ranks, .inl (cs 0, a_ranks_n, .inl a_ranks_f)), (a_word, .inl (cs 1, a_word_n, .inl a_word_f))]) hP hD [0, 1, 2, 3] rfl (by decide) rfl
                rw [hQ]
                exact W.zret (v := 0) hx hb hr rfl (fun t ht hW => ⟨⟨_, (), rfl, rfl, by rw [ht]; exact hP9, hD9⟩, hS.F ht⟩) hS.2.2 d_MoReader_begins_61

theorem d_MoReader_name_0 : decode b_MoReader_name 0 = .ok (.aload_n 0, 1) := by decide +kernel
theorem d_MoReader_name_1 : decode b_MoReader_name 1 = .ok (.getfield 85, 3) := by decide +kernel
theorem d_MoReader_name_4 : decode b_MoReader_name 4 = .ok (.aload_n 0, 1) := by decide +kernel
theorem d_MoReader_name_5 : decode b_MoReader_name 5 = .ok (.getfield 68, 3) := by decide +kernel
theorem d_MoReader_name_8 : decode b_MoReader_name 8 = .ok (.aload_n 0, 1) := by decide +kernel
theorem d_MoReader_name_9 : decode b_MoReader_name 9 = .ok (.getfield 139, 3) := by decide +kernel
theorem d_MoReader_name_12 : decode b_MoReader_name 12 = .ok (.invokevirtual 219, 3) := by decide +kernel
theorem d_MoReader_name_15 : decode b_MoReader_name 15 = .ok (.ireturn, 1) := by decide +kernel
def p_MoReader_name (n : Nat) (a_n : Int32) (a_at : Int32) (a_behind : Int32) (a_token : Int32) (a_open : Int32) (a_number : Int64) (a_letters : Int32) (a_top : Int32) (a_place : Int32) (a_variabled : Int32) (a_known : Int32) (a_rank : Int32) (a_names_size : Int32) (a_names_texted : Int32) (a_names_text_n : Nat) (a_names_text_f : Nat → Int32) (a_names_from_n : Nat) (a_names_from_f : Nat → Int32) (a_names_next_n : Nat) (a_names_next_f : Nat → Int32) (a_names_first_n : Nat) (a_names_first_f : Nat → Int32) (a_word_n : Nat) (a_word_f : Nat → Int32) : Option (Int32 × Int32 × Int32 × (Nat → Int32) × (Nat → Int32) × (Nat → Int32) × (Nat → Int32)) := (p_MoNames_of n a_letters a_names_size a_names_texted a_names_text_n a_names_text_f a_names_from_n a_names_from_f a_names_next_n a_names_next_f a_names_first_n a_names_first_f a_word_n a_word_f).bind (fun (r1, a_size_1, a_texted_1, a_text_f_1, a_from_f_1, a_next_f_1, a_first_f_1) => some (r1, a_size_1, a_texted_1, a_text_f_1, a_from_f_1, a_next_f_1, a_first_f_1))
set_option maxHeartbeats 40000000 in
set_option maxRecDepth 100000 in
theorem c_MoReader_name (l : Launch) (g : va_G) (cs : Nat → ClassId) (ka : Nat → Nat) (a_sides : Nat) (a_ranks : Nat) (a_stop : Nat) (a_terms : Nat) (a_s : Nat) (a_stack : Nat) (a_variables : Nat) (a_kept : Nat) (a a_names a_names_text a_names_from a_names_next a_names_first a_word : Nat) (sz : Nat) (n : Nat) (a_n : Int32) (a_at : Int32) (a_behind : Int32) (a_token : Int32) (a_open : Int32) (a_number : Int64) (a_letters : Int32) (a_top : Int32) (a_place : Int32) (a_variabled : Int32) (a_known : Int32) (a_rank : Int32) (a_names_size : Int32) (a_names_texted : Int32) (a_names_text_n : Nat) (a_names_text_f : Nat → Int32) (a_names_from_n : Nat) (a_names_from_f : Nat → Int32) (a_names_next_n : Nat) (a_names_next_f : Nat → Int32) (a_names_first_n : Nat) (a_names_first_f : Nat → Int32) (a_word_n : Nat) (a_word_f : Nat → Int32) (r : Int32) (o_a_names_size : Int32) (o_a_names_texted : Int32) (o_a_names_text_f : Nat → Int32) (o_a_names_from_f : Nat → Int32) (o_a_names_next_f : Nat → Int32) (o_a_names_first_f : Nat → Int32) (hok : p_MoReader_name n a_n a_at a_behind a_token a_open a_number a_letters a_top a_place a_variabled a_known a_rank a_names_size a_names_texted a_names_text_n a_names_text_f a_names_from_n a_names_from_f a_names_next_n a_names_next_f a_names_first_n a_names_first_f a_word_n a_word_f = some (r, o_a_names_size, o_a_names_texted, o_a_names_text_f, o_a_names_from_f, o_a_names_next_f, o_a_names_first_f)) : Met l y_MoReader_name (.code y_MoReader_name b_MoReader_name 1 (some .int) :: GW) { frames := 2, cells := 0, slots := 0, locals := 48 } (va_Pc [.ref a] (gP g cs ka [(a, .inr (12, [.ref a_sides, .ref a_ranks, .ref a_stop, .ref a_terms, .ref a_names, .ref a_s, .int a_n, .int a_at, .int a_behind, .int a_token, .int a_open, .long a_number, .ref a_word, .int a_letters, .ref a_stack, .int a_top, .int a_place, .ref a_variables, .int a_variabled, .int a_known, .int a_rank, .ref a_kept])), (a_names, .inr (10, [.ref a_names_text, .ref a_names_from, .ref a_names_next, .ref a_names_first, .int a_names_size, .int a_names_texted])), (a_names_text, .inl (cs 1, a_names_text_n, .inl a_names_text_f)), (a_names_from, .inl (cs 0, a_names_from_n, .inl a_names_from_f)), (a_names_next, .inl (cs 0, a_names_next_n, .inl a_names_next_f)), (a_names_first, .inl (cs 0, a_names_first_n, .inl a_names_first_f)), (a_word, .inl (cs 1, a_word_n, .inl a_word_f))] sz)) (va_Qi (fun (r' : Int32) (_ : Unit) => r = r') (fun _ t => va_P g classes [(a, .inr (12, [.ref a_sides, .ref a_ranks, .ref a_stop, .ref a_terms, .ref a_names, .ref a_s, .int a_n, .int a_at, .int a_behind, .int a_token, .int a_open, .long a_number, .ref a_word, .int a_letters, .ref a_stack, .int a_top, .int a_place, .ref a_variables, .int a_variabled, .int a_known, .int a_rank, .ref a_kept])), (a_names, .inr (10, [.ref a_names_text, .ref a_names_from, .ref a_names_next, .ref a_names_first, .int o_a_names_size, .int o_a_names_texted])), (a_names_text, .inl (cs 1, a_names_text_n, .inl o_a_names_text_f)), (a_names_from, .inl (cs 0, a_names_from_n, .inl o_a_names_from_f)), (a_names_next, .inl (cs 0, a_names_next_n, .inl o_a_names_next_f)), (a_names_first, .inl (cs 0, a_names_first_n, .inl o_a_names_first_f)), (a_word, .inl (cs 1, a_word_n, .inl a_word_f))] t.heap ∧ va_D (va_A [(a, .inr (12, [.ref a_sides, .ref a_ranks, .ref a_stop, .ref a_terms, .ref a_names, .ref a_s, .int a_n, .int a_at, .int a_behind, .int a_token, .int a_open, .long a_number, .ref a_word, .int a_letters, .ref a_stack, .int a_top, .int a_place, .ref a_variables, .int a_variabled, .int a_known, .int a_rank, .ref a_kept])), (a_names, .inr (10, [.ref a_names_text, .ref a_names_from, .ref a_names_next, .ref a_names_first, .int a_names_size, .int a_names_texted])), (a_names_text, .inl (cs 1, a_names_text_n, .inl a_names_text_f)), (a_names_from, .inl (cs 0, a_names_from_n, .inl a_names_from_f)), (a_names_next, .inl (cs 0, a_names_next_n, .inl a_names_next_f)), (a_names_first, .inl (cs 0, a_names_first_n, .inl a_names_first_f)), (a_word, .inl (cs 1, a_word_n, .inl a_word_f))] sz) [(a, .inr (12, [.ref a_sides, .ref a_ranks, .ref a_stop, .ref a_terms, .ref a_names, .ref a_s, .int a_n, .int a_at, .int a_behind, .int a_token, .int a_open, .long a_number, .ref a_word, .int a_letters, .ref a_stack, .int a_top, .int a_place, .ref a_variables, .int a_variabled, .int a_known, .int a_rank, .ref a_kept])), (a_names, .inr (10, [.ref a_names_text, .ref a_names_from, .ref a_names_next, .ref a_names_first, .int o_a_names_size, .int o_a_names_texted])), (a_names_text, .inl (cs 1, a_names_text_n, .inl o_a_names_text_f)), (a_names_from, .inl (cs 0, a_names_from_n, .inl o_a_names_from_f)), (a_names_next, .inl (cs 0, a_names_next_n, .inl o_a_names_next_f)), (a_names_first, .inl (cs 0, a_names_first_n, .inl o_a_names_first_f)), (a_word, .inl (cs 1, a_word_n, .inl a_word_f))]) (va_A [(a, .inr (12, [.ref a_sides, .ref a_ranks, .ref a_stop, .ref a_terms, .ref a_names, .ref a_s, .int a_n, .int a_at, .int a_behind, .int a_token, .int a_open, .long a_number, .ref a_word, .int a_letters, .ref a_stack, .int a_top, .int a_place, .ref a_variables, .int a_variabled, .int a_known, .int a_rank, .ref a_kept])), (a_names, .inr (10, [.ref a_names_text, .ref a_names_from, .ref a_names_next, .ref a_names_first, .int a_names_size, .int a_names_texted])), (a_names_text, .inl (cs 1, a_names_text_n, .inl a_names_text_f)), (a_names_from, .inl (cs 0, a_names_from_n, .inl a_names_from_f)), (a_names_next, .inl (cs 0, a_names_next_n, .inl a_names_next_f)), (a_names_first, .inl (cs 0, a_names_first_n, .inl a_names_first_f)), (a_word, .inl (cs 1, a_word_n, .inl a_word_f))] sz)) 0 0 (va_A [(a, .inr (12, [.ref a_sides, .ref a_ranks, .ref a_stop, .ref a_terms, .ref a_names, .ref a_s, .int a_n, .int a_at, .int a_behind, .int a_token, .int a_open, .long a_number, .ref a_word, .int a_letters, .ref a_stack, .int a_top, .int a_place, .ref a_variables, .int a_variabled, .int a_known, .int a_rank, .ref a_kept])), (a_names, .inr (10, [.ref a_names_text, .ref a_names_from, .ref a_names_next, .ref a_names_first, .int a_names_size, .int a_names_texted])), (a_names_text, .inl (cs 1, a_names_text_n, .inl a_names_text_f)), (a_names_from, .inl (cs 0, a_names_from_n, .inl a_names_from_f)), (a_names_next, .inl (cs 0, a_names_next_n, .inl a_names_next_f)), (a_names_first, .inl (cs 0, a_names_first_n, .inl a_names_first_f)), (a_word, .inl (cs 1, a_word_n, .inl a_word_f))] sz) := by
  refine Met.ofW (cc := b_MoReader_name) (maxL := 1) (ret := (some .int)) (by decide) rfl ?_
  intro p e s m args below meth c s₁ B hml hv
  obtain ⟨rfl, hsz, hP, hK, hD0, hgl, hkn, hkr⟩ := hv
  have hx := B.exec
  have hb := B.bytes
  have hr := B.returns
  have hg : ∀ w ∈ GW, w.before ([.ref a] : List Value).toArray s = true := fun w hw => atoms_spec (ws := .code y_MoReader_name b_MoReader_name 1 (some .int) :: GW) B.pre w (List.mem_cons_of_mem _ hw)
  have hown : s.vm.findClass R_MoReader = some m.cls := findClass_of_methodNamed B.named
  have hlocks := B.notSynchronized
  subst hsz
  have hD := hD0.self (sz := s.heap.size)
  generalize hAe : va_A [(a, .inr (12, [.ref a_sides, .ref a_ranks, .ref a_stop, .ref a_terms, .ref a_names, .ref a_s, .int a_n, .int a_at, .int a_behind, .int a_token, .int a_open, .long a_number, .ref a_word, .int a_letters, .ref a_stack, .int a_top, .int a_place, .ref a_variables, .int a_variabled, .int a_known, .int a_rank, .ref a_kept])), (a_names, .inr (10, [.ref a_names_text, .ref a_names_from, .ref a_names_next, .ref a_names_first, .int a_names_size, .int a_names_texted])), (a_names_text, .inl (cs 1, a_names_text_n, .inl a_names_text_f)), (a_names_from, .inl (cs 0, a_names_from_n, .inl a_names_from_f)), (a_names_next, .inl (cs 0, a_names_next_n, .inl a_names_next_f)), (a_names_first, .inl (cs 0, a_names_first_n, .inl a_names_first_f)), (a_word, .inl (cs 1, a_word_n, .inl a_word_f))] s.heap.size = A at hD hkn ⊢
  have hA : ∀ q : Nat, s.heap.size ≤ q → A q := fun q h => by rw [← hAe]; exact Or.inr h
  have hS : va_S A s.heap s.heap [] := va_S.rf
  have hP : va_P g classes [(a, .inr (12, [.ref a_sides, .ref a_ranks, .ref a_stop, .ref a_terms, .ref a_names, .ref a_s, .int a_n, .int a_at, .int a_behind, .int a_token, .int a_open, .long a_number, .ref a_word, .int a_letters, .ref a_stack, .int a_top, .int a_place, .ref a_variables, .int a_variabled, .int a_known, .int a_rank, .ref a_kept])), (a_names, .inr (10, [.ref a_names_text, .ref a_names_from, .ref a_names_next, .ref a_names_first, .int a_names_size, .int a_names_texted])), (a_names_text, .inl (cs 1, a_names_text_n, .inl a_names_text_f)), (a_names_from, .inl (cs 0, a_names_from_n, .inl a_names_from_f)), (a_names_next, .inl (cs 0, a_names_next_n, .inl a_names_next_f)), (a_names_first, .inl (cs 0, a_names_first_n, .inl a_names_first_f)), (a_word, .inl (cs 1, a_word_n, .inl a_word_f))] s.heap := hP
  have hl := lv_entry ([.ref a]) (n := 1) (Nat.le_of_ble_eq_true rfl)
  rw [lg_entry_eq]
  generalize (lg_sl ([.ref a]) ++ List.replicate (1 - (lg_sl ([.ref a])).length) Slot.unset).toArray = ls at hl ⊢
  have hl : lv_has ls 1 [(0, .ref a)] := hl
  refine gq (fun Q hQ => ?_)
  obtain ⟨H, hH⟩ : ∃ H : Heap, H = s.heap := ⟨_, rfl⟩
  rw [← hH] at hP
  have hS : va_S A s.heap H [] := by rw [hH]; exact hS
  refine W.eqH hH ?_
  obtain ⟨locs, hlc⟩ : ∃ L : List Loc, L = [] := ⟨_, rfl⟩
  rw [← hlc] at hS ⊢
  unfold p_MoReader_name at hok
  refine lv_aload_n hx hb d_MoReader_name_0 rfl (lv_at hl 0 rfl) ?_
  refine va_get (D := g) (ci := 12) (v := .ref a_names) (C := R_MoReader) (T := F_MoReader) (N := 22) hx hb hg ul_MoReader hown hK hP 0 rfl rfl 4 (by decide) (hg _ wd_1239) (fun _ h9 => h9) rfl d_MoReader_name_1 ?_
  refine lv_aload_n hx hb d_MoReader_name_4 rfl (lv_at hl 0 rfl) ?_
  refine va_get (D := g) (ci := 12) (v := .ref a_word) (C := R_MoReader) (T := F_MoReader) (N := 22) hx hb hg ul_MoReader hown hK hP 0 rfl rfl 12 (by decide) (hg _ wd_1177) (fun _ h9 => h9) rfl d_MoReader_name_5 ?_
  refine lv_aload_n hx hb d_MoReader_name_8 rfl (lv_at hl 0 rfl) ?_
  refine va_get (D := g) (ci := 12) (v := .int a_letters) (C := R_MoReader) (T := F_MoReader) (N := 22) hx hb hg ul_MoReader hown hK hP 0 rfl rfl 13 (by decide) (hg _ wd_1178) (fun _ h9 => h9) rfl d_MoReader_name_9 ?_
  obtain ⟨⟨r1, a_size_1, a_texted_1, a_text_f_1, a_from_f_1, a_next_f_1, a_first_f_1⟩, hc1, hok⟩ := bd_some hok
  dsimp only at hok
  obtain ⟨hPc, hDc, hFc⟩ := cut0 (wc := [(a_names, .inr (10, [.ref a_names_text, .ref a_names_from, .ref a_names_next, .ref a_names_first, .int a_names_size, .int a_names_texted])), (a_names_text, .inl (cs 1, a_names_text_n, .inl a_names_text_f)), (a_names_from, .inl (cs 0, a_names_from_n, .inl a_names_from_f)), (a_names_next, .inl (cs 0, a_names_next_n, .inl a_names_next_f)), (a_names_first, .inl (cs 0, a_names_first_n, .inl a_names_first_f)), (a_word, .inl (cs 1, a_word_n, .inl a_word_f))]) hP hD hS hA [1, 2, 3, 4, 5, 6] (by decide) rfl
  refine va_calli (va_runV (As := [.ref a_word, .int a_letters]) (rest := []) ⟨hx, hb, hml, hown, hg⟩ (c_MoNames_of l g cs ka a_names a_names_text a_names_from a_names_next a_names_first a_word H.size n a_letters a_names_size a_names_texted a_names_text_n a_names_text_f a_names_from_n a_names_from_f a_names_next_n a_names_next_f a_names_first_n a_names_first_f a_word_n a_word_f r1 a_size_1 a_texted_1 a_text_f_1 a_from_f_1 a_next_f_1 a_first_f_1 hc1) (cwV (C := R_MoNames) 2 hg (gw_V wd_1241 wd_1242 wd_1243 wd_717 wd_1240) rfl rfl rfl (by decide +kernel) ⟨Nat.le_of_ble_eq_true rfl, Nat.le_of_ble_eq_true rfl⟩) ⟨gP_blind, va_recv (q0 := 1) (ci := 10) (q := (R_MoNames, F_MoNames, 6)) hK hP rfl rfl, gP_pre hPc hDc hK hgl hkn hkr hS hFc⟩ rfl rfl hl.1 rfl (lv_room (Nat.le_of_ble_eq_true rfl)) d_MoReader_name_12 ⟨Nat.le_of_ble_eq_true rfl, Nat.le_of_ble_eq_true rfl⟩) hS (fun q _ h => hFc q h) hFc (fun r1' u t H locs ht hvm hr1 hB hz1 hk1 hS => ?_)
  subst hr1
  rw [ht] at hB
  obtain ⟨hP1, hD1⟩ := hB
  obtain ⟨hP, hD⟩ := jn_A hP hD [1, 2, 3, 4, 5, 6] [0] rfl rfl (by decide) (by decide) hk1 hFc hP1 hD1
  obtain ⟨hP, hD⟩ : PD g A H [(a, .inr (12, [.ref a_sides, .ref a_ranks, .ref a_stop, .ref a_terms, .ref a_names, .ref a_s, .int a_n, .int a_at, .int a_behind, .int a_token, .int a_open, .long a_number, .ref a_word, .int a_letters, .ref a_stack, .int a_top, .int a_place, .ref a_variables, .int a_variabled, .int a_known, .int a_rank, .ref a_kept])), (a_names, .inr (10, [.ref a_names_text, .ref a_names_from, .ref a_names_next, .ref a_names_first, .int a_size_1, .int a_texted_1])), (a_names_text, .inl (cs 1, a_names_text_n, .inl a_text_f_1)), (a_names_from, .inl (cs 0, a_names_from_n, .inl a_from_f_1)), (a_names_next, .inl (cs 0, a_names_next_n, .inl a_next_f_1)), (a_names_first, .inl (cs 0, a_names_first_n, .inl a_first_f_1)), (a_word, .inl (cs 1, a_word_n, .inl a_word_f))] := ⟨hP, hD⟩
  have hq := Option.some.inj hok
  obtain ⟨hq0, hq⟩ := Prod.mk.inj hq
  obtain ⟨hq1, hq⟩ := Prod.mk.inj hq
  obtain ⟨hq2, hq⟩ := Prod.mk.inj hq
  obtain ⟨hq3, hq⟩ := Prod.mk.inj hq
  obtain ⟨hq4, hq⟩ := Prod.mk.inj hq
  obtain ⟨hq5, hq⟩ := Prod.mk.inj hq
  have hq6 := hq
  subst hq0
  subst hq1
  subst hq2
  subst hq3
  subst hq4
  subst hq5
  subst hq6
  obtain ⟨hP9, hD9⟩ := sub2 (ws' := [(a, .inr (12, [.ref a_sides, .ref a_ranks, .ref a_stop, .ref a_terms, .ref a_names, .ref a_s, .int a_n, .int a_at, .int a_behind, .int a_token, .int a_open, .long a_number, .ref a_word, .int a_letters, .ref a_stack, .int a_top, .int a_place, .ref a_variables, .int a_variabled, .int a_known, .int a_rank, .ref a_kept])), (a_names, .inr (10, [.ref a_names_text, .ref a_names_from, .ref a_names_next, .ref a_names_first, .int a_size_1, .int a_texted_1])), (a_names_text, .inl (cs 1, a_names_text_n, .inl a_text_f_1)), (a_names_from, .inl (cs 0, a_names_from_n, .inl a_from_f_1)), (a_names_next, .inl (cs 0, a_names_next_n, .inl a_next_f_1)), (a_names_first, .inl (cs 0, a_names_first_n, .inl a_first_f_1)), (a_word, .inl (cs 1, a_word_n, .inl a_word_f))]) hP hD [0, 1, 2, 3, 4, 5, 6] rfl (by decide) rfl
  rw [hQ]
  exact W.iret (v := r1) hx hb hr (fun t ht hW => ⟨⟨_, (), rfl, rfl, by rw [ht]; exact hP9, hD9⟩, hS.F ht⟩) hS.2.2 d_MoReader_name_15

theorem d_MoReader_one_0 : decode b_MoReader_one 0 = .ok (.aload_n 0, 1) := by decide +kernel
theorem d_MoReader_one_1 : decode b_MoReader_one 1 = .ok (.iconst 0, 1) := by decide +kernel
theorem d_MoReader_one_2 : decode b_MoReader_one 2 = .ok (.putfield 139, 3) := by decide +kernel
theorem d_MoReader_one_5 : decode b_MoReader_one 5 = .ok (.aload_n 0, 1) := by decide +kernel
theorem d_MoReader_one_6 : decode b_MoReader_one 6 = .ok (.iload_n 1, 1) := by decide +kernel
theorem d_MoReader_one_7 : decode b_MoReader_one 7 = .ok (.invokevirtual 154, 3) := by decide +kernel
theorem d_MoReader_one_10 : decode b_MoReader_one 10 = .ok (.aload_n 0, 1) := by decide +kernel
theorem d_MoReader_one_11 : decode b_MoReader_one 11 = .ok (.invokevirtual 212, 3) := by decide +kernel
theorem d_MoReader_one_14 : decode b_MoReader_one 14 = .ok (.ireturn, 1) := by decide +kernel
def p_MoReader_one (n : Nat) (c0 : Int32) (a_n : Int32) (a_at : Int32) (a_behind : Int32) (a_token : Int32) (a_open : Int32) (a_number : Int64) (a_letters : Int32) (a_top : Int32) (a_place : Int32) (a_variabled : Int32) (a_known : Int32) (a_rank : Int32) (a_names_size : Int32) (a_names_texted : Int32) (a_names_text_n : Nat) (a_names_text_f : Nat → Int32) (a_names_from_n : Nat) (a_names_from_f : Nat → Int32) (a_names_next_n : Nat) (a_names_next_f : Nat → Int32) (a_names_first_n : Nat) (a_names_first_f : Nat → Int32) (a_word_n : Nat) (a_word_f : Nat → Int32) : Option (Int32 × Int32 × Int32 × Int32 × (Nat → Int32) × (Nat → Int32) × (Nat → Int32) × (Nat → Int32) × (Nat → Int32)) := (p_MoReader_letter c0 a_n a_at a_behind a_token a_open a_number (0 : Int32) a_top a_place a_variabled a_known a_rank a_word_n a_word_f).bind (fun (a_letters_1, a_word_f_1) => (p_MoReader_name n a_n a_at a_behind a_token a_open a_number a_letters_1 a_top a_place a_variabled a_known a_rank a_names_size a_names_texted a_names_text_n a_names_text_f a_names_from_n a_names_from_f a_names_next_n a_names_next_f a_names_first_n a_names_first_f a_word_n a_word_f_1).bind (fun (r2, a_names_size_2, a_names_texted_2, a_names_text_f_2, a_names_from_f_2, a_names_next_f_2, a_names_first_f_2) => some (r2, a_letters_1, a_names_size_2, a_names_texted_2, a_names_text_f_2, a_names_from_f_2, a_names_next_f_2, a_names_first_f_2, a_word_f_1)))
set_option maxHeartbeats 40000000 in
set_option maxRecDepth 100000 in
theorem c_MoReader_one (l : Launch) (g : va_G) (cs : Nat → ClassId) (ka : Nat → Nat) (a_sides : Nat) (a_ranks : Nat) (a_stop : Nat) (a_terms : Nat) (a_s : Nat) (a_stack : Nat) (a_variables : Nat) (a_kept : Nat) (a a_names a_names_text a_names_from a_names_next a_names_first a_word : Nat) (sz : Nat) (n : Nat) (c0 : Int32) (a_n : Int32) (a_at : Int32) (a_behind : Int32) (a_token : Int32) (a_open : Int32) (a_number : Int64) (a_letters : Int32) (a_top : Int32) (a_place : Int32) (a_variabled : Int32) (a_known : Int32) (a_rank : Int32) (a_names_size : Int32) (a_names_texted : Int32) (a_names_text_n : Nat) (a_names_text_f : Nat → Int32) (a_names_from_n : Nat) (a_names_from_f : Nat → Int32) (a_names_next_n : Nat) (a_names_next_f : Nat → Int32) (a_names_first_n : Nat) (a_names_first_f : Nat → Int32) (a_word_n : Nat) (a_word_f : Nat → Int32) (r : Int32) (o_a_letters : Int32) (o_a_names_size : Int32) (o_a_names_texted : Int32) (o_a_names_text_f : Nat → Int32) (o_a_names_from_f : Nat → Int32) (o_a_names_next_f : Nat → Int32) (o_a_names_first_f : Nat → Int32) (o_a_word_f : Nat → Int32) (hok : p_MoReader_one n c0 a_n a_at a_behind a_token a_open a_number a_letters a_top a_place a_variabled a_known a_rank a_names_size a_names_texted a_names_text_n a_names_text_f a_names_from_n a_names_from_f a_names_next_n a_names_next_f a_names_first_n a_names_first_f a_word_n a_word_f = some (r, o_a_letters, o_a_names_size, o_a_names_texted, o_a_names_text_f, o_a_names_from_f, o_a_names_next_f, o_a_names_first_f, o_a_word_f)) : Met l y_MoReader_one (.code y_MoReader_one b_MoReader_one 2 (some .int) :: GW) { frames := 3, cells := 0, slots := 0, locals := 68 } (va_Pc [.ref a, .int c0] (gP g cs ka [(a, .inr (12, [.ref a_sides, .ref a_ranks, .ref a_stop, .ref a_terms, .ref a_names, .ref a_s, .int a_n, .int a_at, .int a_behind, .int a_token, .int a_open, .long a_number, .ref a_word, .int a_letters, .ref a_stack, .int a_top, .int a_place, .ref a_variables, .int a_variabled, .int a_known, .int a_rank, .ref a_kept])), (a_names, .inr (10, [.ref a_names_text, .ref a_names_from, .ref a_names_next, .ref a_names_first, .int a_names_size, .int a_names_texted])), (a_names_text, .inl (cs 1, a_names_text_n, .inl a_names_text_f)), (a_names_from, .inl (cs 0, a_names_from_n, .inl a_names_from_f)), (a_names_next, .inl (cs 0, a_names_next_n, .inl a_names_next_f)), (a_names_first, .inl (cs 0, a_names_first_n, .inl a_names_first_f)), (a_word, .inl (cs 1, a_word_n, .inl a_word_f))] sz)) (va_Qi (fun (r' : Int32) (_ : Unit) => r = r') (fun _ t => va_P g classes [(a, .inr (12, [.ref a_sides, .ref a_ranks, .ref a_stop, .ref a_terms, .ref a_names, .ref a_s, .int a_n, .int a_at, .int a_behind, .int a_token, .int a_open, .long a_number, .ref a_word, .int o_a_letters, .ref a_stack, .int a_top, .int a_place, .ref a_variables, .int a_variabled, .int a_known, .int a_rank, .ref a_kept])), (a_names, .inr (10, [.ref a_names_text, .ref a_names_from, .ref a_names_next, .ref a_names_first, .int o_a_names_size, .int o_a_names_texted])), (a_names_text, .inl (cs 1, a_names_text_n, .inl o_a_names_text_f)), (a_names_from, .inl (cs 0, a_names_from_n, .inl o_a_names_from_f)), (a_names_next, .inl (cs 0, a_names_next_n, .inl o_a_names_next_f)), (a_names_first, .inl (cs 0, a_names_first_n, .inl o_a_names_first_f)), (a_word, .inl (cs 1, a_word_n, .inl o_a_word_f))] t.heap ∧ va_D (va_A [(a, .inr (12, [.ref a_sides, .ref a_ranks, .ref a_stop, .ref a_terms, .ref a_names, .ref a_s, .int a_n, .int a_at, .int a_behind, .int a_token, .int a_open, .long a_number, .ref a_word, .int a_letters, .ref a_stack, .int a_top, .int a_place, .ref a_variables, .int a_variabled, .int a_known, .int a_rank, .ref a_kept])), (a_names, .inr (10, [.ref a_names_text, .ref a_names_from, .ref a_names_next, .ref a_names_first, .int a_names_size, .int a_names_texted])), (a_names_text, .inl (cs 1, a_names_text_n, .inl a_names_text_f)), (a_names_from, .inl (cs 0, a_names_from_n, .inl a_names_from_f)), (a_names_next, .inl (cs 0, a_names_next_n, .inl a_names_next_f)), (a_names_first, .inl (cs 0, a_names_first_n, .inl a_names_first_f)), (a_word, .inl (cs 1, a_word_n, .inl a_word_f))] sz) [(a, .inr (12, [.ref a_sides, .ref a_ranks, .ref a_stop, .ref a_terms, .ref a_names, .ref a_s, .int a_n, .int a_at, .int a_behind, .int a_token, .int a_open, .long a_number, .ref a_word, .int o_a_letters, .ref a_stack, .int a_top, .int a_place, .ref a_variables, .int a_variabled, .int a_known, .int a_rank, .ref a_kept])), (a_names, .inr (10, [.ref a_names_text, .ref a_names_from, .ref a_names_next, .ref a_names_first, .int o_a_names_size, .int o_a_names_texted])), (a_names_text, .inl (cs 1, a_names_text_n, .inl o_a_names_text_f)), (a_names_from, .inl (cs 0, a_names_from_n, .inl o_a_names_from_f)), (a_names_next, .inl (cs 0, a_names_next_n, .inl o_a_names_next_f)), (a_names_first, .inl (cs 0, a_names_first_n, .inl o_a_names_first_f)), (a_word, .inl (cs 1, a_word_n, .inl o_a_word_f))]) (va_A [(a, .inr (12, [.ref a_sides, .ref a_ranks, .ref a_stop, .ref a_terms, .ref a_names, .ref a_s, .int a_n, .int a_at, .int a_behind, .int a_token, .int a_open, .long a_number, .ref a_word, .int a_letters, .ref a_stack, .int a_top, .int a_place, .ref a_variables, .int a_variabled, .int a_known, .int a_rank, .ref a_kept])), (a_names, .inr (10, [.ref a_names_text, .ref a_names_from, .ref a_names_next, .ref a_names_first, .int a_names_size, .int a_names_texted])), (a_names_text, .inl (cs 1, a_names_text_n, .inl a_names_text_f)), (a_names_from, .inl (cs 0, a_names_from_n, .inl a_names_from_f)), (a_names_next, .inl (cs 0, a_names_next_n, .inl a_names_next_f)), (a_names_first, .inl (cs 0, a_names_first_n, .inl a_names_first_f)), (a_word, .inl (cs 1, a_word_n, .inl a_word_f))] sz)) 0 0 (va_A [(a, .inr (12, [.ref a_sides, .ref a_ranks, .ref a_stop, .ref a_terms, .ref a_names, .ref a_s, .int a_n, .int a_at, .int a_behind, .int a_token, .int a_open, .long a_number, .ref a_word, .int a_letters, .ref a_stack, .int a_top, .int a_place, .ref a_variables, .int a_variabled, .int a_known, .int a_rank, .ref a_kept])), (a_names, .inr (10, [.ref a_names_text, .ref a_names_from, .ref a_names_next, .ref a_names_first, .int a_names_size, .int a_names_texted])), (a_names_text, .inl (cs 1, a_names_text_n, .inl a_names_text_f)), (a_names_from, .inl (cs 0, a_names_from_n, .inl a_names_from_f)), (a_names_next, .inl (cs 0, a_names_next_n, .inl a_names_next_f)), (a_names_first, .inl (cs 0, a_names_first_n, .inl a_names_first_f)), (a_word, .inl (cs 1, a_word_n, .inl a_word_f))] sz) := by
  refine Met.ofW (cc := b_MoReader_one) (maxL := 2) (ret := (some .int)) (by decide) rfl ?_
  intro p e s m args below meth c s₁ B hml hv
  obtain ⟨rfl, hsz, hP, hK, hD0, hgl, hkn, hkr⟩ := hv
  have hx := B.exec
  have hb := B.bytes
  have hr := B.returns
  have hg : ∀ w ∈ GW, w.before ([.ref a, .int c0] : List Value).toArray s = true := fun w hw => atoms_spec (ws := .code y_MoReader_one b_MoReader_one 2 (some .int) :: GW) B.pre w (List.mem_cons_of_mem _ hw)
  have hown : s.vm.findClass R_MoReader = some m.cls := findClass_of_methodNamed B.named
  have hlocks := B.notSynchronized
  subst hsz
  have hD := hD0.self (sz := s.heap.size)
  generalize hAe : va_A [(a, .inr (12, [.ref a_sides, .ref a_ranks, .ref a_stop, .ref a_terms, .ref a_names, .ref a_s, .int a_n, .int a_at, .int a_behind, .int a_token, .int a_open, .long a_number, .ref a_word, .int a_letters, .ref a_stack, .int a_top, .int a_place, .ref a_variables, .int a_variabled, .int a_known, .int a_rank, .ref a_kept])), (a_names, .inr (10, [.ref a_names_text, .ref a_names_from, .ref a_names_next, .ref a_names_first, .int a_names_size, .int a_names_texted])), (a_names_text, .inl (cs 1, a_names_text_n, .inl a_names_text_f)), (a_names_from, .inl (cs 0, a_names_from_n, .inl a_names_from_f)), (a_names_next, .inl (cs 0, a_names_next_n, .inl a_names_next_f)), (a_names_first, .inl (cs 0, a_names_first_n, .inl a_names_first_f)), (a_word, .inl (cs 1, a_word_n, .inl a_word_f))] s.heap.size = A at hD hkn ⊢
  have hA : ∀ q : Nat, s.heap.size ≤ q → A q := fun q h => by rw [← hAe]; exact Or.inr h
  have hS : va_S A s.heap s.heap [] := va_S.rf
  have hP : va_P g classes [(a, .inr (12, [.ref a_sides, .ref a_ranks, .ref a_stop, .ref a_terms, .ref a_names, .ref a_s, .int a_n, .int a_at, .int a_behind, .int a_token, .int a_open, .long a_number, .ref a_word, .int a_letters, .ref a_stack, .int a_top, .int a_place, .ref a_variables, .int a_variabled, .int a_known, .int a_rank, .ref a_kept])), (a_names, .inr (10, [.ref a_names_text, .ref a_names_from, .ref a_names_next, .ref a_names_first, .int a_names_size, .int a_names_texted])), (a_names_text, .inl (cs 1, a_names_text_n, .inl a_names_text_f)), (a_names_from, .inl (cs 0, a_names_from_n, .inl a_names_from_f)), (a_names_next, .inl (cs 0, a_names_next_n, .inl a_names_next_f)), (a_names_first, .inl (cs 0, a_names_first_n, .inl a_names_first_f)), (a_word, .inl (cs 1, a_word_n, .inl a_word_f))] s.heap := hP
  have hl := lv_entry ([.ref a, .int c0]) (n := 2) (Nat.le_of_ble_eq_true rfl)
  rw [lg_entry_eq]
  generalize (lg_sl ([.ref a, .int c0]) ++ List.replicate (2 - (lg_sl ([.ref a, .int c0])).length) Slot.unset).toArray = ls at hl ⊢
  have hl : lv_has ls 2 [(0, .ref a), (1, .int c0)] := hl
  refine gq (fun Q hQ => ?_)
  obtain ⟨H, hH⟩ : ∃ H : Heap, H = s.heap := ⟨_, rfl⟩
  rw [← hH] at hP
  have hS : va_S A s.heap H [] := by rw [hH]; exact hS
  refine W.eqH hH ?_
  obtain ⟨locs, hlc⟩ : ∃ L : List Loc, L = [] := ⟨_, rfl⟩
  rw [← hlc] at hS ⊢
  unfold p_MoReader_one at hok
  refine lv_aload_n hx hb d_MoReader_one_0 rfl (lv_at hl 0 rfl) ?_
  refine lv_iconst (v := 0) hx hb d_MoReader_one_1 (by decide) ?_
  refine va_put (D := g) (ci := 12) (v := .int 0) (ty := .int) (C := R_MoReader) (T := F_MoReader) (N := 22) hx hb hg ul_MoReader t_MoReader tk_MoReader n_MoReader hown hK hP hD hS 0 rfl rfl 13 (by decide) (hg _ wd_1178) (fun _ h9 => h9) rfl (by decide +kernel) rfl rfl (Nat.le_of_ble_eq_true rfl) d_MoReader_one_2 (fun H locs hP hD hS => ?_)
  obtain ⟨hP, hD⟩ : PD g A H [(a, .inr (12, [.ref a_sides, .ref a_ranks, .ref a_stop, .ref a_terms, .ref a_names, .ref a_s, .int a_n, .int a_at, .int a_behind, .int a_token, .int a_open, .long a_number, .ref a_word, .int 0, .ref a_stack, .int a_top, .int a_place, .ref a_variables, .int a_variabled, .int a_known, .int a_rank, .ref a_kept])), (a_names, .inr (10, [.ref a_names_text, .ref a_names_from, .ref a_names_next, .ref a_names_first, .int a_names_size, .int a_names_texted])), (a_names_text, .inl (cs 1, a_names_text_n, .inl a_names_text_f)), (a_names_from, .inl (cs 0, a_names_from_n, .inl a_names_from_f)), (a_names_next, .inl (cs 0, a_names_next_n, .inl a_names_next_f)), (a_names_first, .inl (cs 0, a_names_first_n, .inl a_names_first_f)), (a_word, .inl (cs 1, a_word_n, .inl a_word_f))] := ⟨hP, hD⟩
  refine lv_aload_n hx hb d_MoReader_one_5 rfl (lv_at hl 0 rfl) ?_
  refine lv_iload_n hx hb d_MoReader_one_6 rfl (lv_at hl 1 rfl) ?_
  obtain ⟨⟨a_letters_1, a_word_f_1⟩, hc1, hok⟩ := bd_some hok
  dsimp only at hok
  obtain ⟨hPc, hDc, hFc⟩ := cut0 (wc := [(a, .inr (12, [.ref a_sides, .ref a_ranks, .ref a_stop, .ref a_terms, .ref a_names, .ref a_s, .int a_n, .int a_at, .int a_behind, .int a_token, .int a_open, .long a_number, .ref a_word, .int 0, .ref a_stack, .int a_top, .int a_place, .ref a_variables, .int a_variabled, .int a_known, .int a_rank, .ref a_kept])), (a_word, .inl (cs 1, a_word_n, .inl a_word_f))]) hP hD hS hA [0, 6] (by decide) rfl
  refine va_callv (va_runV (As := [.int c0]) (rest := []) ⟨hx, hb, hml, hown, hg⟩ (c_MoReader_letter l g cs ka a_sides a_ranks a_stop a_terms a_names a_s a_stack a_variables a_kept a a_word H.size c0 a_n a_at a_behind a_token a_open a_number (0 : Int32) a_top a_place a_variabled a_known a_rank a_word_n a_word_f a_letters_1 a_word_f_1 hc1) (cwV (C := R_MoReader) 1 hg (gw_V wd_1198 wd_1199 wd_1200 wd_754 wd_1197) rfl rfl rfl (by decide +kernel) ⟨Nat.le_of_ble_eq_true rfl, Nat.le_of_ble_eq_true rfl⟩) ⟨gP_blind, va_recv (q0 := 0) (ci := 12) (q := (R_MoReader, F_MoReader, 22)) hK hP rfl rfl, gP_pre hPc hDc hK hgl hkn hkr hS hFc⟩ rfl rfl hl.1 rfl (lv_room (Nat.le_of_ble_eq_true rfl)) d_MoReader_one_7 ⟨Nat.le_of_ble_eq_true rfl, Nat.le_of_ble_eq_true rfl⟩) hS (fun q _ h => hFc q h) hFc (fun u t H locs ht hvm hr1 hB hz1 hk1 hS => ?_)
  rw [ht] at hB
  obtain ⟨hP1, hD1⟩ := hB
  obtain ⟨hP, hD⟩ := jn_A hP hD [0, 6] [1, 2, 3, 4, 5] rfl rfl (by decide) (by decide) hk1 hFc hP1 hD1
  obtain ⟨hP, hD⟩ : PD g A H [(a_names, .inr (10, [.ref a_names_text, .ref a_names_from, .ref a_names_next, .ref a_names_first, .int a_names_size, .int a_names_texted])), (a_names_text, .inl (cs 1, a_names_text_n, .inl a_names_text_f)), (a_names_from, .inl (cs 0, a_names_from_n, .inl a_names_from_f)), (a_names_next, .inl (cs 0, a_names_next_n, .inl a_names_next_f)), (a_names_first, .inl (cs 0, a_names_first_n, .inl a_names_first_f)), (a, .inr (12, [.ref a_sides, .ref a_ranks, .ref a_stop, .ref a_terms, .ref a_names, .ref a_s, .int a_n, .int a_at, .int a_behind, .int a_token, .int a_open, .long a_number, .ref a_word, .int a_letters_1, .ref a_stack, .int a_top, .int a_place, .ref a_variables, .int a_variabled, .int a_known, .int a_rank, .ref a_kept])), (a_word, .inl (cs 1, a_word_n, .inl a_word_f_1))] := ⟨hP, hD⟩
  refine lv_aload_n hx hb d_MoReader_one_10 rfl (lv_at hl 0 rfl) ?_
  obtain ⟨⟨r2, a_names_size_2, a_names_texted_2, a_names_text_f_2, a_names_from_f_2, a_names_next_f_2, a_names_first_f_2⟩, hc2, hok⟩ := bd_some hok
  dsimp only at hok
  obtain ⟨hPc, hDc, hFc⟩ := cut0 (wc := [(a, .inr (12, [.ref a_sides, .ref a_ranks, .ref a_stop, .ref a_terms, .ref a_names, .ref a_s, .int a_n, .int a_at, .int a_behind, .int a_token, .int a_open, .long a_number, .ref a_word, .int a_letters_1, .ref a_stack, .int a_top, .int a_place, .ref a_variables, .int a_variabled, .int a_known, .int a_rank, .ref a_kept])), (a_names, .inr (10, [.ref a_names_text, .ref a_names_from, .ref a_names_next, .ref a_names_first, .int a_names_size, .int a_names_texted])), (a_names_text, .inl (cs 1, a_names_text_n, .inl a_names_text_f)), (a_names_from, .inl (cs 0, a_names_from_n, .inl a_names_from_f)), (a_names_next, .inl (cs 0, a_names_next_n, .inl a_names_next_f)), (a_names_first, .inl (cs 0, a_names_first_n, .inl a_names_first_f)), (a_word, .inl (cs 1, a_word_n, .inl a_word_f_1))]) hP hD hS hA [5, 0, 1, 2, 3, 4, 6] (by decide) rfl
  refine va_calli (va_runV (As := []) (rest := []) ⟨hx, hb, hml, hown, hg⟩ (c_MoReader_name l g cs ka a_sides a_ranks a_stop a_terms a_s a_stack a_variables a_kept a a_names a_names_text a_names_from a_names_next a_names_first a_word H.size n a_n a_at a_behind a_token a_open a_number a_letters_1 a_top a_place a_variabled a_known a_rank a_names_size a_names_texted a_names_text_n a_names_text_f a_names_from_n a_names_from_f a_names_next_n a_names_next_f a_names_first_n a_names_first_f a_word_n a_word_f_1 r2 a_names_size_2 a_names_texted_2 a_names_text_f_2 a_names_from_f_2 a_names_next_f_2 a_names_first_f_2 hc2) (cwV (C := R_MoReader) 0 hg (gw_V wd_1245 wd_1246 wd_1247 wd_754 wd_1244) rfl rfl rfl (by decide +kernel) ⟨Nat.le_of_ble_eq_true rfl, Nat.le_of_ble_eq_true rfl⟩) ⟨gP_blind, va_recv (q0 := 5) (ci := 12) (q := (R_MoReader, F_MoReader, 22)) hK hP rfl rfl, gP_pre hPc hDc hK hgl hkn hkr hS hFc⟩ rfl rfl hl.1 rfl (lv_room (Nat.le_of_ble_eq_true rfl)) d_MoReader_one_11 ⟨Nat.le_of_ble_eq_true rfl, Nat.le_of_ble_eq_true rfl⟩) hS (fun q _ h => hFc q h) hFc (fun r2' u t H locs ht hvm hr2 hB hz1 hk1 hS => ?_)
  subst hr2
  rw [ht] at hB
  obtain ⟨hP1, hD1⟩ := hB
  obtain ⟨hP, hD⟩ := jn_A hP hD [5, 0, 1, 2, 3, 4, 6] [] rfl rfl (by decide) (by decide) hk1 hFc hP1 hD1
  obtain ⟨hP, hD⟩ : PD g A H [(a, .inr (12, [.ref a_sides, .ref a_ranks, .ref a_stop, .ref a_terms, .ref a_names, .ref a_s, .int a_n, .int a_at, .int a_behind, .int a_token, .int a_open, .long a_number, .ref a_word, .int a_letters_1, .ref a_stack, .int a_top, .int a_place, .ref a_variables, .int a_variabled, .int a_known, .int a_rank, .ref a_kept])), (a_names, .inr (10, [.ref a_names_text, .ref a_names_from, .ref a_names_next, .ref a_names_first, .int a_names_size_2, .int a_names_texted_2])), (a_names_text, .inl (cs 1, a_names_text_n, .inl a_names_text_f_2)), (a_names_from, .inl (cs 0, a_names_from_n, .inl a_names_from_f_2)), (a_names_next, .inl (cs 0, a_names_next_n, .inl a_names_next_f_2)), (a_names_first, .inl (cs 0, a_names_first_n, .inl a_names_first_f_2)), (a_word, .inl (cs 1, a_word_n, .inl a_word_f_1))] := ⟨hP, hD⟩
  have hq := Option.some.inj hok
  obtain ⟨hq0, hq⟩ := Prod.mk.inj hq
  obtain ⟨hq1, hq⟩ := Prod.mk.inj hq
  obtain ⟨hq2, hq⟩ := Prod.mk.inj hq
  obtain ⟨hq3, hq⟩ := Prod.mk.inj hq
  obtain ⟨hq4, hq⟩ := Prod.mk.inj hq
  obtain ⟨hq5, hq⟩ := Prod.mk.inj hq
  obtain ⟨hq6, hq⟩ := Prod.mk.inj hq
  obtain ⟨hq7, hq⟩ := Prod.mk.inj hq
  have hq8 := hq
  subst hq0
  subst hq1
  subst hq2
  subst hq3
  subst hq4
  subst hq5
  subst hq6
  subst hq7
  subst hq8
  obtain ⟨hP9, hD9⟩ := sub2 (ws' := [(a, .inr (12, [.ref a_sides, .ref a_ranks, .ref a_stop, .ref a_terms, .ref a_names, .ref a_s, .int a_n, .int a_at, .int a_behind, .int a_token, .int a_open, .long a_number, .ref a_word, .int a_letters_1, .ref a_stack, .int a_top, .int a_place, .ref a_variables, .int a_variabled, .int a_known, .int a_rank, .ref a_kept])), (a_names, .inr (10, [.ref a_names_text, .ref a_names_from, .ref a_names_next, .ref a_names_first, .int a_names_size_2, .int a_names_texted_2])), (a_names_text, .inl (cs 1, a_names_text_n, .inl a_names_text_f_2)), (a_names_from, .inl (cs 0, a_names_from_n, .inl a_names_from_f_2)), (a_names_next, .inl (cs 0, a_names_next_n, .inl a_names_next_f_2)), (a_names_first, .inl (cs 0, a_names_first_n, .inl a_names_first_f_2)), (a_word, .inl (cs 1, a_word_n, .inl a_word_f_1))]) hP hD [0, 1, 2, 3, 4, 5, 6] rfl (by decide) rfl
  rw [hQ]
  exact W.iret (v := r2) hx hb hr (fun t ht hW => ⟨⟨_, (), rfl, rfl, by rw [ht]; exact hP9, hD9⟩, hS.F ht⟩) hS.2.2 d_MoReader_one_14

theorem d_MoReader_comma_0 : decode b_MoReader_comma 0 = .ok (.aload_n 0, 1) := by decide +kernel
theorem d_MoReader_comma_1 : decode b_MoReader_comma 1 = .ok (.bipush 44, 2) := by decide +kernel
theorem d_MoReader_comma_3 : decode b_MoReader_comma 3 = .ok (.invokevirtual 225, 3) := by decide +kernel
theorem d_MoReader_comma_6 : decode b_MoReader_comma 6 = .ok (.ireturn, 1) := by decide +kernel
def p_MoReader_comma (n : Nat) (a_n : Int32) (a_at : Int32) (a_behind : Int32) (a_token : Int32) (a_open : Int32) (a_number : Int64) (a_letters : Int32) (a_top : Int32) (a_place : Int32) (a_variabled : Int32) (a_known : Int32) (a_rank : Int32) (a_names_size : Int32) (a_names_texted : Int32) (a_names_text_n : Nat) (a_names_text_f : Nat → Int32) (a_names_from_n : Nat) (a_names_from_f : Nat → Int32) (a_names_next_n : Nat) (a_names_next_f : Nat → Int32) (a_names_first_n : Nat) (a_names_first_f : Nat → Int32) (a_word_n : Nat) (a_word_f : Nat → Int32) : Option (Int32 × Int32 × Int32 × Int32 × (Nat → Int32) × (Nat → Int32) × (Nat → Int32) × (Nat → Int32) × (Nat → Int32)) := (p_MoReader_one n (44 : Int32) a_n a_at a_behind a_token a_open a_number a_letters a_top a_place a_variabled a_known a_rank a_names_size a_names_texted a_names_text_n a_names_text_f a_names_from_n a_names_from_f a_names_next_n a_names_next_f a_names_first_n a_names_first_f a_word_n a_word_f).bind (fun (r1, a_letters_1, a_names_size_1, a_names_texted_1, a_names_text_f_1, a_names_from_f_1, a_names_next_f_1, a_names_first_f_1, a_word_f_1) => some (r1, a_letters_1, a_names_size_1, a_names_texted_1, a_names_text_f_1, a_names_from_f_1, a_names_next_f_1, a_names_first_f_1, a_word_f_1))
set_option maxHeartbeats 40000000 in
set_option maxRecDepth 100000 in
theorem c_MoReader_comma (l : Launch) (g : va_G) (cs : Nat → ClassId) (ka : Nat → Nat) (a_sides : Nat) (a_ranks : Nat) (a_stop : Nat) (a_terms : Nat) (a_s : Nat) (a_stack : Nat) (a_variables : Nat) (a_kept : Nat) (a a_names a_names_text a_names_from a_names_next a_names_first a_word : Nat) (sz : Nat) (n : Nat) (a_n : Int32) (a_at : Int32) (a_behind : Int32) (a_token : Int32) (a_open : Int32) (a_number : Int64) (a_letters : Int32) (a_top : Int32) (a_place : Int32) (a_variabled : Int32) (a_known : Int32) (a_rank : Int32) (a_names_size : Int32) (a_names_texted : Int32) (a_names_text_n : Nat) (a_names_text_f : Nat → Int32) (a_names_from_n : Nat) (a_names_from_f : Nat → Int32) (a_names_next_n : Nat) (a_names_next_f : Nat → Int32) (a_names_first_n : Nat) (a_names_first_f : Nat → Int32) (a_word_n : Nat) (a_word_f : Nat → Int32) (r : Int32) (o_a_letters : Int32) (o_a_names_size : Int32) (o_a_names_texted : Int32) (o_a_names_text_f : Nat → Int32) (o_a_names_from_f : Nat → Int32) (o_a_names_next_f : Nat → Int32) (o_a_names_first_f : Nat → Int32) (o_a_word_f : Nat → Int32) (hok : p_MoReader_comma n a_n a_at a_behind a_token a_open a_number a_letters a_top a_place a_variabled a_known a_rank a_names_size a_names_texted a_names_text_n a_names_text_f a_names_from_n a_names_from_f a_names_next_n a_names_next_f a_names_first_n a_names_first_f a_word_n a_word_f = some (r, o_a_letters, o_a_names_size, o_a_names_texted, o_a_names_text_f, o_a_names_from_f, o_a_names_next_f, o_a_names_first_f, o_a_word_f)) : Met l y_MoReader_comma (.code y_MoReader_comma b_MoReader_comma 1 (some .int) :: GW) { frames := 4, cells := 0, slots := 0, locals := 89 } (va_Pc [.ref a] (gP g cs ka [(a, .inr (12, [.ref a_sides, .ref a_ranks, .ref a_stop, .ref a_terms, .ref a_names, .ref a_s, .int a_n, .int a_at, .int a_behind, .int a_token, .int a_open, .long a_number, .ref a_word, .int a_letters, .ref a_stack, .int a_top, .int a_place, .ref a_variables, .int a_variabled, .int a_known, .int a_rank, .ref a_kept])), (a_names, .inr (10, [.ref a_names_text, .ref a_names_from, .ref a_names_next, .ref a_names_first, .int a_names_size, .int a_names_texted])), (a_names_text, .inl (cs 1, a_names_text_n, .inl a_names_text_f)), (a_names_from, .inl (cs 0, a_names_from_n, .inl a_names_from_f)), (a_names_next, .inl (cs 0, a_names_next_n, .inl a_names_next_f)), (a_names_first, .inl (cs 0, a_names_first_n, .inl a_names_first_f)), (a_word, .inl (cs 1, a_word_n, .inl a_word_f))] sz)) (va_Qi (fun (r' : Int32) (_ : Unit) => r = r') (fun _ t => va_P g classes [(a, .inr (12, [.ref a_sides, .ref a_ranks, .ref a_stop, .ref a_terms, .ref a_names, .ref a_s, .int a_n, .int a_at, .int a_behind, .int a_token, .int a_open, .long a_number, .ref a_word, .int o_a_letters, .ref a_stack, .int a_top, .int a_place, .ref a_variables, .int a_variabled, .int a_known, .int a_rank, .ref a_kept])), (a_names, .inr (10, [.ref a_names_text, .ref a_names_from, .ref a_names_next, .ref a_names_first, .int o_a_names_size, .int o_a_names_texted])), (a_names_text, .inl (cs 1, a_names_text_n, .inl o_a_names_text_f)), (a_names_from, .inl (cs 0, a_names_from_n, .inl o_a_names_from_f)), (a_names_next, .inl (cs 0, a_names_next_n, .inl o_a_names_next_f)), (a_names_first, .inl (cs 0, a_names_first_n, .inl o_a_names_first_f)), (a_word, .inl (cs 1, a_word_n, .inl o_a_word_f))] t.heap ∧ va_D (va_A [(a, .inr (12, [.ref a_sides, .ref a_ranks, .ref a_stop, .ref a_terms, .ref a_names, .ref a_s, .int a_n, .int a_at, .int a_behind, .int a_token, .int a_open, .long a_number, .ref a_word, .int a_letters, .ref a_stack, .int a_top, .int a_place, .ref a_variables, .int a_variabled, .int a_known, .int a_rank, .ref a_kept])), (a_names, .inr (10, [.ref a_names_text, .ref a_names_from, .ref a_names_next, .ref a_names_first, .int a_names_size, .int a_names_texted])), (a_names_text, .inl (cs 1, a_names_text_n, .inl a_names_text_f)), (a_names_from, .inl (cs 0, a_names_from_n, .inl a_names_from_f)), (a_names_next, .inl (cs 0, a_names_next_n, .inl a_names_next_f)), (a_names_first, .inl (cs 0, a_names_first_n, .inl a_names_first_f)), (a_word, .inl (cs 1, a_word_n, .inl a_word_f))] sz) [(a, .inr (12, [.ref a_sides, .ref a_ranks, .ref a_stop, .ref a_terms, .ref a_names, .ref a_s, .int a_n, .int a_at, .int a_behind, .int a_token, .int a_open, .long a_number, .ref a_word, .int o_a_letters, .ref a_stack, .int a_top, .int a_place, .ref a_variables, .int a_variabled, .int a_known, .int a_rank, .ref a_kept])), (a_names, .inr (10, [.ref a_names_text, .ref a_names_from, .ref a_names_next, .ref a_names_first, .int o_a_names_size, .int o_a_names_texted])), (a_names_text, .inl (cs 1, a_names_text_n, .inl o_a_names_text_f)), (a_names_from, .inl (cs 0, a_names_from_n, .inl o_a_names_from_f)), (a_names_next, .inl (cs 0, a_names_next_n, .inl o_a_names_next_f)), (a_names_first, .inl (cs 0, a_names_first_n, .inl o_a_names_first_f)), (a_word, .inl (cs 1, a_word_n, .inl o_a_word_f))]) (va_A [(a, .inr (12, [.ref a_sides, .ref a_ranks, .ref a_stop, .ref a_terms, .ref a_names, .ref a_s, .int a_n, .int a_at, .int a_behind, .int a_token, .int a_open, .long a_number, .ref a_word, .int a_letters, .ref a_stack, .int a_top, .int a_place, .ref a_variables, .int a_variabled, .int a_known, .int a_rank, .ref a_kept])), (a_names, .inr (10, [.ref a_names_text, .ref a_names_from, .ref a_names_next, .ref a_names_first, .int a_names_size, .int a_names_texted])), (a_names_text, .inl (cs 1, a_names_text_n, .inl a_names_text_f)), (a_names_from, .inl (cs 0, a_names_from_n, .inl a_names_from_f)), (a_names_next, .inl (cs 0, a_names_next_n, .inl a_names_next_f)), (a_names_first, .inl (cs 0, a_names_first_n, .inl a_names_first_f)), (a_word, .inl (cs 1, a_word_n, .inl a_word_f))] sz)) 0 0 (va_A [(a, .inr (12, [.ref a_sides, .ref a_ranks, .ref a_stop, .ref a_terms, .ref a_names, .ref a_s, .int a_n, .int a_at, .int a_behind, .int a_token, .int a_open, .long a_number, .ref a_word, .int a_letters, .ref a_stack, .int a_top, .int a_place, .ref a_variables, .int a_variabled, .int a_known, .int a_rank, .ref a_kept])), (a_names, .inr (10, [.ref a_names_text, .ref a_names_from, .ref a_names_next, .ref a_names_first, .int a_names_size, .int a_names_texted])), (a_names_text, .inl (cs 1, a_names_text_n, .inl a_names_text_f)), (a_names_from, .inl (cs 0, a_names_from_n, .inl a_names_from_f)), (a_names_next, .inl (cs 0, a_names_next_n, .inl a_names_next_f)), (a_names_first, .inl (cs 0, a_names_first_n, .inl a_names_first_f)), (a_word, .inl (cs 1, a_word_n, .inl a_word_f))] sz) := by
  refine Met.ofW (cc := b_MoReader_comma) (maxL := 1) (ret := (some .int)) (by decide) rfl ?_
  intro p e s m args below meth c s₁ B hml hv
  obtain ⟨rfl, hsz, hP, hK, hD0, hgl, hkn, hkr⟩ := hv
  have hx := B.exec
  have hb := B.bytes
  have hr := B.returns
  have hg : ∀ w ∈ GW, w.before ([.ref a] : List Value).toArray s = true := fun w hw => atoms_spec (ws := .code y_MoReader_comma b_MoReader_comma 1 (some .int) :: GW) B.pre w (List.mem_cons_of_mem _ hw)
  have hown : s.vm.findClass R_MoReader = some m.cls := findClass_of_methodNamed B.named
  have hlocks := B.notSynchronized
  subst hsz
  have hD := hD0.self (sz := s.heap.size)
  generalize hAe : va_A [(a, .inr (12, [.ref a_sides, .ref a_ranks, .ref a_stop, .ref a_terms, .ref a_names, .ref a_s, .int a_n, .int a_at, .int a_behind, .int a_token, .int a_open, .long a_number, .ref a_word, .int a_letters, .ref a_stack, .int a_top, .int a_place, .ref a_variables, .int a_variabled, .int a_known, .int a_rank, .ref a_kept])), (a_names, .inr (10, [.ref a_names_text, .ref a_names_from, .ref a_names_next, .ref a_names_first, .int a_names_size, .int a_names_texted])), (a_names_text, .inl (cs 1, a_names_text_n, .inl a_names_text_f)), (a_names_from, .inl (cs 0, a_names_from_n, .inl a_names_from_f)), (a_names_next, .inl (cs 0, a_names_next_n, .inl a_names_next_f)), (a_names_first, .inl (cs 0, a_names_first_n, .inl a_names_first_f)), (a_word, .inl (cs 1, a_word_n, .inl a_word_f))] s.heap.size = A at hD hkn ⊢
  have hA : ∀ q : Nat, s.heap.size ≤ q → A q := fun q h => by rw [← hAe]; exact Or.inr h
  have hS : va_S A s.heap s.heap [] := va_S.rf
  have hP : va_P g classes [(a, .inr (12, [.ref a_sides, .ref a_ranks, .ref a_stop, .ref a_terms, .ref a_names, .ref a_s, .int a_n, .int a_at, .int a_behind, .int a_token, .int a_open, .long a_number, .ref a_word, .int a_letters, .ref a_stack, .int a_top, .int a_place, .ref a_variables, .int a_variabled, .int a_known, .int a_rank, .ref a_kept])), (a_names, .inr (10, [.ref a_names_text, .ref a_names_from, .ref a_names_next, .ref a_names_first, .int a_names_size, .int a_names_texted])), (a_names_text, .inl (cs 1, a_names_text_n, .inl a_names_text_f)), (a_names_from, .inl (cs 0, a_names_from_n, .inl a_names_from_f)), (a_names_next, .inl (cs 0, a_names_next_n, .inl a_names_next_f)), (a_names_first, .inl (cs 0, a_names_first_n, .inl a_names_first_f)), (a_word, .inl (cs 1, a_word_n, .inl a_word_f))] s.heap := hP
  have hl := lv_entry ([.ref a]) (n := 1) (Nat.le_of_ble_eq_true rfl)
  rw [lg_entry_eq]
  generalize (lg_sl ([.ref a]) ++ List.replicate (1 - (lg_sl ([.ref a])).length) Slot.unset).toArray = ls at hl ⊢
  have hl : lv_has ls 1 [(0, .ref a)] := hl
  refine gq (fun Q hQ => ?_)
  obtain ⟨H, hH⟩ : ∃ H : Heap, H = s.heap := ⟨_, rfl⟩
  rw [← hH] at hP
  have hS : va_S A s.heap H [] := by rw [hH]; exact hS
  refine W.eqH hH ?_
  obtain ⟨locs, hlc⟩ : ∃ L : List Loc, L = [] := ⟨_, rfl⟩
  rw [← hlc] at hS ⊢
  unfold p_MoReader_comma at hok
  refine lv_aload_n hx hb d_MoReader_comma_0 rfl (lv_at hl 0 rfl) ?_
  refine lv_bipush (v := 44) hx hb d_MoReader_comma_1 (by decide) ?_
  obtain ⟨⟨r1, a_letters_1, a_names_size_1, a_names_texted_1, a_names_text_f_1, a_names_from_f_1, a_names_next_f_1, a_names_first_f_1, a_word_f_1⟩, hc1, hok⟩ := bd_some hok
  dsimp only at hok
  obtain ⟨hPc, hDc, hFc⟩ := cut0 (wc := [(a, .inr (12, [.ref a_sides, .ref a_ranks, .ref a_stop, .ref a_terms, .ref a_names, .ref a_s, .int a_n, .int a_at, .int a_behind, .int a_token, .int a_open, .long a_number, .ref a_word, .int a_letters, .ref a_stack, .int a_top, .int a_place, .ref a_variables, .int a_variabled, .int a_known, .int a_rank, .ref a_kept])), (a_names, .inr (10, [.ref a_names_text, .ref a_names_from, .ref a_names_next, .ref a_names_first, .int a_names_size, .int a_names_texted])), (a_names_text, .inl (cs 1, a_names_text_n, .inl a_names_text_f)), (a_names_from, .inl (cs 0, a_names_from_n, .inl a_names_from_f)), (a_names_next, .inl (cs 0, a_names_next_n, .inl a_names_next_f)), (a_names_first, .inl (cs 0, a_names_first_n, .inl a_names_first_f)), (a_word, .inl (cs 1, a_word_n, .inl a_word_f))]) hP hD hS hA [0, 1, 2, 3, 4, 5, 6] (by decide) rfl
  refine va_calli (va_runV (As := [.int 44]) (rest := []) ⟨hx, hb, hml, hown, hg⟩ (c_MoReader_one l g cs ka a_sides a_ranks a_stop a_terms a_s a_stack a_variables a_kept a a_names a_names_text a_names_from a_names_next a_names_first a_word H.size n (44 : Int32) a_n a_at a_behind a_token a_open a_number a_letters a_top a_place a_variabled a_known a_rank a_names_size a_names_texted a_names_text_n a_names_text_f a_names_from_n a_names_from_f a_names_next_n a_names_next_f a_names_first_n a_names_first_f a_word_n a_word_f r1 a_letters_1 a_names_size_1 a_names_texted_1 a_names_text_f_1 a_names_from_f_1 a_names_next_f_1 a_names_first_f_1 a_word_f_1 hc1) (cwV (C := R_MoReader) 1 hg (gw_V wd_1249 wd_1250 wd_1251 wd_754 wd_1248) rfl rfl rfl (by decide +kernel) ⟨Nat.le_of_ble_eq_true rfl, Nat.le_of_ble_eq_true rfl⟩) ⟨gP_blind, va_recv (q0 := 0) (ci := 12) (q := (R_MoReader, F_MoReader, 22)) hK hP rfl rfl, gP_pre hPc hDc hK hgl hkn hkr hS hFc⟩ rfl rfl hl.1 rfl (lv_room (Nat.le_of_ble_eq_true rfl)) d_MoReader_comma_3 ⟨Nat.le_of_ble_eq_true rfl, Nat.le_of_ble_eq_true rfl⟩) hS (fun q _ h => hFc q h) hFc (fun r1' u t H locs ht hvm hr1 hB hz1 hk1 hS => ?_)
  subst hr1
  rw [ht] at hB
  obtain ⟨hP1, hD1⟩ := hB
  obtain ⟨hP, hD⟩ := jn_A hP hD [0, 1, 2, 3, 4, 5, 6] [] rfl rfl (by decide) (by decide) hk1 hFc hP1 hD1
  obtain ⟨hP, hD⟩ : PD g A H [(a, .inr (12, [.ref a_sides, .ref a_ranks, .ref a_stop, .ref a_terms, .ref a_names, .ref a_s, .int a_n, .int a_at, .int a_behind, .int a_token, .int a_open, .long a_number, .ref a_word, .int a_letters_1, .ref a_stack, .int a_top, .int a_place, .ref a_variables, .int a_variabled, .int a_known, .int a_rank, .ref a_kept])), (a_names, .inr (10, [.ref a_names_text, .ref a_names_from, .ref a_names_next, .ref a_names_first, .int a_names_size_1, .int a_names_texted_1])), (a_names_text, .inl (cs 1, a_names_text_n, .inl a_names_text_f_1)), (a_names_from, .inl (cs 0, a_names_from_n, .inl a_names_from_f_1)), (a_names_next, .inl (cs 0, a_names_next_n, .inl a_names_next_f_1)), (a_names_first, .inl (cs 0, a_names_first_n, .inl a_names_first_f_1)), (a_word, .inl (cs 1, a_word_n, .inl a_word_f_1))] := ⟨hP, hD⟩
  have hq := Option.some.inj hok
  obtain ⟨hq0, hq⟩ := Prod.mk.inj hq
  obtain ⟨hq1, hq⟩ := Prod.mk.inj hq
  obtain ⟨hq2, hq⟩ := Prod.mk.inj hq
  obtain ⟨hq3, hq⟩ := Prod.mk.inj hq
  obtain ⟨hq4, hq⟩ := Prod.mk.inj hq
  obtain ⟨hq5, hq⟩ := Prod.mk.inj hq
  obtain ⟨hq6, hq⟩ := Prod.mk.inj hq
  obtain ⟨hq7, hq⟩ := Prod.mk.inj hq
  have hq8 := hq
  subst hq0
  subst hq1
  subst hq2
  subst hq3
  subst hq4
  subst hq5
  subst hq6
  subst hq7
  subst hq8
  obtain ⟨hP9, hD9⟩ := sub2 (ws' := [(a, .inr (12, [.ref a_sides, .ref a_ranks, .ref a_stop, .ref a_terms, .ref a_names, .ref a_s, .int a_n, .int a_at, .int a_behind, .int a_token, .int a_open, .long a_number, .ref a_word, .int a_letters_1, .ref a_stack, .int a_top, .int a_place, .ref a_variables, .int a_variabled, .int a_known, .int a_rank, .ref a_kept])), (a_names, .inr (10, [.ref a_names_text, .ref a_names_from, .ref a_names_next, .ref a_names_first, .int a_names_size_1, .int a_names_texted_1])), (a_names_text, .inl (cs 1, a_names_text_n, .inl a_names_text_f_1)), (a_names_from, .inl (cs 0, a_names_from_n, .inl a_names_from_f_1)), (a_names_next, .inl (cs 0, a_names_next_n, .inl a_names_next_f_1)), (a_names_first, .inl (cs 0, a_names_first_n, .inl a_names_first_f_1)), (a_word, .inl (cs 1, a_word_n, .inl a_word_f_1))]) hP hD [0, 1, 2, 3, 4, 5, 6] rfl (by decide) rfl
  rw [hQ]
  exact W.iret (v := r1) hx hb hr (fun t ht hW => ⟨⟨_, (), rfl, rfl, by rw [ht]; exact hP9, hD9⟩, hS.F ht⟩) hS.2.2 d_MoReader_comma_6

theorem d_MoReader_variable_0 : decode b_MoReader_variable 0 = .ok (.iconst (-1), 1) := by decide +kernel
theorem d_MoReader_variable_1 : decode b_MoReader_variable 1 = .ok (.istore_n 1, 1) := by decide +kernel
theorem d_MoReader_variable_2 : decode b_MoReader_variable 2 = .ok (.aload_n 0, 1) := by decide +kernel
theorem d_MoReader_variable_3 : decode b_MoReader_variable 3 = .ok (.getfield 139, 3) := by decide +kernel
theorem d_MoReader_variable_6 : decode b_MoReader_variable 6 = .ok (.iconst 1, 1) := by decide +kernel
theorem d_MoReader_variable_7 : decode b_MoReader_variable 7 = .ok (.if_icmp .gt 14, 3) := by decide +kernel
theorem d_MoReader_variable_10 : decode b_MoReader_variable 10 = .ok (.aload_n 0, 1) := by decide +kernel
theorem d_MoReader_variable_11 : decode b_MoReader_variable 11 = .ok (.getfield 68, 3) := by decide +kernel
theorem d_MoReader_variable_14 : decode b_MoReader_variable 14 = .ok (.iconst 0, 1) := by decide +kernel
theorem d_MoReader_variable_15 : decode b_MoReader_variable 15 = .ok (.baload, 1) := by decide +kernel
theorem d_MoReader_variable_16 : decode b_MoReader_variable 16 = .ok (.bipush 95, 2) := by decide +kernel
theorem d_MoReader_variable_18 : decode b_MoReader_variable 18 = .ok (.if_icmp .eq 38, 3) := by decide +kernel
theorem d_MoReader_variable_21 : decode b_MoReader_variable 21 = .ok (.aload_n 0, 1) := by decide +kernel
theorem d_MoReader_variable_22 : decode b_MoReader_variable 22 = .ok (.invokevirtual 212, 3) := by decide +kernel
theorem d_MoReader_variable_25 : decode b_MoReader_variable 25 = .ok (.istore_n 2, 1) := by decide +kernel
theorem d_MoReader_variable_26 : decode b_MoReader_variable 26 = .ok (.iconst 0, 1) := by decide +kernel
theorem d_MoReader_variable_27 : decode b_MoReader_variable 27 = .ok (.istore_n 3, 1) := by decide +kernel
theorem d_MoReader_variable_28 : decode b_MoReader_variable 28 = .ok (.iload_n 3, 1) := by decide +kernel
theorem d_MoReader_variable_29 : decode b_MoReader_variable 29 = .ok (.aload_n 0, 1) := by decide +kernel
theorem d_MoReader_variable_30 : decode b_MoReader_variable 30 = .ok (.getfield 243, 3) := by decide +kernel
theorem d_MoReader_variable_33 : decode b_MoReader_variable 33 = .ok (.if_icmp .ge 21, 3) := by decide +kernel
theorem d_MoReader_variable_36 : decode b_MoReader_variable 36 = .ok (.aload_n 0, 1) := by decide +kernel
theorem d_MoReader_variable_37 : decode b_MoReader_variable 37 = .ok (.getfield 75, 3) := by decide +kernel
theorem d_MoReader_variable_40 : decode b_MoReader_variable 40 = .ok (.iload_n 3, 1) := by decide +kernel
theorem d_MoReader_variable_41 : decode b_MoReader_variable 41 = .ok (.iaload, 1) := by decide +kernel
theorem d_MoReader_variable_42 : decode b_MoReader_variable 42 = .ok (.iload_n 2, 1) := by decide +kernel
theorem d_MoReader_variable_43 : decode b_MoReader_variable 43 = .ok (.if_icmp .ne 5, 3) := by decide +kernel
theorem d_MoReader_variable_46 : decode b_MoReader_variable 46 = .ok (.iload_n 3, 1) := by decide +kernel
theorem d_MoReader_variable_47 : decode b_MoReader_variable 47 = .ok (.ireturn, 1) := by decide +kernel
theorem d_MoReader_variable_48 : decode b_MoReader_variable 48 = .ok (.iinc 3 1, 3) := by decide +kernel
theorem d_MoReader_variable_51 : decode b_MoReader_variable 51 = .ok (.goto (-23), 3) := by decide +kernel
theorem d_MoReader_variable_54 : decode b_MoReader_variable 54 = .ok (.iload_n 2, 1) := by decide +kernel
theorem d_MoReader_variable_55 : decode b_MoReader_variable 55 = .ok (.istore_n 1, 1) := by decide +kernel
theorem d_MoReader_variable_56 : decode b_MoReader_variable 56 = .ok (.aload_n 0, 1) := by decide +kernel
theorem d_MoReader_variable_57 : decode b_MoReader_variable 57 = .ok (.getfield 75, 3) := by decide +kernel
theorem d_MoReader_variable_60 : decode b_MoReader_variable 60 = .ok (.aload_n 0, 1) := by decide +kernel
theorem d_MoReader_variable_61 : decode b_MoReader_variable 61 = .ok (.getfield 243, 3) := by decide +kernel
theorem d_MoReader_variable_64 : decode b_MoReader_variable 64 = .ok (.iload_n 1, 1) := by decide +kernel
theorem d_MoReader_variable_65 : decode b_MoReader_variable 65 = .ok (.iastore, 1) := by decide +kernel
theorem d_MoReader_variable_66 : decode b_MoReader_variable 66 = .ok (.aload_n 0, 1) := by decide +kernel
theorem d_MoReader_variable_67 : decode b_MoReader_variable 67 = .ok (.dup, 1) := by decide +kernel
theorem d_MoReader_variable_68 : decode b_MoReader_variable 68 = .ok (.getfield 243, 3) := by decide +kernel
theorem d_MoReader_variable_71 : decode b_MoReader_variable 71 = .ok (.iconst 1, 1) := by decide +kernel
theorem d_MoReader_variable_72 : decode b_MoReader_variable 72 = .ok (.iadd, 1) := by decide +kernel
theorem d_MoReader_variable_73 : decode b_MoReader_variable 73 = .ok (.putfield 243, 3) := by decide +kernel
theorem d_MoReader_variable_76 : decode b_MoReader_variable 76 = .ok (.aload_n 0, 1) := by decide +kernel
theorem d_MoReader_variable_77 : decode b_MoReader_variable 77 = .ok (.getfield 243, 3) := by decide +kernel
theorem d_MoReader_variable_80 : decode b_MoReader_variable 80 = .ok (.iconst 1, 1) := by decide +kernel
theorem d_MoReader_variable_81 : decode b_MoReader_variable 81 = .ok (.isub, 1) := by decide +kernel
theorem d_MoReader_variable_82 : decode b_MoReader_variable 82 = .ok (.ireturn, 1) := by decide +kernel
def p_MoReader_variable_56 (n : Nat) (a_variabled : Int32) (a_variables_n : Nat) (a_variables_f : Nat → Int32) (x1_1 : Int32) (a_names_size_1 : Int32) (a_names_texted_1 : Int32) (a_names_text_1f : Nat → Int32) (a_names_from_1f : Nat → Int32) (a_names_next_1f : Nat → Int32) (a_names_first_1f : Nat → Int32) : Option (Int32 × Int32 × Int32 × Int32 × (Nat → Int32) × (Nat → Int32) × (Nat → Int32) × (Nat → Int32) × (Nat → Int32)) := ck (ixb a_variabled a_variables_n) (some ((a_variabled + 1) - 1, a_variabled + 1, a_names_size_1, a_names_texted_1, a_names_text_1f, a_names_from_1f, a_names_next_1f, a_names_first_1f, upd a_variables_f a_variabled.toNatClampNeg x1_1))
def p_MoReader_variable_28 (n : Nat) (a_variabled : Int32) (a_variables_n : Nat) (a_variables_f : Nat → Int32) (r4 : Int32) (a_names_size_4 : Int32) (a_names_texted_4 : Int32) (a_names_text_f_4 : Nat → Int32) (a_names_from_f_4 : Nat → Int32) (a_names_next_f_4 : Nat → Int32) (a_names_first_f_4 : Nat → Int32) (kf5 : Nat) (x3_5 : Int32) : Option (Int32 × Int32 × Int32 × Int32 × (Nat → Int32) × (Nat → Int32) × (Nat → Int32) × (Nat → Int32) × (Nat → Int32)) := match kf5 with
  | 0 => none
  | kf5 + 1 => if a_variabled ≤ x3_5 then (p_MoReader_variable_56 n a_variabled a_variables_n a_variables_f r4 a_names_size_4 a_names_texted_4 a_names_text_f_4 a_names_from_f_4 a_names_next_f_4 a_names_first_f_4) else (ck (ixb x3_5 a_variables_n) (if (a_variables_f x3_5.toNatClampNeg) = r4 then (some (x3_5, a_variabled, a_names_size_4, a_names_texted_4, a_names_text_f_4, a_names_from_f_4, a_names_next_f_4, a_names_first_f_4, a_variables_f)) else (p_MoReader_variable_28 n a_variabled a_variables_n a_variables_f r4 a_names_size_4 a_names_texted_4 a_names_text_f_4 a_names_from_f_4 a_names_next_f_4 a_names_first_f_4 kf5 (x3_5 + 1))))
def p_MoReader_variable_28_12 (n : Nat) (a_variabled : Int32) (a_variables_n : Nat) (a_variables_f : Nat → Int32) (r11 : Int32) (a_names_size_11 : Int32) (a_names_texted_11 : Int32) (a_names_text_f_11 : Nat → Int32) (a_names_from_f_11 : Nat → Int32) (a_names_next_f_11 : Nat → Int32) (a_names_first_f_11 : Nat → Int32) (kf12 : Nat) (x3_12 : Int32) : Option (Int32 × Int32 × Int32 × Int32 × (Nat → Int32) × (Nat → Int32) × (Nat → Int32) × (Nat → Int32) × (Nat → Int32)) := match kf12 with
  | 0 => none
  | kf12 + 1 => if a_variabled ≤ x3_12 then (p_MoReader_variable_56 n a_variabled a_variables_n a_variables_f r11 a_names_size_11 a_names_texted_11 a_names_text_f_11 a_names_from_f_11 a_names_next_f_11 a_names_first_f_11) else (ck (ixb x3_12 a_variables_n) (if (a_variables_f x3_12.toNatClampNeg) = r11 then (some (x3_12, a_variabled, a_names_size_11, a_names_texted_11, a_names_text_f_11, a_names_from_f_11, a_names_next_f_11, a_names_first_f_11, a_variables_f)) else (p_MoReader_variable_28_12 n a_variabled a_variables_n a_variables_f r11 a_names_size_11 a_names_texted_11 a_names_text_f_11 a_names_from_f_11 a_names_next_f_11 a_names_first_f_11 kf12 (x3_12 + 1))))
def p_MoReader_variable (n : Nat) (a_n : Int32) (a_at : Int32) (a_behind : Int32) (a_token : Int32) (a_open : Int32) (a_number : Int64) (a_letters : Int32) (a_top : Int32) (a_place : Int32) (a_variabled : Int32) (a_known : Int32) (a_rank : Int32) (a_names_size : Int32) (a_names_texted : Int32) (a_names_text_n : Nat) (a_names_text_f : Nat → Int32) (a_names_from_n : Nat) (a_names_from_f : Nat → Int32) (a_names_next_n : Nat) (a_names_next_f : Nat → Int32) (a_names_first_n : Nat) (a_names_first_f : Nat → Int32) (a_word_n : Nat) (a_word_f : Nat → Int32) (a_variables_n : Nat) (a_variables_f : Nat → Int32) : Option (Int32 × Int32 × Int32 × Int32 × (Nat → Int32) × (Nat → Int32) × (Nat → Int32) × (Nat → Int32) × (Nat → Int32)) := if 1 < a_letters then ((p_MoReader_name n a_n a_at a_behind a_token a_open a_number a_letters a_top a_place a_variabled a_known a_rank a_names_size a_names_texted a_names_text_n a_names_text_f a_names_from_n a_names_from_f a_names_next_n a_names_next_f a_names_first_n a_names_first_f a_word_n a_word_f).bind (fun (r4, a_names_size_4, a_names_texted_4, a_names_text_f_4, a_names_from_f_4, a_names_next_f_4, a_names_first_f_4) => p_MoReader_variable_28 n a_variabled a_variables_n a_variables_f r4 a_names_size_4 a_names_texted_4 a_names_text_f_4 a_names_from_f_4 a_names_next_f_4 a_names_first_f_4 n (0 : Int32))) else (ck (ixb 0 a_word_n) (if (a_word_f (0 : Int32).toNatClampNeg) = 95 then (p_MoReader_variable_56 n a_variabled a_variables_n a_variables_f ((-1) : Int32) a_names_size a_names_texted a_names_text_f a_names_from_f a_names_next_f a_names_first_f) else ((p_MoReader_name n a_n a_at a_behind a_token a_open a_number a_letters a_top a_place a_variabled a_known a_rank a_names_size a_names_texted a_names_text_n a_names_text_f a_names_from_n a_names_from_f a_names_next_n a_names_next_f a_names_first_n a_names_first_f a_word_n a_word_f).bind (fun (r11, a_names_size_11, a_names_texted_11, a_names_text_f_11, a_names_from_f_11, a_names_next_f_11, a_names_first_f_11) => p_MoReader_variable_28_12 n a_variabled a_variables_n a_variables_f r11 a_names_size_11 a_names_texted_11 a_names_text_f_11 a_names_from_f_11 a_names_next_f_11 a_names_first_f_11 n (0 : Int32)))))
set_option maxHeartbeats 40000000 in
set_option maxRecDepth 100000 in
theorem c_MoReader_variable (l : Launch) (g : va_G) (cs : Nat → ClassId) (ka : Nat → Nat) (a_sides : Nat) (a_ranks : Nat) (a_stop : Nat) (a_terms : Nat) (a_s : Nat) (a_stack : Nat) (a_kept : Nat) (a a_names a_names_text a_names_from a_names_next a_names_first a_word a_variables : Nat) (sz : Nat) (n : Nat) (a_n : Int32) (a_at : Int32) (a_behind : Int32) (a_token : Int32) (a_open : Int32) (a_number : Int64) (a_letters : Int32) (a_top : Int32) (a_place : Int32) (a_variabled : Int32) (a_known : Int32) (a_rank : Int32) (a_names_size : Int32) (a_names_texted : Int32) (a_names_text_n : Nat) (a_names_text_f : Nat → Int32) (a_names_from_n : Nat) (a_names_from_f : Nat → Int32) (a_names_next_n : Nat) (a_names_next_f : Nat → Int32) (a_names_first_n : Nat) (a_names_first_f : Nat → Int32) (a_word_n : Nat) (a_word_f : Nat → Int32) (a_variables_n : Nat) (a_variables_f : Nat → Int32) (r : Int32) (o_a_variabled : Int32) (o_a_names_size : Int32) (o_a_names_texted : Int32) (o_a_names_text_f : Nat → Int32) (o_a_names_from_f : Nat → Int32) (o_a_names_next_f : Nat → Int32) (o_a_names_first_f : Nat → Int32) (o_a_variables_f : Nat → Int32) (hok : p_MoReader_variable n a_n a_at a_behind a_token a_open a_number a_letters a_top a_place a_variabled a_known a_rank a_names_size a_names_texted a_names_text_n a_names_text_f a_names_from_n a_names_from_f a_names_next_n a_names_next_f a_names_first_n a_names_first_f a_word_n a_word_f a_variables_n a_variables_f = some (r, o_a_variabled, o_a_names_size, o_a_names_texted, o_a_names_text_f, o_a_names_from_f, o_a_names_next_f, o_a_names_first_f, o_a_variables_f)) : Met l y_MoReader_variable (.code y_MoReader_variable b_MoReader_variable 4 (some .int) :: GW) { frames := 3, cells := 0, slots := 0, locals := 68 } (va_Pc [.ref a] (gP g cs ka [(a, .inr (12, [.ref a_sides, .ref a_ranks, .ref a_stop, .ref a_terms, .ref a_names, .ref a_s, .int a_n, .int a_at, .int a_behind, .int a_token, .int a_open, .long a_number, .ref a_word, .int a_letters, .ref a_stack, .int a_top, .int a_place, .ref a_variables, .int a_variabled, .int a_known, .int a_rank, .ref a_kept])), (a_names, .inr (10, [.ref a_names_text, .ref a_names_from, .ref a_names_next, .ref a_names_first, .int a_names_size, .int a_names_texted])), (a_names_text, .inl (cs 1, a_names_text_n, .inl a_names_text_f)), (a_names_from, .inl (cs 0, a_names_from_n, .inl a_names_from_f)), (a_names_next, .inl (cs 0, a_names_next_n, .inl a_names_next_f)), (a_names_first, .inl (cs 0, a_names_first_n, .inl a_names_first_f)), (a_word, .inl (cs 1, a_word_n, .inl a_word_f)), (a_variables, .inl (cs 0, a_variables_n, .inl a_variables_f))] sz)) (va_Qi (fun (r' : Int32) (_ : Unit) => r = r') (fun _ t => va_P g classes [(a, .inr (12, [.ref a_sides, .ref a_ranks, .ref a_stop, .ref a_terms, .ref a_names, .ref a_s, .int a_n, .int a_at, .int a_behind, .int a_token, .int a_open, .long a_number, .ref a_word, .int a_letters, .ref a_stack, .int a_top, .int a_place, .ref a_variables, .int o_a_variabled, .int a_known, .int a_rank, .ref a_kept])), (a_names, .inr (10, [.ref a_names_text, .ref a_names_from, .ref a_names_next, .ref a_names_first, .int o_a_names_size, .int o_a_names_texted])), (a_names_text, .inl (cs 1, a_names_text_n, .inl o_a_names_text_f)), (a_names_from, .inl (cs 0, a_names_from_n, .inl o_a_names_from_f)), (a_names_next, .inl (cs 0, a_names_next_n, .inl o_a_names_next_f)), (a_names_first, .inl (cs 0, a_names_first_n, .inl o_a_names_first_f)), (a_word, .inl (cs 1, a_word_n, .inl a_word_f)), (a_variables, .inl (cs 0, a_variables_n, .inl o_a_variables_f))] t.heap ∧ va_D (va_A [(a, .inr (12, [.ref a_sides, .ref a_ranks, .ref a_stop, .ref a_terms, .ref a_names, .ref a_s, .int a_n, .int a_at, .int a_behind, .int a_token, .int a_open, .long a_number, .ref a_word, .int a_letters, .ref a_stack, .int a_top, .int a_place, .ref a_variables, .int a_variabled, .int a_known, .int a_rank, .ref a_kept])), (a_names, .inr (10, [.ref a_names_text, .ref a_names_from, .ref a_names_next, .ref a_names_first, .int a_names_size, .int a_names_texted])), (a_names_text, .inl (cs 1, a_names_text_n, .inl a_names_text_f)), (a_names_from, .inl (cs 0, a_names_from_n, .inl a_names_from_f)), (a_names_next, .inl (cs 0, a_names_next_n, .inl a_names_next_f)), (a_names_first, .inl (cs 0, a_names_first_n, .inl a_names_first_f)), (a_word, .inl (cs 1, a_word_n, .inl a_word_f)), (a_variables, .inl (cs 0, a_variables_n, .inl a_variables_f))] sz) [(a, .inr (12, [.ref a_sides, .ref a_ranks, .ref a_stop, .ref a_terms, .ref a_names, .ref a_s, .int a_n, .int a_at, .int a_behind, .int a_token, .int a_open, .long a_number, .ref a_word, .int a_letters, .ref a_stack, .int a_top, .int a_place, .ref a_variables, .int o_a_variabled, .int a_known, .int a_rank, .ref a_kept])), (a_names, .inr (10, [.ref a_names_text, .ref a_names_from, .ref a_names_next, .ref a_names_first, .int o_a_names_size, .int o_a_names_texted])), (a_names_text, .inl (cs 1, a_names_text_n, .inl o_a_names_text_f)), (a_names_from, .inl (cs 0, a_names_from_n, .inl o_a_names_from_f)), (a_names_next, .inl (cs 0, a_names_next_n, .inl o_a_names_next_f)), (a_names_first, .inl (cs 0, a_names_first_n, .inl o_a_names_first_f)), (a_word, .inl (cs 1, a_word_n, .inl a_word_f)), (a_variables, .inl (cs 0, a_variables_n, .inl o_a_variables_f))]) (va_A [(a, .inr (12, [.ref a_sides, .ref a_ranks, .ref a_stop, .ref a_terms, .ref a_names, .ref a_s, .int a_n, .int a_at, .int a_behind, .int a_token, .int a_open, .long a_number, .ref a_word, .int a_letters, .ref a_stack, .int a_top, .int a_place, .ref a_variables, .int a_variabled, .int a_known, .int a_rank, .ref a_kept])), (a_names, .inr (10, [.ref a_names_text, .ref a_names_from, .ref a_names_next, .ref a_names_first, .int a_names_size, .int a_names_texted])), (a_names_text, .inl (cs 1, a_names_text_n, .inl a_names_text_f)), (a_names_from, .inl (cs 0, a_names_from_n, .inl a_names_from_f)), (a_names_next, .inl (cs 0, a_names_next_n, .inl a_names_next_f)), (a_names_first, .inl (cs 0, a_names_first_n, .inl a_names_first_f)), (a_word, .inl (cs 1, a_word_n, .inl a_word_f)), (a_variables, .inl (cs 0, a_variables_n, .inl a_variables_f))] sz)) 0 0 (va_A [(a, .inr (12, [.ref a_sides, .ref a_ranks, .ref a_stop, .ref a_terms, .ref a_names, .ref a_s, .int a_n, .int a_at, .int a_behind, .int a_token, .int a_open, .long a_number, .ref a_word, .int a_letters, .ref a_stack, .int a_top, .int a_place, .ref a_variables, .int a_variabled, .int a_known, .int a_rank, .ref a_kept])), (a_names, .inr (10, [.ref a_names_text, .ref a_names_from, .ref a_names_next, .ref a_names_first, .int a_names_size, .int a_names_texted])), (a_names_text, .inl (cs 1, a_names_text_n, .inl a_names_text_f)), (a_names_from, .inl (cs 0, a_names_from_n, .inl a_names_from_f)), (a_names_next, .inl (cs 0, a_names_next_n, .inl a_names_next_f)), (a_names_first, .inl (cs 0, a_names_first_n, .inl a_names_first_f)), (a_word, .inl (cs 1, a_word_n, .inl a_word_f)), (a_variables, .inl (cs 0, a_variables_n, .inl a_variables_f))] sz) := by
  refine Met.ofW (cc := b_MoReader_variable) (maxL := 4) (ret := (some .int)) (by decide) rfl ?_
  intro p e s m args below meth c s₁ B hml hv
  obtain ⟨rfl, hsz, hP, hK, hD0, hgl, hkn, hkr⟩ := hv
  have hx := B.exec
  have hb := B.bytes
  have hr := B.returns
  have hg : ∀ w ∈ GW, w.before ([.ref a] : List Value).toArray s = true := fun w hw => atoms_spec (ws := .code y_MoReader_variable b_MoReader_variable 4 (some .int) :: GW) B.pre w (List.mem_cons_of_mem _ hw)
  have hown : s.vm.findClass R_MoReader = some m.cls := findClass_of_methodNamed B.named
  have hlocks := B.notSynchronized
  subst hsz
  have hD := hD0.self (sz := s.heap.size)
  generalize hAe : va_A [(a, .inr (12, [.ref a_sides, .ref a_ranks, .ref a_stop, .ref a_terms, .ref a_names, .ref a_s, .int a_n, .int a_at, .int a_behind, .int a_token, .int a_open, .long a_number, .ref a_word, .int a_letters, .ref a_stack, .int a_top, .int a_place, .ref a_variables, .int a_variabled, .int a_known, .int a_rank, .ref a_kept])), (a_names, .inr (10, [.ref a_names_text, .ref a_names_from, .ref a_names_next, .ref a_names_first, .int a_names_size, .int a_names_texted])), (a_names_text, .inl (cs 1, a_names_text_n, .inl a_names_text_f)), (a_names_from, .inl (cs 0, a_names_from_n, .inl a_names_from_f)), (a_names_next, .inl (cs 0, a_names_next_n, .inl a_names_next_f)), (a_names_first, .inl (cs 0, a_names_first_n, .inl a_names_first_f)), (a_word, .inl (cs 1, a_word_n, .inl a_word_f)), (a_variables, .inl (cs 0, a_variables_n, .inl a_variables_f))] s.heap.size = A at hD hkn ⊢
  have hA : ∀ q : Nat, s.heap.size ≤ q → A q := fun q h => by rw [← hAe]; exact Or.inr h
  have hS : va_S A s.heap s.heap [] := va_S.rf
  have hP : va_P g classes [(a, .inr (12, [.ref a_sides, .ref a_ranks, .ref a_stop, .ref a_terms, .ref a_names, .ref a_s, .int a_n, .int a_at, .int a_behind, .int a_token, .int a_open, .long a_number, .ref a_word, .int a_letters, .ref a_stack, .int a_top, .int a_place, .ref a_variables, .int a_variabled, .int a_known, .int a_rank, .ref a_kept])), (a_names, .inr (10, [.ref a_names_text, .ref a_names_from, .ref a_names_next, .ref a_names_first, .int a_names_size, .int a_names_texted])), (a_names_text, .inl (cs 1, a_names_text_n, .inl a_names_text_f)), (a_names_from, .inl (cs 0, a_names_from_n, .inl a_names_from_f)), (a_names_next, .inl (cs 0, a_names_next_n, .inl a_names_next_f)), (a_names_first, .inl (cs 0, a_names_first_n, .inl a_names_first_f)), (a_word, .inl (cs 1, a_word_n, .inl a_word_f)), (a_variables, .inl (cs 0, a_variables_n, .inl a_variables_f))] s.heap := hP
  have hl := lv_entry ([.ref a]) (n := 4) (Nat.le_of_ble_eq_true rfl)
  rw [lg_entry_eq]
  generalize (lg_sl ([.ref a]) ++ List.replicate (4 - (lg_sl ([.ref a])).length) Slot.unset).toArray = ls at hl ⊢
  have hl : lv_has ls 4 [(0, .ref a)] := hl
  refine gq (fun Q hQ => ?_)
  obtain ⟨H, hH⟩ : ∃ H : Heap, H = s.heap := ⟨_, rfl⟩
  rw [← hH] at hP
  have hS : va_S A s.heap H [] := by rw [hH]; exact hS
  refine W.eqH hH ?_
  obtain ⟨locs, hlc⟩ : ∃ L : List Loc, L = [] := ⟨_, rfl⟩
  rw [← hlc] at hS ⊢
  unfold p_MoReader_variable at hok
  refine lv_iconst (v := (-1)) hx hb d_MoReader_variable_0 (by decide) ?_
  refine lv_istore_n hx hb d_MoReader_variable_1 rfl hl (by decide) rfl (fun ls hl => ?_)
  have hl : lv_has ls 4 [(1, .int (-1)), (0, .ref a)] := hl
  refine lv_aload_n hx hb d_MoReader_variable_2 rfl (lv_at hl 1 rfl) ?_
  refine va_get (D := g) (ci := 12) (v := .int a_letters) (C := R_MoReader) (T := F_MoReader) (N := 22) hx hb hg ul_MoReader hown hK hP 0 rfl rfl 13 (by decide) (hg _ wd_1178) (fun _ h9 => h9) rfl d_MoReader_variable_3 ?_
  refine lv_iconst (v := 1) hx hb d_MoReader_variable_6 (by decide) ?_
  have J1 : ∀ (H : Heap) (locs : List Loc) (ls : Array Slot) (x1_1 : Int32) (a_names_size_1 : Int32) (a_names_texted_1 : Int32) (a_names_text_1f : Nat → Int32) (a_names_from_1f : Nat → Int32) (a_names_next_1f : Nat → Int32) (a_names_first_1f : Nat → Int32), lv_has ls 4 [(1, .int x1_1), (0, .ref a)] → PD g A H [(a, .inr (12, [.ref a_sides, .ref a_ranks, .ref a_stop, .ref a_terms, .ref a_names, .ref a_s, .int a_n, .int a_at, .int a_behind, .int a_token, .int a_open, .long a_number, .ref a_word, .int a_letters, .ref a_stack, .int a_top, .int a_place, .ref a_variables, .int a_variabled, .int a_known, .int a_rank, .ref a_kept])), (a_names, .inr (10, [.ref a_names_text, .ref a_names_from, .ref a_names_next, .ref a_names_first, .int a_names_size_1, .int a_names_texted_1])), (a_names_text, .inl (cs 1, a_names_text_n, .inl a_names_text_1f)), (a_names_from, .inl (cs 0, a_names_from_n, .inl a_names_from_1f)), (a_names_next, .inl (cs 0, a_names_next_n, .inl a_names_next_1f)), (a_names_first, .inl (cs 0, a_names_first_n, .inl a_names_first_1f)), (a_word, .inl (cs 1, a_word_n, .inl a_word_f)), (a_variables, .inl (cs 0, a_variables_n, .inl a_variables_f))] → va_S A s.heap H locs → p_MoReader_variable_56 n a_variabled a_variables_n a_variables_f x1_1 a_names_size_1 a_names_texted_1 a_names_text_1f a_names_from_1f a_names_next_1f a_names_first_1f = some (r, o_a_variabled, o_a_names_size, o_a_names_texted, o_a_names_text_f, o_a_names_from_f, o_a_names_next_f, o_a_names_first_f, o_a_variables_f) → W p l e (headSpec (.code y_MoReader_variable b_MoReader_variable 4 (some .int) :: GW) { frames := 3, cells := 0, slots := 0, locals := 68 }).room s m ([.ref a] : List Value).toArray below meth c H locs 0 0 Q (F0 m 56 ls []) := by
    intro H locs ls x1_1 a_names_size_1 a_names_texted_1 a_names_text_1f a_names_from_1f a_names_next_1f a_names_first_1f hl ⟨hP, hD⟩ hS hok
    unfold p_MoReader_variable_56 at hok
    refine lv_aload_n hx hb d_MoReader_variable_56 rfl (lv_at hl 1 rfl) ?_
    refine va_get (D := g) (ci := 12) (v := .ref a_variables) (C := R_MoReader) (T := F_MoReader) (N := 22) hx hb hg ul_MoReader hown hK hP 0 rfl rfl 17 (by decide) (hg _ wd_1252) (fun _ h9 => h9) rfl d_MoReader_variable_57 ?_
    refine lv_aload_n hx hb d_MoReader_variable_60 rfl (lv_at hl 1 rfl) ?_
    refine va_get (D := g) (ci := 12) (v := .int a_variabled) (C := R_MoReader) (T := F_MoReader) (N := 22) hx hb hg ul_MoReader hown hK hP 0 rfl rfl 18 (by decide) (hg _ wd_1253) (fun _ h9 => h9) rfl d_MoReader_variable_61 ?_
    refine lv_iload_n hx hb d_MoReader_variable_64 rfl (lv_at hl 0 rfl) ?_
    obtain ⟨hi2, hok⟩ := ck_some hok
    refine va_iast hx hb hK hP hD hS 7 0 rfl rfl (ixb_in hi2) d_MoReader_variable_65 (fun H locs hP hD hS => ?_)
    obtain ⟨hP, hD⟩ : PD g A H [(a, .inr (12, [.ref a_sides, .ref a_ranks, .ref a_stop, .ref a_terms, .ref a_names, .ref a_s, .int a_n, .int a_at, .int a_behind, .int a_token, .int a_open, .long a_number, .ref a_word, .int a_letters, .ref a_stack, .int a_top, .int a_place, .ref a_variables, .int a_variabled, .int a_known, .int a_rank, .ref a_kept])), (a_names, .inr (10, [.ref a_names_text, .ref a_names_from, .ref a_names_next, .ref a_names_first, .int a_names_size_1, .int a_names_texted_1])), (a_names_text, .inl (cs 1, a_names_text_n, .inl a_names_text_1f)), (a_names_from, .inl (cs 0, a_names_from_n, .inl a_names_from_1f)), (a_names_next, .inl (cs 0, a_names_next_n, .inl a_names_next_1f)), (a_names_first, .inl (cs 0, a_names_first_n, .inl a_names_first_1f)), (a_word, .inl (cs 1, a_word_n, .inl a_word_f)), (a_variables, .inl (cs 0, a_variables_n, .inl (upd a_variables_f a_variabled.toNatClampNeg x1_1)))] := ⟨hP, hD⟩
    refine lv_aload_n hx hb d_MoReader_variable_66 rfl (lv_at hl 1 rfl) ?_
    refine lv_dup hx hb d_MoReader_variable_67 rfl ?_
    refine va_get (D := g) (ci := 12) (v := .int a_variabled) (C := R_MoReader) (T := F_MoReader) (N := 22) hx hb hg ul_MoReader hown hK hP 0 rfl rfl 18 (by decide) (hg _ wd_1253) (fun _ h9 => h9) rfl d_MoReader_variable_68 ?_
    refine lv_iconst (v := 1) hx hb d_MoReader_variable_71 (by decide) ?_
    refine lv_iadd hx hb d_MoReader_variable_72 ?_
    refine va_put (D := g) (ci := 12) (v := .int (a_variabled + 1)) (ty := .int) (C := R_MoReader) (T := F_MoReader) (N := 22) hx hb hg ul_MoReader t_MoReader tk_MoReader n_MoReader hown hK hP hD hS 0 rfl rfl 18 (by decide) (hg _ wd_1253) (fun _ h9 => h9) rfl (by decide +kernel) rfl rfl (Nat.le_of_ble_eq_true rfl) d_MoReader_variable_73 (fun H locs hP hD hS => ?_)
    obtain ⟨hP, hD⟩ : PD g A H [(a, .inr (12, [.ref a_sides, .ref a_ranks, .ref a_stop, .ref a_terms, .ref a_names, .ref a_s, .int a_n, .int a_at, .int a_behind, .int a_token, .int a_open, .long a_number, .ref a_word, .int a_letters, .ref a_stack, .int a_top, .int a_place, .ref a_variables, .int (a_variabled + 1), .int a_known, .int a_rank, .ref a_kept])), (a_names, .inr (10, [.ref a_names_text, .ref a_names_from, .ref a_names_next, .ref a_names_first, .int a_names_size_1, .int a_names_texted_1])), (a_names_text, .inl (cs 1, a_names_text_n, .inl a_names_text_1f)), (a_names_from, .inl (cs 0, a_names_from_n, .inl a_names_from_1f)), (a_names_next, .inl (cs 0, a_names_next_n, .inl a_names_next_1f)), (a_names_first, .inl (cs 0, a_names_first_n, .inl a_names_first_1f)), (a_word, .inl (cs 1, a_word_n, .inl a_word_f)), (a_variables, .inl (cs 0, a_variables_n, .inl (upd a_variables_f a_variabled.toNatClampNeg x1_1)))] := ⟨hP, hD⟩
    refine lv_aload_n hx hb d_MoReader_variable_76 rfl (lv_at hl 1 rfl) ?_
    refine va_get (D := g) (ci := 12) (v := .int (a_variabled + 1)) (C := R_MoReader) (T := F_MoReader) (N := 22) hx hb hg ul_MoReader hown hK hP 0 rfl rfl 18 (by decide) (hg _ wd_1253) (fun _ h9 => h9) rfl d_MoReader_variable_77 ?_
    refine lv_iconst (v := 1) hx hb d_MoReader_variable_80 (by decide) ?_
    refine lv_isub hx hb d_MoReader_variable_81 ?_
    have hq := Option.some.inj hok
    obtain ⟨hq0, hq⟩ := Prod.mk.inj hq
    obtain ⟨hq1, hq⟩ := Prod.mk.inj hq
    obtain ⟨hq2, hq⟩ := Prod.mk.inj hq
    obtain ⟨hq3, hq⟩ := Prod.mk.inj hq
    obtain ⟨hq4, hq⟩ := Prod.mk.inj hq
    obtain ⟨hq5, hq⟩ := Prod.mk.inj hq
    obtain ⟨hq6, hq⟩ := Prod.mk.inj hq
    obtain ⟨hq7, hq⟩ := Prod.mk.inj hq
    have hq8 := hq
    subst hq0
    subst hq1
    subst hq2
    subst hq3
    subst hq4
    subst hq5
    subst hq6
    subst hq7
    subst hq8
    obtain ⟨hP9, hD9⟩ := sub2 (ws' := [(a, .inr (12, [.ref a_sides, .ref a_ranks, .ref a_stop, .ref a_terms, .ref a_names, .ref a_s, .int a_n, .int a_at, .int a_behind, .int a_token, .int a_open, .long a_number, .ref a_word, .int a_letters, .ref a_stack, .int a_top, .int a_place, .ref a_variables, .int (a_variabled + 1), .int a_known, .int a_rank, .ref a_kept])), (a_names, .inr (10, [.ref a_names_text, .ref a_names_from, .ref a_names_next, .ref a_names_first, .int a_names_size_1, .int a_names_texted_1])), (a_names_text, .inl (cs 1, a_names_text_n, .inl a_names_text_1f)), (a_names_from, .inl (cs 0, a_names_from_n, .inl a_names_from_1f)), (a_names_next, .inl (cs 0, a_names_next_n, .inl a_names_next_1f)), (a_names_first, .inl (cs 0, a_names_first_n, .inl a_names_first_1f)), (a_word, .inl (cs 1, a_word_n, .inl a_word_f)), (a_variables, .inl (cs 0, a_variables_n, .inl (upd a_variables_f a_variabled.toNatClampNeg x1_1)))]) hP hD [0, 1, 2, 3, 4, 5, 6, 7] rfl (by decide) rfl
    rw [hQ]
    exact W.iret (v := (a_variabled + 1) - 1) hx hb hr (fun t ht hW => ⟨⟨_, (), rfl, rfl, by rw [ht]; exact hP9, hD9⟩, hS.F ht⟩) hS.2.2 d_MoReader_variable_82
  refine lv_icmp_gt hx hb d_MoReader_variable_7 rfl (fun h3 => ?_) (fun h3 => ?_)
  · rw [if_pos h3] at hok
    refine lv_aload_n hx hb d_MoReader_variable_21 rfl (lv_at hl 1 rfl) ?_
    obtain ⟨⟨r4, a_names_size_4, a_names_texted_4, a_names_text_f_4, a_names_from_f_4, a_names_next_f_4, a_names_first_f_4⟩, hc4, hok⟩ := bd_some hok
    dsimp only at hok
    obtain ⟨hPc, hDc, hFc⟩ := cut0 (wc := [(a, .inr (12, [.ref a_sides, .ref a_ranks, .ref a_stop, .ref a_terms, .ref a_names, .ref a_s, .int a_n, .int a_at, .int a_behind, .int a_token, .int a_open, .long a_number, .ref a_word, .int a_letters, .ref a_stack, .int a_top, .int a_place, .ref a_variables, .int a_variabled, .int a_known, .int a_rank, .ref a_kept])), (a_names, .inr (10, [.ref a_names_text, .ref a_names_from, .ref a_names_next, .ref a_names_first, .int a_names_size, .int a_names_texted])), (a_names_text, .inl (cs 1, a_names_text_n, .inl a_names_text_f)), (a_names_from, .inl (cs 0, a_names_from_n, .inl a_names_from_f)), (a_names_next, .inl (cs 0, a_names_next_n, .inl a_names_next_f)), (a_names_first, .inl (cs 0, a_names_first_n, .inl a_names_first_f)), (a_word, .inl (cs 1, a_word_n, .inl a_word_f))]) hP hD hS hA [0, 1, 2, 3, 4, 5, 6] (by decide) rfl
    refine va_calli (va_runV (As := []) (rest := []) ⟨hx, hb, hml, hown, hg⟩ (c_MoReader_name l g cs ka a_sides a_ranks a_stop a_terms a_s a_stack a_variables a_kept a a_names a_names_text a_names_from a_names_next a_names_first a_word H.size n a_n a_at a_behind a_token a_open a_number a_letters a_top a_place a_variabled a_known a_rank a_names_size a_names_texted a_names_text_n a_names_text_f a_names_from_n a_names_from_f a_names_next_n a_names_next_f a_names_first_n a_names_first_f a_word_n a_word_f r4 a_names_size_4 a_names_texted_4 a_names_text_f_4 a_names_from_f_4 a_names_next_f_4 a_names_first_f_4 hc4) (cwV (C := R_MoReader) 0 hg (gw_V wd_1245 wd_1246 wd_1247 wd_754 wd_1244) rfl rfl rfl (by decide +kernel) ⟨Nat.le_of_ble_eq_true rfl, Nat.le_of_ble_eq_true rfl⟩) ⟨gP_blind, va_recv (q0 := 0) (ci := 12) (q := (R_MoReader, F_MoReader, 22)) hK hP rfl rfl, gP_pre hPc hDc hK hgl hkn hkr hS hFc⟩ rfl rfl hl.1 rfl (lv_room (Nat.le_of_ble_eq_true rfl)) d_MoReader_variable_22 ⟨Nat.le_of_ble_eq_true rfl, Nat.le_of_ble_eq_true rfl⟩) hS (fun q _ h => hFc q h) hFc (fun r4' u t H locs ht hvm hr4 hB hz1 hk1 hS => ?_)
    subst hr4
    rw [ht] at hB
    obtain ⟨hP1, hD1⟩ := hB
    obtain ⟨hP, hD⟩ := jn_A hP hD [0, 1, 2, 3, 4, 5, 6] [7] rfl rfl (by decide) (by decide) hk1 hFc hP1 hD1
    obtain ⟨hP, hD⟩ : PD g A H [(a_variables, .inl (cs 0, a_variables_n, .inl a_variables_f)), (a, .inr (12, [.ref a_sides, .ref a_ranks, .ref a_stop, .ref a_terms, .ref a_names, .ref a_s, .int a_n, .int a_at, .int a_behind, .int a_token, .int a_open, .long a_number, .ref a_word, .int a_letters, .ref a_stack, .int a_top, .int a_place, .ref a_variables, .int a_variabled, .int a_known, .int a_rank, .ref a_kept])), (a_names, .inr (10, [.ref a_names_text, .ref a_names_from, .ref a_names_next, .ref a_names_first, .int a_names_size_4, .int a_names_texted_4])), (a_names_text, .inl (cs 1, a_names_text_n, .inl a_names_text_f_4)), (a_names_from, .inl (cs 0, a_names_from_n, .inl a_names_from_f_4)), (a_names_next, .inl (cs 0, a_names_next_n, .inl a_names_next_f_4)), (a_names_first, .inl (cs 0, a_names_first_n, .inl a_names_first_f_4)), (a_word, .inl (cs 1, a_word_n, .inl a_word_f))] := ⟨hP, hD⟩
    refine lv_istore_n hx hb d_MoReader_variable_25 rfl hl (by decide) rfl (fun ls hl => ?_)
    have hl : lv_has ls 4 [(2, .int r4), (1, .int (-1)), (0, .ref a)] := hl
    refine lv_iconst (v := 0) hx hb d_MoReader_variable_26 (by decide) ?_
    refine lv_istore_n hx hb d_MoReader_variable_27 rfl hl (by decide) rfl (fun ls hl => ?_)
    have hl : lv_has ls 4 [(3, .int 0), (2, .int r4), (1, .int (-1)), (0, .ref a)] := hl
    have J5 : ∀ (kf5 : Nat) (H : Heap) (locs : List Loc) (ls : Array Slot) (x3_5 : Int32), lv_has ls 4 [(3, .int x3_5), (2, .int r4), (1, .int (-1)), (0, .ref a)] → PD g A H [(a_variables, .inl (cs 0, a_variables_n, .inl a_variables_f)), (a, .inr (12, [.ref a_sides, .ref a_ranks, .ref a_stop, .ref a_terms, .ref a_names, .ref a_s, .int a_n, .int a_at, .int a_behind, .int a_token, .int a_open, .long a_number, .ref a_word, .int a_letters, .ref a_stack, .int a_top, .int a_place, .ref a_variables, .int a_variabled, .int a_known, .int a_rank, .ref a_kept])), (a_names, .inr (10, [.ref a_names_text, .ref a_names_from, .ref a_names_next, .ref a_names_first, .int a_names_size_4, .int a_names_texted_4])), (a_names_text, .inl (cs 1, a_names_text_n, .inl a_names_text_f_4)), (a_names_from, .inl (cs 0, a_names_from_n, .inl a_names_from_f_4)), (a_names_next, .inl (cs 0, a_names_next_n, .inl a_names_next_f_4)), (a_names_first, .inl (cs 0, a_names_first_n, .inl a_names_first_f_4)), (a_word, .inl (cs 1, a_word_n, .inl a_word_f))] → va_S A s.heap H locs → p_MoReader_variable_28 n a_variabled a_variables_n a_variables_f r4 a_names_size_4 a_names_texted_4 a_names_text_f_4 a_names_from_f_4 a_names_next_f_4 a_names_first_f_4 kf5 x3_5 = some (r, o_a_variabled, o_a_names_size, o_a_names_texted, o_a_names_text_f, o_a_names_from_f, o_a_names_next_f, o_a_names_first_f, o_a_variables_f) → W p l e (headSpec (.code y_MoReader_variable b_MoReader_variable 4 (some .int) :: GW) { frames := 3, cells := 0, slots := 0, locals := 68 }).room s m ([.ref a] : List Value).toArray below meth c H locs 0 0 Q (F0 m 28 ls []) := by
      intro kf5
      induction kf5 with
      | zero => intro H locs ls x3_5 hl ⟨hP, hD⟩ hS hok; rw [p_MoReader_variable_28] at hok; cases hok
      | succ kf5 ih5 =>
        intro H locs ls x3_5 hl ⟨hP, hD⟩ hS hok
        rw [p_MoReader_variable_28] at hok
        refine lv_iload_n hx hb d_MoReader_variable_28 rfl (lv_at hl 0 rfl) ?_
        refine lv_aload_n hx hb d_MoReader_variable_29 rfl (lv_at hl 3 rfl) ?_
        refine va_get (D := g) (ci := 12) (v := .int a_variabled) (C := R_MoReader) (T := F_MoReader) (N := 22) hx hb hg ul_MoReader hown hK hP 1 rfl rfl 18 (by decide) (hg _ wd_1253) (fun _ h9 => h9) rfl d_MoReader_variable_30 ?_
        refine lv_icmp_ge hx hb d_MoReader_variable_33 rfl (fun h6 => ?_) (fun h6 => ?_)
        · rw [if_pos h6] at hok
          refine lv_iload_n hx hb d_MoReader_variable_54 rfl (lv_at hl 1 rfl) ?_
          refine lv_istore_n hx hb d_MoReader_variable_55 rfl hl (by decide) rfl (fun ls hl => ?_)
          have hl : lv_has ls 4 [(1, .int r4), (3, .int x3_5), (2, .int r4), (0, .ref a)] := hl
          exact J1 _ _ _ r4 a_names_size_4 a_names_texted_4 a_names_text_f_4 a_names_from_f_4 a_names_next_f_4 a_names_first_f_4 (lv_sub hl [0, 3] rfl) (sub3 hP hD [1, 2, 3, 4, 5, 6, 7, 0] (by decide)) hS hok
        · rw [if_neg h6] at hok
          refine lv_aload_n hx hb d_MoReader_variable_36 rfl (lv_at hl 3 rfl) ?_
          refine va_get (D := g) (ci := 12) (v := .ref a_variables) (C := R_MoReader) (T := F_MoReader) (N := 22) hx hb hg ul_MoReader hown hK hP 1 rfl rfl 17 (by decide) (hg _ wd_1252) (fun _ h9 => h9) rfl d_MoReader_variable_37 ?_
          refine lv_iload_n hx hb d_MoReader_variable_40 rfl (lv_at hl 0 rfl) ?_
          obtain ⟨hi7, hok⟩ := ck_some hok
          refine va_iald hx hb hK hP 0 0 rfl rfl (ixb_in hi7) d_MoReader_variable_41 ?_
          refine lv_iload_n hx hb d_MoReader_variable_42 rfl (lv_at hl 1 rfl) ?_
          refine lv_icmp_ne hx hb d_MoReader_variable_43 rfl (fun h8 => ?_) (fun h8 => ?_)
          · rw [if_neg h8] at hok
            refine lv_iinc (k := 0) (v := x3_5 + 1) hx hb d_MoReader_variable_48 hl rfl rfl (by decide) rfl (fun ls hl => ?_)
            have hl : lv_has ls 4 [(3, .int (x3_5 + 1)), (2, .int r4), (1, .int (-1)), (0, .ref a)] := hl
            refine lv_goto hx hb d_MoReader_variable_51 rfl ?_
            exact ih5 _ _ _ (x3_5 + 1) (lv_sub hl [0, 1, 2, 3] rfl) (sub3 hP hD [0, 1, 2, 3, 4, 5, 6, 7] (by decide)) hS hok
          · rw [if_pos h8] at hok
            refine lv_iload_n hx hb d_MoReader_variable_46 rfl (lv_at hl 0 rfl) ?_
            have hq := Option.some.inj hok
            obtain ⟨hq0, hq⟩ := Prod.mk.inj hq
            obtain ⟨hq1, hq⟩ := Prod.mk.inj hq
            obtain ⟨hq2, hq⟩ := Prod.mk.inj hq
            obtain ⟨hq3, hq⟩ := Prod.mk.inj hq
            obtain ⟨hq4, hq⟩ := Prod.mk.inj hq
            obtain ⟨hq5, hq⟩ := Prod.mk.inj hq
            obtain ⟨hq6, hq⟩ := Prod.mk.inj hq
            obtain ⟨hq7, hq⟩ := Prod.mk.inj hq
            have hq8 := hq
            subst hq0
            subst hq1
            subst hq2
            subst hq3
            subst hq4
            subst hq5
            subst hq6
            subst hq7
            subst hq8
            obtain ⟨hP9, hD9⟩ := sub2 (ws' := [(a, .inr (12, [.ref a_sides, .ref a_ranks, .ref a_stop, .ref a_terms, .ref a_names, .ref a_s, .int a_n, .int a_at, .int a_behind, .int a_token, .int a_open, .long a_number, .ref a_word, .int a_letters, .ref a_stack, .int a_top, .int a_place, .ref a_variables, .int a_variabled, .int a_known, .int a_rank, .ref a_kept])), (a_names, .inr (10, [.ref a_names_text, .ref a_names_from, .ref a_names_next, .ref a_names_first, .int a_names_size_4, .int a_names_texted_4])), (a_names_text, .inl (cs 1, a_names_text_n, .inl a_names_text_f_4)), (a_names_from, .inl (cs 0, a_names_from_n, .inl a_names_from_f_4)), (a_names_next, .inl (cs 0, a_names_next_n, .inl a_names_next_f_4)), (a_names_first, .inl (cs 0, a_names_first_n, .inl a_names_first_f_4)), (a_word, .inl (cs 1, a_word_n, .inl a_word_f)), (a_variables, .inl (cs 0, a_variables_n, .inl a_variables_f))]) hP hD [1, 2, 3, 4, 5, 6, 7, 0] rfl (by decide) rfl
            rw [hQ]
            exact W.iret (v := x3_5) hx hb hr (fun t ht hW => ⟨⟨_, (), rfl, rfl, by rw [ht]; exact hP9, hD9⟩, hS.F ht⟩) hS.2.2 d_MoReader_variable_47
    exact J5 n H locs ls (0 : Int32) hl ⟨hP, hD⟩ hS hok
  · rw [if_neg h3] at hok
    refine lv_aload_n hx hb d_MoReader_variable_10 rfl (lv_at hl 1 rfl) ?_
    refine va_get (D := g) (ci := 12) (v := .ref a_word) (C := R_MoReader) (T := F_MoReader) (N := 22) hx hb hg ul_MoReader hown hK hP 0 rfl rfl 12 (by decide) (hg _ wd_1177) (fun _ h9 => h9) rfl d_MoReader_variable_11 ?_
    refine lv_iconst (v := 0) hx hb d_MoReader_variable_14 (by decide) ?_
    obtain ⟨hi9, hok⟩ := ck_some hok
    refine va_bald hx hb hK hP 6 1 rfl rfl (ixb_in hi9) d_MoReader_variable_15 ?_
    refine lv_bipush (v := 95) hx hb d_MoReader_variable_16 (by decide) ?_
    refine lv_icmp_eq hx hb d_MoReader_variable_18 rfl (fun h10 => ?_) (fun h10 => ?_)
    · rw [if_pos h10] at hok
      exact J1 _ _ _ ((-1) : Int32) a_names_size a_names_texted a_names_text_f a_names_from_f a_names_next_f a_names_first_f (lv_sub hl [0, 1] rfl) (sub3 hP hD [0, 1, 2, 3, 4, 5, 6, 7] (by decide)) hS hok
    · rw [if_neg h10] at hok
      refine lv_aload_n hx hb d_MoReader_variable_21 rfl (lv_at hl 1 rfl) ?_
      obtain ⟨⟨r11, a_names_size_11, a_names_texted_11, a_names_text_f_11, a_names_from_f_11, a_names_next_f_11, a_names_first_f_11⟩, hc11, hok⟩ := bd_some hok
      dsimp only at hok
      obtain ⟨hPc, hDc, hFc⟩ := cut0 (wc := [(a, .inr (12, [.ref a_sides, .ref a_ranks, .ref a_stop, .ref a_terms, .ref a_names, .ref a_s, .int a_n, .int a_at, .int a_behind, .int a_token, .int a_open, .long a_number, .ref a_word, .int a_letters, .ref a_stack, .int a_top, .int a_place, .ref a_variables, .int a_variabled, .int a_known, .int a_rank, .ref a_kept])), (a_names, .inr (10, [.ref a_names_text, .ref a_names_from, .ref a_names_next, .ref a_names_first, .int a_names_size, .int a_names_texted])), (a_names_text, .inl (cs 1, a_names_text_n, .inl a_names_text_f)), (a_names_from, .inl (cs 0, a_names_from_n, .inl a_names_from_f)), (a_names_next, .inl (cs 0, a_names_next_n, .inl a_names_next_f)), (a_names_first, .inl (cs 0, a_names_first_n, .inl a_names_first_f)), (a_word, .inl (cs 1, a_word_n, .inl a_word_f))]) hP hD hS hA [0, 1, 2, 3, 4, 5, 6] (by decide) rfl
      refine va_calli (va_runV (As := []) (rest := []) ⟨hx, hb, hml, hown, hg⟩ (c_MoReader_name l g cs ka a_sides a_ranks a_stop a_terms a_s a_stack a_variables a_kept a a_names a_names_text a_names_from a_names_next a_names_first a_word H.size n a_n a_at a_behind a_token a_open a_number a_letters a_top a_place a_variabled a_known a_rank a_names_size a_names_texted a_names_text_n a_names_text_f a_names_from_n a_names_from_f a_names_next_n a_names_next_f a_names_first_n a_names_first_f a_word_n a_word_f r11 a_names_size_11 a_names_texted_11 a_names_text_f_11 a_names_from_f_11 a_names_next_f_11 a_names_first_f_11 hc11) (cwV (C := R_MoReader) 0 hg (gw_V wd_1245 wd_1246 wd_1247 wd_754 wd_1244) rfl rfl rfl (by decide +kernel) ⟨Nat.le_of_ble_eq_true rfl, Nat.le_of_ble_eq_true rfl⟩) ⟨gP_blind, va_recv (q0 := 0) (ci := 12) (q := (R_MoReader, F_MoReader, 22)) hK hP rfl rfl, gP_pre hPc hDc hK hgl hkn hkr hS hFc⟩ rfl rfl hl.1 rfl (lv_room (Nat.le_of_ble_eq_true rfl)) d_MoReader_variable_22 ⟨Nat.le_of_ble_eq_true rfl, Nat.le_of_ble_eq_true rfl⟩) hS (fun q _ h => hFc q h) hFc (fun r11' u t H locs ht hvm hr11 hB hz1 hk1 hS => ?_)
      subst hr11
      rw [ht] at hB
      obtain ⟨hP1, hD1⟩ := hB
      obtain ⟨hP, hD⟩ := jn_A hP hD [0, 1, 2, 3, 4, 5, 6] [7] rfl rfl (by decide) (by decide) hk1 hFc hP1 hD1
      obtain ⟨hP, hD⟩ : PD g A H [(a_variables, .inl (cs 0, a_variables_n, .inl a_variables_f)), (a, .inr (12, [.ref a_sides, .ref a_ranks, .ref a_stop, .ref a_terms, .ref a_names, .ref a_s, .int a_n, .int a_at, .int a_behind, .int a_token, .int a_open, .long a_number, .ref a_word, .int a_letters, .ref a_stack, .int a_top, .int a_place, .ref a_variables, .int a_variabled, .int a_known, .int a_rank, .ref a_kept])), (a_names, .inr (10, [.ref a_names_text, .ref a_names_from, .ref a_names_next, .ref a_names_first, .int a_names_size_11, .int a_names_texted_11])), (a_names_text, .inl (cs 1, a_names_text_n, .inl a_names_text_f_11)), (a_names_from, .inl (cs 0, a_names_from_n, .inl a_names_from_f_11)), (a_names_next, .inl (cs 0, a_names_next_n, .inl a_names_next_f_11)), (a_names_first, .inl (cs 0, a_names_first_n, .inl a_names_first_f_11)), (a_word, .inl (cs 1, a_word_n, .inl a_word_f))] := ⟨hP, hD⟩
      refine lv_istore_n hx hb d_MoReader_variable_25 rfl hl (by decide) rfl (fun ls hl => ?_)
      have hl : lv_has ls 4 [(2, .int r11), (1, .int (-1)), (0, .ref a)] := hl
      refine lv_iconst (v := 0) hx hb d_MoReader_variable_26 (by decide) ?_
      refine lv_istore_n hx hb d_MoReader_variable_27 rfl hl (by decide) rfl (fun ls hl => ?_)
      have hl : lv_has ls 4 [(3, .int 0), (2, .int r11), (1, .int (-1)), (0, .ref a)] := hl
      have J12 : ∀ (kf12 : Nat) (H : Heap) (locs : List Loc) (ls : Array Slot) (x3_12 : Int32), lv_has ls 4 [(3, .int x3_12), (2, .int r11), (1, .int (-1)), (0, .ref a)] → PD g A H [(a_variables, .inl (cs 0, a_variables_n, .inl a_variables_f)), (a, .inr (12, [.ref a_sides, .ref a_ranks, .ref a_stop, .ref a_terms, .ref a_names, .ref a_s, .int a_n, .int a_at, .int a_behind, .int a_token, .int a_open, .long a_number, .ref a_word, .int a_letters, .ref a_stack, .int a_top, .int a_place, .ref a_variables, .int a_variabled, .int a_known, .int a_rank, .ref a_kept])), (a_names, .inr (10, [.ref a_names_text, .ref a_names_from, .ref a_names_next, .ref a_names_first, .int a_names_size_11, .int a_names_texted_11])), (a_names_text, .inl (cs 1, a_names_text_n, .inl a_names_text_f_11)), (a_names_from, .inl (cs 0, a_names_from_n, .inl a_names_from_f_11)), (a_names_next, .inl (cs 0, a_names_next_n, .inl a_names_next_f_11)), (a_names_first, .inl (cs 0, a_names_first_n, .inl a_names_first_f_11)), (a_word, .inl (cs 1, a_word_n, .inl a_word_f))] → va_S A s.heap H locs → p_MoReader_variable_28_12 n a_variabled a_variables_n a_variables_f r11 a_names_size_11 a_names_texted_11 a_names_text_f_11 a_names_from_f_11 a_names_next_f_11 a_names_first_f_11 kf12 x3_12 = some (r, o_a_variabled, o_a_names_size, o_a_names_texted, o_a_names_text_f, o_a_names_from_f, o_a_names_next_f, o_a_names_first_f, o_a_variables_f) → W p l e (headSpec (.code y_MoReader_variable b_MoReader_variable 4 (some .int) :: GW) { frames := 3, cells := 0, slots := 0, locals := 68 }).room s m ([.ref a] : List Value).toArray below meth c H locs 0 0 Q (F0 m 28 ls []) := by
        intro kf12
        induction kf12 with
        | zero => intro H locs ls x3_12 hl ⟨hP, hD⟩ hS hok; rw [p_MoReader_variable_28_12] at hok; cases hok
        | succ kf12 ih12 =>
          intro H locs ls x3_12 hl ⟨hP, hD⟩ hS hok
          rw [p_MoReader_variable_28_12] at hok
          refine lv_iload_n hx hb d_MoReader_variable_28 rfl (lv_at hl 0 rfl) ?_
          refine lv_aload_n hx hb d_MoReader_variable_29 rfl (lv_at hl 3 rfl) ?_
          refine va_get (D := g) (ci := 12) (v := .int a_variabled) (C := R_MoReader) (T := F_MoReader) (N := 22) hx hb hg ul_MoReader hown hK hP 1 rfl rfl 18 (by decide) (hg _ wd_1253) (fun _ h9 => h9) rfl d_MoReader_variable_30 ?_
          refine lv_icmp_ge hx hb d_MoReader_variable_33 rfl (fun h13 => ?_) (fun h13 => ?_)
          · rw [if_pos h13] at hok
            refine lv_iload_n hx hb d_MoReader_variable_54 rfl (lv_at hl 1 rfl) ?_
            refine lv_istore_n hx hb d_MoReader_variable_55 rfl hl (by decide) rfl (fun ls hl => ?_)
            have hl : lv_has ls 4 [(1, .int r11), (3, .int x3_12), (2, .int r11), (0, .ref a)] := hl
            exact J1 _ _ _ r11 a_names_size_11 a_names_texted_11 a_names_text_f_11 a_names_from_f_11 a_names_next_f_11 a_names_first_f_11 (lv_sub hl [0, 3] rfl) (sub3 hP hD [1, 2, 3, 4, 5, 6, 7, 0] (by decide)) hS hok
          · rw [if_neg h13] at hok
            refine lv_aload_n hx hb d_MoReader_variable_36 rfl (lv_at hl 3 rfl) ?_
            refine va_get (D := g) (ci := 12) (v := .ref a_variables) (C := R_MoReader) (T := F_MoReader) (N := 22) hx hb hg ul_MoReader hown hK hP 1 rfl rfl 17 (by decide) (hg _ wd_1252) (fun _ h9 => h9) rfl d_MoReader_variable_37 ?_
            refine lv_iload_n hx hb d_MoReader_variable_40 rfl (lv_at hl 0 rfl) ?_
            obtain ⟨hi14, hok⟩ := ck_some hok
            refine va_iald hx hb hK hP 0 0 rfl rfl (ixb_in hi14) d_MoReader_variable_41 ?_
            refine lv_iload_n hx hb d_MoReader_variable_42 rfl (lv_at hl 1 rfl) ?_
            refine lv_icmp_ne hx hb d_MoReader_variable_43 rfl (fun h15 => ?_) (fun h15 => ?_)
            · rw [if_neg h15] at hok
              refine lv_iinc (k := 0) (v := x3_12 + 1) hx hb d_MoReader_variable_48 hl rfl rfl (by decide) rfl (fun ls hl => ?_)
              have hl : lv_has ls 4 [(3, .int (x3_12 + 1)), (2, .int r11), (1, .int (-1)), (0, .ref a)] := hl
              refine lv_goto hx hb d_MoReader_variable_51 rfl ?_
              exact ih12 _ _ _ (x3_12 + 1) (lv_sub hl [0, 1, 2, 3] rfl) (sub3 hP hD [0, 1, 2, 3, 4, 5, 6, 7] (by decide)) hS hok
            · rw [if_pos h15] at hok
              refine lv_iload_n hx hb d_MoReader_variable_46 rfl (lv_at hl 0 rfl) ?_
              have hq := Option.some.inj hok
              obtain ⟨hq0, hq⟩ := Prod.mk.inj hq
              obtain ⟨hq1, hq⟩ := Prod.mk.inj hq
              obtain ⟨hq2, hq⟩ := Prod.mk.inj hq
              obtain ⟨hq3, hq⟩ := Prod.mk.inj hq
              obtain ⟨hq4, hq⟩ := Prod.mk.inj hq
              obtain ⟨hq5, hq⟩ := Prod.mk.inj hq
              obtain ⟨hq6, hq⟩ := Prod.mk.inj hq
              obtain ⟨hq7, hq⟩ := Prod.mk.inj hq
              have hq8 := hq
              subst hq0
              subst hq1
              subst hq2
              subst hq3
              subst hq4
              subst hq5
              subst hq6
              subst hq7
              subst hq8
              obtain ⟨hP9, hD9⟩ := sub2 (ws' := [(a, .inr (12, [.ref a_sides, .ref a_ranks, .ref a_stop, .ref a_terms, .ref a_names, .ref a_s, .int a_n, .int a_at, .int a_behind, .int a_token, .int a_open, .long a_number, .ref a_word, .int a_letters, .ref a_stack, .int a_top, .int a_place, .ref a_variables, .int a_variabled, .int a_known, .int a_rank, .ref a_kept])), (a_names, .inr (10, [.ref a_names_text, .ref a_names_from, .ref a_names_next, .ref a_names_first, .int a_names_size_11, .int a_names_texted_11])), (a_names_text, .inl (cs 1, a_names_text_n, .inl a_names_text_f_11)), (a_names_from, .inl (cs 0, a_names_from_n, .inl a_names_from_f_11)), (a_names_next, .inl (cs 0, a_names_next_n, .inl a_names_next_f_11)), (a_names_first, .inl (cs 0, a_names_first_n, .inl a_names_first_f_11)), (a_word, .inl (cs 1, a_word_n, .inl a_word_f)), (a_variables, .inl (cs 0, a_variables_n, .inl a_variables_f))]) hP hD [1, 2, 3, 4, 5, 6, 7, 0] rfl (by decide) rfl
              rw [hQ]
              exact W.iret (v := x3_12) hx hb hr (fun t ht hW => ⟨⟨_, (), rfl, rfl, by rw [ht]; exact hP9, hD9⟩, hS.F ht⟩) hS.2.2 d_MoReader_variable_47
      exact J12 n H locs ls (0 : Int32) hl ⟨hP, hD⟩ hS hok
