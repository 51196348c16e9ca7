theorem wd_226 : ((.arrayClass .long) : Cond) ∈ GW := gw_2 25 (by decide +kernel) rfl
theorem wd_227 : ((.methodLink "UnifyBench$Terms" 3 y_Object_init) : Cond) ∈ GW := gw_1 222 (by decide +kernel) rfl
theorem wd_228 : ((.fieldLink "UnifyBench$Terms" 9 "UnifyBench$Terms" "shapes" "[I") : Cond) ∈ GW := gw_1 225 (by decide +kernel) rfl
theorem wd_229 : ((.fieldLink "UnifyBench$Terms" 13 "UnifyBench$Terms" "values" "[J") : Cond) ∈ GW := gw_1 226 (by decide +kernel) rfl
theorem wd_230 : ((.fieldLink "UnifyBench$Terms" 17 "UnifyBench$Terms" "firstParts" "[I") : Cond) ∈ GW := gw_1 227 (by decide +kernel) rfl
theorem wd_231 : ((.fieldLink "UnifyBench$Terms" 20 "UnifyBench$Terms" "nodes" "I") : Cond) ∈ GW := gw_1 228 (by decide +kernel) rfl
theorem wd_232 : ((.classLink "UnifyBench$Terms" 24 "UnifyBench$Ints") : Cond) ∈ GW := gw_1 223 (by decide +kernel) rfl
theorem wd_233 : ((.instantiable "UnifyBench$Ints" 2) : Cond) ∈ GW := gw_1 64 (by decide +kernel) rfl
theorem wd_234 : ((.initialized "UnifyBench$Ints") : Cond) ∈ GW := gw_1 4 (by decide +kernel) rfl
theorem wd_235 : ((.code y_Ints_init prog_3_method_1_code 1 none) : Cond) ∈ GW := gw_1 67 (by decide +kernel) rfl
theorem wd_236 : ((.methodLinkNest "UnifyBench$Terms" 26 y_Ints_init "UnifyBench") : Cond) ∈ NWL := nwl_in (gt_1 224 (by decide +kernel)) rfl
theorem wd_237 : ((.instanceMethod y_Ints_init) : Cond) ∈ GW := gw_1 66 (by decide +kernel) rfl
theorem wd_238 : ((.fieldLink "UnifyBench$Terms" 27 "UnifyBench$Terms" "parts" "LUnifyBench$Ints;") : Cond) ∈ GW := gw_1 229 (by decide +kernel) rfl
theorem wd_239 : ((.fieldLink "UnifyBench$Terms" 31 "UnifyBench$Terms" "variableNames" "[I") : Cond) ∈ GW := gw_1 230 (by decide +kernel) rfl
theorem wd_240 : ((.fieldLink "UnifyBench$Terms" 34 "UnifyBench$Terms" "became" "[I") : Cond) ∈ GW := gw_1 231 (by decide +kernel) rfl
theorem wd_241 : ((.fieldLink "UnifyBench$Terms" 37 "UnifyBench$Terms" "variables" "I") : Cond) ∈ GW := gw_1 232 (by decide +kernel) rfl
theorem wd_242 : ((.fieldLink "UnifyBench$Terms" 40 "UnifyBench$Terms" "variablesLack" "Z") : Cond) ∈ GW := gw_1 233 (by decide +kernel) rfl
theorem wd_243 : ((.fieldLink "UnifyBench$Terms" 44 "UnifyBench$Terms" "symbols" "I") : Cond) ∈ GW := gw_1 234 (by decide +kernel) rfl
theorem wd_244 : ((.fieldLink "UnifyBench$Terms" 47 "UnifyBench$Terms" "nodesBefore" "I") : Cond) ∈ GW := gw_1 235 (by decide +kernel) rfl
theorem wd_245 : ((.fieldLink "UnifyBench$Terms" 50 "UnifyBench$Terms" "partsBefore" "I") : Cond) ∈ GW := gw_1 236 (by decide +kernel) rfl
theorem wd_246 : ((.fieldLink "UnifyBench$Terms" 53 "UnifyBench$Terms" "variablesBefore" "I") : Cond) ∈ GW := gw_1 237 (by decide +kernel) rfl
theorem wd_247 : ((.code y_Ints_size prog_3_method_2_code 1 (some .int)) : Cond) ∈ GW := gw_1 89 (by decide +kernel) rfl
theorem wd_248 : ((.methodLink "UnifyBench$Terms" 58 y_Ints_size) : Cond) ∈ GW := gw_3 162 (by decide +kernel) rfl
theorem wd_249 : ((.instanceMethod y_Ints_size) : Cond) ∈ GW := gw_1 87 (by decide +kernel) rfl
theorem wd_250 : ((.selects "UnifyBench$Ints" y_Ints_size y_Ints_size) : Cond) ∈ GW := gw_1 88 (by decide +kernel) rfl
theorem wd_251 : ((.code y_Ints_cut prog_3_method_6_code 2 none) : Cond) ∈ GW := gw_3 7 (by decide +kernel) rfl
theorem wd_252 : ((.methodLink "UnifyBench$Terms" 62 y_Ints_cut) : Cond) ∈ GW := gw_3 4 (by decide +kernel) rfl
theorem wd_253 : ((.instanceMethod y_Ints_cut) : Cond) ∈ GW := gw_3 5 (by decide +kernel) rfl
theorem wd_254 : ((.selects "UnifyBench$Ints" y_Ints_cut y_Ints_cut) : Cond) ∈ GW := gw_3 6 (by decide +kernel) rfl
theorem wd_255 : ((.constant "UnifyBench$Terms" 66 400000) : Cond) ∈ GW := gw_5 2 (by decide +kernel) rfl
theorem wd_256 : ((.code y_Arrays_fill prog_34_method_103_code 4 none) : Cond) ∈ GW := gw_1 79 (by decide +kernel) rfl
theorem wd_257 : ((.methodLink "UnifyBench$Terms" 67 y_Arrays_fill) : Cond) ∈ GW := gw_3 8 (by decide +kernel) rfl
theorem wd_258 : ((.static y_Arrays_fill) : Cond) ∈ GW := gw_1 78 (by decide +kernel) rfl
theorem wd_259 : ((.methodLink "UnifyBench$Terms" 93 y_Arrays_copyOf_aII) : Cond) ∈ GW := gw_4 139 (by decide +kernel) rfl
theorem wd_260 : ((.code y_Arrays_copyOf_aJI prog_34_method_124_code 3 (some (.array .long))) : Cond) ∈ GW := gw_4 142 (by decide +kernel) rfl
theorem wd_261 : ((.methodLink "UnifyBench$Terms" 97 y_Arrays_copyOf_aJI) : Cond) ∈ GW := gw_4 140 (by decide +kernel) rfl
theorem wd_262 : ((.static y_Arrays_copyOf_aJI) : Cond) ∈ GW := gw_4 141 (by decide +kernel) rfl
theorem wd_263 : ((.code y_Terms_newNode prog_11_method_27_code 4 (some .int)) : Cond) ∈ GW := gw_4 138 (by decide +kernel) rfl
theorem wd_264 : ((.initialized "UnifyBench$Terms") : Cond) ∈ GW := gw_1 14 (by decide +kernel) rfl
theorem wd_265 : ((.methodLink "UnifyBench$Terms" 73 y_Terms_newNode) : Cond) ∈ GW := gw_4 135 (by decide +kernel) rfl
theorem wd_266 : ((.instanceMethod y_Terms_newNode) : Cond) ∈ GW := gw_4 137 (by decide +kernel) rfl
theorem wd_267 : (.selects R_Terms y_Terms_newNode y_Terms_newNode : Cond) ∈ GW := gw_pr 23 (by decide +kernel) rfl
theorem wd_268 : ((.code y_Ints_at prog_3_method_3_code 2 (some .int)) : Cond) ∈ GW := gw_1 97 (by decide +kernel) rfl
theorem wd_269 : ((.methodLink "UnifyBench$Terms" 77 y_Ints_at) : Cond) ∈ GW := gw_4 215 (by decide +kernel) rfl
theorem wd_270 : ((.instanceMethod y_Ints_at) : Cond) ∈ GW := gw_1 95 (by decide +kernel) rfl
theorem wd_271 : ((.selects "UnifyBench$Ints" y_Ints_at y_Ints_at) : Cond) ∈ GW := gw_1 96 (by decide +kernel) rfl
theorem wd_272 : ((.code y_Ints_push prog_3_method_4_code 2 none) : Cond) ∈ GW := gw_1 189 (by decide +kernel) rfl
theorem wd_273 : ((.methodLink "UnifyBench$Terms" 81 y_Ints_push) : Cond) ∈ GW := gw_4 216 (by decide +kernel) rfl
theorem wd_274 : ((.instanceMethod y_Ints_push) : Cond) ∈ GW := gw_1 187 (by decide +kernel) rfl
theorem wd_275 : ((.selects "UnifyBench$Ints" y_Ints_push y_Ints_push) : Cond) ∈ GW := gw_1 188 (by decide +kernel) rfl
theorem wd_276 : ((.methodLink "UnifyBench$Terms" 84 y_Math_max) : Cond) ∈ GW := gw_5 107 (by decide +kernel) rfl
theorem wd_277 : ((.code y_Ints_pop prog_3_method_5_code 1 (some .int)) : Cond) ∈ GW := gw_3 20 (by decide +kernel) rfl
theorem wd_278 : ((.methodLink "UnifyBench$Terms" 90 y_Ints_pop) : Cond) ∈ GW := gw_5 198 (by decide +kernel) rfl
theorem wd_279 : ((.instanceMethod y_Ints_pop) : Cond) ∈ GW := gw_3 18 (by decide +kernel) rfl
theorem wd_280 : ((.selects "UnifyBench$Ints" y_Ints_pop y_Ints_pop) : Cond) ∈ GW := gw_3 19 (by decide +kernel) rfl
theorem d_Arrays_copyOf_aJI_0 : decode b_Arrays_copyOf_aJI 0 = .ok (.iload_n 1, 1) := by decide +kernel
theorem d_Arrays_copyOf_aJI_1 : decode b_Arrays_copyOf_aJI 1 = .ok (.aload_n 0, 1) := by decide +kernel
theorem d_Arrays_copyOf_aJI_2 : decode b_Arrays_copyOf_aJI 2 = .ok (.arraylength, 1) := by decide +kernel
theorem d_Arrays_copyOf_aJI_3 : decode b_Arrays_copyOf_aJI 3 = .ok (.if_icmp .ne 11, 3) := by decide +kernel
theorem d_Arrays_copyOf_aJI_14 : decode b_Arrays_copyOf_aJI 14 = .ok (.iload_n 1, 1) := by decide +kernel
theorem d_Arrays_copyOf_aJI_15 : decode b_Arrays_copyOf_aJI 15 = .ok (.newarray .long, 2) := by decide +kernel
theorem d_Arrays_copyOf_aJI_17 : decode b_Arrays_copyOf_aJI 17 = .ok (.astore_n 2, 1) := by decide +kernel
theorem d_Arrays_copyOf_aJI_18 : decode b_Arrays_copyOf_aJI 18 = .ok (.aload_n 0, 1) := by decide +kernel
theorem d_Arrays_copyOf_aJI_19 : decode b_Arrays_copyOf_aJI 19 = .ok (.iconst 0, 1) := by decide +kernel
theorem d_Arrays_copyOf_aJI_20 : decode b_Arrays_copyOf_aJI 20 = .ok (.aload_n 2, 1) := by decide +kernel
theorem d_Arrays_copyOf_aJI_21 : decode b_Arrays_copyOf_aJI 21 = .ok (.iconst 0, 1) := by decide +kernel
theorem d_Arrays_copyOf_aJI_22 : decode b_Arrays_copyOf_aJI 22 = .ok (.aload_n 0, 1) := by decide +kernel
theorem d_Arrays_copyOf_aJI_23 : decode b_Arrays_copyOf_aJI 23 = .ok (.arraylength, 1) := by decide +kernel
theorem d_Arrays_copyOf_aJI_24 : decode b_Arrays_copyOf_aJI 24 = .ok (.iload_n 1, 1) := by decide +kernel
theorem d_Arrays_copyOf_aJI_25 : decode b_Arrays_copyOf_aJI 25 = .ok (.invokestatic 304, 3) := by decide +kernel
theorem d_Arrays_copyOf_aJI_28 : decode b_Arrays_copyOf_aJI 28 = .ok (.invokestatic 150, 3) := by decide +kernel
theorem d_Arrays_copyOf_aJI_31 : decode b_Arrays_copyOf_aJI 31 = .ok (.aload_n 2, 1) := by decide +kernel
theorem d_Arrays_copyOf_aJI_32 : decode b_Arrays_copyOf_aJI 32 = .ok (.areturn, 1) := by decide +kernel
def p_Arrays_copyOf_aJI (v : Int32) (b_n : Nat) (b_f : Nat → Int64) : Option ((Nat × (Nat → Int64)) × Nat × Nat) := if v = (Int32.ofNat b_n) then (none) else (ck (nab v 8) (al 1 v.toNatClampNeg (ck (cpb (0 : Int32) (0 : Int32) (if v < (Int32.ofNat b_n) then v else (Int32.ofNat b_n)) b_n v.toNatClampNeg) (some ((v.toNatClampNeg, va_cpy b_f (fun _ => 0) (0 : Int32).toNatClampNeg (0 : Int32).toNatClampNeg (if v < (Int32.ofNat b_n) then v else (Int32.ofNat b_n)).toNatClampNeg), 0, 0)))))
set_option maxHeartbeats 4000000 in
set_option maxRecDepth 100000 in
theorem c_Arrays_copyOf_aJI (l : Launch) (g : va_G) (cs : Nat → ClassId) (ka : Nat → Nat) (b : Nat) (sz : Nat) (v : Int32) (b_n : Nat) (b_f : Nat → Int64) (o_ret_n : Nat) (o_ret_f : Nat → Int64) (mc ms : Nat) (hok : p_Arrays_copyOf_aJI v b_n b_f = some ((o_ret_n, o_ret_f), mc, ms)) : Met l y_Arrays_copyOf_aJI (.code y_Arrays_copyOf_aJI b_Arrays_copyOf_aJI 3 (some (.array .long)) :: GW) { frames := 1, cells := mc, slots := ms, locals := 100 } (va_Pc [.ref b, .int v] (gP g cs ka [(b, .inl (cs 2, b_n, .inr (.inl b_f)))] sz)) (va_Qr (fun _ : Unit => True) (fun _ ra t => ∃ b_ret : Nat, b_ret = ra ∧ va_P g classes [(b, .inl (cs 2, b_n, .inr (.inl b_f))), (b_ret, .inl (cs 2, o_ret_n, .inr (.inl o_ret_f)))] t.heap ∧ va_D (va_A [(b, .inl (cs 2, b_n, .inr (.inl b_f)))] sz) [(b, .inl (cs 2, b_n, .inr (.inl b_f))), (b_ret, .inl (cs 2, o_ret_n, .inr (.inl o_ret_f)))]) (va_A [(b, .inl (cs 2, b_n, .inr (.inl b_f)))] sz)) mc ms (va_A [(b, .inl (cs 2, b_n, .inr (.inl b_f)))] sz) := by
  refine Met.ofW (cc := b_Arrays_copyOf_aJI) (maxL := 3) (ret := (some (.array .long))) (by decide) rfl ?_
  intro p e s m args below meth c s₁ B hml hv
  obtain ⟨rfl, hsz, hP, hK, hD0, hgl, hkn, hkr⟩ := hv
  have hx := B.exec
  have hb := B.bytes
  have hr := B.returns
  have hg : ∀ w ∈ GW, w.before ([.ref b, .int v] : List Value).toArray s = true := fun w hw => atoms_spec (ws := .code y_Arrays_copyOf_aJI b_Arrays_copyOf_aJI 3 (some (.array .long)) :: GW) B.pre w (List.mem_cons_of_mem _ hw)
  have hown : s.vm.findClass R_Arrays = some m.cls := findClass_of_methodNamed B.named
  have hlocks := B.notSynchronized
  subst hsz
  have hD := hD0.self (sz := s.heap.size)
  generalize hAe : va_A [(b, .inl (cs 2, b_n, .inr (.inl b_f)))] s.heap.size = A at hD hkn ⊢
  have hA : ∀ q : Nat, s.heap.size ≤ q → A q := fun q h => by rw [← hAe]; exact Or.inr h
  have hS : va_S A s.heap s.heap [] := va_S.rf
  have hP : va_P g classes [(b, .inl (cs 2, b_n, .inr (.inl b_f)))] s.heap := hP
  have hl := lv_entry ([.ref b, .int v]) (n := 3) (Nat.le_of_ble_eq_true rfl)
  rw [lg_entry_eq]
  generalize (lg_sl ([.ref b, .int v]) ++ List.replicate (3 - (lg_sl ([.ref b, .int v])).length) Slot.unset).toArray = ls at hl ⊢
  have hl : lv_has ls 3 [(0, .ref b), (1, .int v)] := hl
  refine gq (fun Q hQ => ?_)
  obtain ⟨H, hH⟩ : ∃ H : Heap, H = s.heap := ⟨_, rfl⟩
  rw [← hH] at hP
  have hS : va_S A s.heap H [] := by rw [hH]; exact hS
  refine W.eqH hH ?_
  obtain ⟨locs, hlc⟩ : ∃ L : List Loc, L = [] := ⟨_, rfl⟩
  rw [← hlc] at hS ⊢
  unfold p_Arrays_copyOf_aJI at hok
  refine lv_iload_n hx hb d_Arrays_copyOf_aJI_0 rfl (lv_at hl 1 rfl) ?_
  refine lv_aload_n hx hb d_Arrays_copyOf_aJI_1 rfl (lv_at hl 0 rfl) ?_
  refine va_alen (v := Int32.ofNat b_n) hx hb hK hP 0 2 rfl rfl rfl d_Arrays_copyOf_aJI_2 ?_
  refine lv_icmp_ne hx hb d_Arrays_copyOf_aJI_3 rfl (fun h1 => ?_) (fun h1 => ?_)
  · rw [if_neg h1] at hok
    refine lv_iload_n hx hb d_Arrays_copyOf_aJI_14 rfl (lv_at hl 1 rfl) ?_
    obtain ⟨hi2, hok⟩ := ck_some hok
    obtain ⟨m2, s2, hok, hmc2, hms2⟩ := al_some hok
    refine g_newJ hx hb (hg _ wd_226) hK hP hD hS hA (v.toNatClampNeg) (nab_in hi2).1 rfl (nab_in hi2).2 (show 0 + 1 ≤ mc from by omega) (show 0 + v.toNatClampNeg ≤ ms from by omega) d_Arrays_copyOf_aJI_15 (fun q2 H hP hD hS => ?_)
    obtain ⟨hP, hD⟩ : PD g A H [(b, .inl (cs 2, b_n, .inr (.inl b_f))), (q2, .inl (cs 2, v.toNatClampNeg, .inr (.inl (fun _ => 0))))] := ⟨hP, hD⟩
    refine lv_astore_n hx hb d_Arrays_copyOf_aJI_17 rfl hl (by decide) rfl (fun ls hl => ?_)
    have hl : lv_has ls 3 [(2, .ref q2), (0, .ref b), (1, .int v)] := hl
    refine lv_aload_n hx hb d_Arrays_copyOf_aJI_18 rfl (lv_at hl 1 rfl) ?_
    refine lv_iconst (v := 0) hx hb d_Arrays_copyOf_aJI_19 (by decide) ?_
    refine lv_aload_n hx hb d_Arrays_copyOf_aJI_20 rfl (lv_at hl 0 rfl) ?_
    refine lv_iconst (v := 0) hx hb d_Arrays_copyOf_aJI_21 (by decide) ?_
    refine lv_aload_n hx hb d_Arrays_copyOf_aJI_22 rfl (lv_at hl 1 rfl) ?_
    refine va_alen (v := Int32.ofNat b_n) hx hb hK hP 0 2 rfl rfl rfl d_Arrays_copyOf_aJI_23 ?_
    refine lv_iload_n hx hb d_Arrays_copyOf_aJI_24 rfl (lv_at hl 2 rfl) ?_
    refine va_mmin hx hb (hml.trans hl.1.symm) hown (hg _ wd_143) (hg _ wd_144) (hg _ wd_145) (hg _ wd_146) (Nat.le_of_ble_eq_true rfl) (Nat.le_of_ble_eq_true rfl) (show 0 + 1 ≤ mc from by omega) (show 0 + v.toNatClampNeg ≤ ms from by omega) d_Arrays_copyOf_aJI_25 ?_
    obtain ⟨hi3, hok⟩ := ck_some hok
    obtain ⟨ha3, hb3, hc3, hd3, he3⟩ := cpb_in hi3
    refine va_copyl hx hb (hml.trans hl.1.symm) hown (hg _ wd_147) (hg _ wd_148) (hg _ wd_149) (hg _ wd_150) hK hP hD hS 0 1 2 2 rfl rfl rfl rfl rfl ha3 hb3 hc3 hd3 he3 (fun _ _ => rfl) (Nat.le_of_ble_eq_true rfl) (Nat.le_of_ble_eq_true rfl) d_Arrays_copyOf_aJI_28 (fun H locs hP hD hS => ?_)
    obtain ⟨hP, hD⟩ : PD g A H [(b, .inl (cs 2, b_n, .inr (.inl b_f))), (q2, .inl (cs 2, v.toNatClampNeg, .inr (.inl (va_cpy b_f (fun _ => 0) (0 : Int32).toNatClampNeg (0 : Int32).toNatClampNeg (if v < (Int32.ofNat b_n) then v else (Int32.ofNat b_n)).toNatClampNeg))))] := ⟨hP, hD⟩
    refine lv_aload_n hx hb d_Arrays_copyOf_aJI_31 rfl (lv_at hl 0 rfl) ?_
    obtain ⟨hq, hw⟩ := Prod.mk.inj (Option.some.inj hok)
    obtain ⟨hmc0, hms0⟩ := Prod.mk.inj hw
    obtain ⟨hq0, hq⟩ := Prod.mk.inj hq
    have hq1 := hq
    subst hq0
    subst hq1
    obtain ⟨hP9, hD9⟩ := sub2 (ws' := [(b, .inl (cs 2, b_n, .inr (.inl b_f))), (q2, .inl (cs 2, v.toNatClampNeg, .inr (.inl (va_cpy b_f (fun _ => 0) (0 : Int32).toNatClampNeg (0 : Int32).toNatClampNeg (if v < (Int32.ofNat b_n) then v else (Int32.ofNat b_n)).toNatClampNeg))))]) hP hD [0, 1] rfl (by decide) rfl
    refine W.widen (k := mc) (n := ms) (by omega) (by omega) ?_
    rw [hQ]
    exact W.aret (v := .ref q2) hx hb hr (Or.inr ⟨_, rfl⟩) (Or.inr ⟨_, rfl⟩) (fun t ht hW => ⟨⟨(), _, rfl, trivial, q2, rfl, by rw [ht]; exact hP9, hD9⟩, hS.F ht⟩) hS.2.2 d_Arrays_copyOf_aJI_32
  · rw [if_pos h1] at hok
    cases hok

theorem d_Terms_init_0 : decode b_Terms_init 0 = .ok (.aload_n 0, 1) := by decide +kernel
theorem d_Terms_init_1 : decode b_Terms_init 1 = .ok (.invokespecial 3, 3) := by decide +kernel
theorem d_Terms_init_4 : decode b_Terms_init 4 = .ok (.aload_n 0, 1) := by decide +kernel
theorem d_Terms_init_5 : decode b_Terms_init 5 = .ok (.sipush 400, 3) := by decide +kernel
theorem d_Terms_init_8 : decode b_Terms_init 8 = .ok (.newarray .int, 2) := by decide +kernel
theorem d_Terms_init_10 : decode b_Terms_init 10 = .ok (.putfield 9, 3) := by decide +kernel
theorem d_Terms_init_13 : decode b_Terms_init 13 = .ok (.aload_n 0, 1) := by decide +kernel
theorem d_Terms_init_14 : decode b_Terms_init 14 = .ok (.sipush 400, 3) := by decide +kernel
theorem d_Terms_init_17 : decode b_Terms_init 17 = .ok (.newarray .long, 2) := by decide +kernel
theorem d_Terms_init_19 : decode b_Terms_init 19 = .ok (.putfield 13, 3) := by decide +kernel
theorem d_Terms_init_22 : decode b_Terms_init 22 = .ok (.aload_n 0, 1) := by decide +kernel
theorem d_Terms_init_23 : decode b_Terms_init 23 = .ok (.sipush 400, 3) := by decide +kernel
theorem d_Terms_init_26 : decode b_Terms_init 26 = .ok (.newarray .int, 2) := by decide +kernel
theorem d_Terms_init_28 : decode b_Terms_init 28 = .ok (.putfield 17, 3) := by decide +kernel
theorem d_Terms_init_31 : decode b_Terms_init 31 = .ok (.aload_n 0, 1) := by decide +kernel
theorem d_Terms_init_32 : decode b_Terms_init 32 = .ok (.sipush 201, 3) := by decide +kernel
theorem d_Terms_init_35 : decode b_Terms_init 35 = .ok (.putfield 20, 3) := by decide +kernel
theorem d_Terms_init_38 : decode b_Terms_init 38 = .ok (.aload_n 0, 1) := by decide +kernel
theorem d_Terms_init_39 : decode b_Terms_init 39 = .ok (.new 24, 3) := by decide +kernel
theorem d_Terms_init_42 : decode b_Terms_init 42 = .ok (.dup, 1) := by decide +kernel
theorem d_Terms_init_43 : decode b_Terms_init 43 = .ok (.invokespecial 26, 3) := by decide +kernel
theorem d_Terms_init_46 : decode b_Terms_init 46 = .ok (.putfield 27, 3) := by decide +kernel
theorem d_Terms_init_49 : decode b_Terms_init 49 = .ok (.aload_n 0, 1) := by decide +kernel
theorem d_Terms_init_50 : decode b_Terms_init 50 = .ok (.sipush 200, 3) := by decide +kernel
theorem d_Terms_init_53 : decode b_Terms_init 53 = .ok (.newarray .int, 2) := by decide +kernel
theorem d_Terms_init_55 : decode b_Terms_init 55 = .ok (.putfield 31, 3) := by decide +kernel
theorem d_Terms_init_58 : decode b_Terms_init 58 = .ok (.aload_n 0, 1) := by decide +kernel
theorem d_Terms_init_59 : decode b_Terms_init 59 = .ok (.sipush 200, 3) := by decide +kernel
theorem d_Terms_init_62 : decode b_Terms_init 62 = .ok (.newarray .int, 2) := by decide +kernel
theorem d_Terms_init_64 : decode b_Terms_init 64 = .ok (.putfield 34, 3) := by decide +kernel
theorem d_Terms_init_67 : decode b_Terms_init 67 = .ok (.aload_n 0, 1) := by decide +kernel
theorem d_Terms_init_68 : decode b_Terms_init 68 = .ok (.iconst 0, 1) := by decide +kernel
theorem d_Terms_init_69 : decode b_Terms_init 69 = .ok (.putfield 37, 3) := by decide +kernel
theorem d_Terms_init_72 : decode b_Terms_init 72 = .ok (.aload_n 0, 1) := by decide +kernel
theorem d_Terms_init_73 : decode b_Terms_init 73 = .ok (.iconst 0, 1) := by decide +kernel
theorem d_Terms_init_74 : decode b_Terms_init 74 = .ok (.putfield 40, 3) := by decide +kernel
theorem d_Terms_init_77 : decode b_Terms_init 77 = .ok (.aload_n 0, 1) := by decide +kernel
theorem d_Terms_init_78 : decode b_Terms_init 78 = .ok (.iconst 0, 1) := by decide +kernel
theorem d_Terms_init_79 : decode b_Terms_init 79 = .ok (.putfield 44, 3) := by decide +kernel
theorem d_Terms_init_82 : decode b_Terms_init 82 = .ok (.aload_n 0, 1) := by decide +kernel
theorem d_Terms_init_83 : decode b_Terms_init 83 = .ok (.sipush 201, 3) := by decide +kernel
theorem d_Terms_init_86 : decode b_Terms_init 86 = .ok (.putfield 47, 3) := by decide +kernel
theorem d_Terms_init_89 : decode b_Terms_init 89 = .ok (.aload_n 0, 1) := by decide +kernel
theorem d_Terms_init_90 : decode b_Terms_init 90 = .ok (.iconst 0, 1) := by decide +kernel
theorem d_Terms_init_91 : decode b_Terms_init 91 = .ok (.putfield 50, 3) := by decide +kernel
theorem d_Terms_init_94 : decode b_Terms_init 94 = .ok (.aload_n 0, 1) := by decide +kernel
theorem d_Terms_init_95 : decode b_Terms_init 95 = .ok (.iconst 0, 1) := by decide +kernel
theorem d_Terms_init_96 : decode b_Terms_init 96 = .ok (.putfield 53, 3) := by decide +kernel
theorem d_Terms_init_99 : decode b_Terms_init 99 = .ok (.iconst 0, 1) := by decide +kernel
theorem d_Terms_init_100 : decode b_Terms_init 100 = .ok (.istore_n 1, 1) := by decide +kernel
theorem d_Terms_init_101 : decode b_Terms_init 101 = .ok (.iload_n 1, 1) := by decide +kernel
theorem d_Terms_init_102 : decode b_Terms_init 102 = .ok (.sipush 200, 3) := by decide +kernel
theorem d_Terms_init_105 : decode b_Terms_init 105 = .ok (.if_icmp .ge 24, 3) := by decide +kernel
theorem d_Terms_init_108 : decode b_Terms_init 108 = .ok (.aload_n 0, 1) := by decide +kernel
theorem d_Terms_init_109 : decode b_Terms_init 109 = .ok (.getfield 9, 3) := by decide +kernel
theorem d_Terms_init_112 : decode b_Terms_init 112 = .ok (.iload_n 1, 1) := by decide +kernel
theorem d_Terms_init_113 : decode b_Terms_init 113 = .ok (.bipush (-2), 2) := by decide +kernel
theorem d_Terms_init_115 : decode b_Terms_init 115 = .ok (.iastore, 1) := by decide +kernel
theorem d_Terms_init_116 : decode b_Terms_init 116 = .ok (.aload_n 0, 1) := by decide +kernel
theorem d_Terms_init_117 : decode b_Terms_init 117 = .ok (.getfield 34, 3) := by decide +kernel
theorem d_Terms_init_120 : decode b_Terms_init 120 = .ok (.iload_n 1, 1) := by decide +kernel
theorem d_Terms_init_121 : decode b_Terms_init 121 = .ok (.iconst (-1), 1) := by decide +kernel
theorem d_Terms_init_122 : decode b_Terms_init 122 = .ok (.iastore, 1) := by decide +kernel
theorem d_Terms_init_123 : decode b_Terms_init 123 = .ok (.iinc 1 1, 3) := by decide +kernel
theorem d_Terms_init_126 : decode b_Terms_init 126 = .ok (.goto (-25), 3) := by decide +kernel
theorem d_Terms_init_129 : decode b_Terms_init 129 = .ok (.aload_n 0, 1) := by decide +kernel
theorem d_Terms_init_130 : decode b_Terms_init 130 = .ok (.getfield 9, 3) := by decide +kernel
theorem d_Terms_init_133 : decode b_Terms_init 133 = .ok (.sipush 200, 3) := by decide +kernel
theorem d_Terms_init_136 : decode b_Terms_init 136 = .ok (.iconst 0, 1) := by decide +kernel
theorem d_Terms_init_137 : decode b_Terms_init 137 = .ok (.iastore, 1) := by decide +kernel
theorem d_Terms_init_138 : decode b_Terms_init 138 = .ok (.aload_n 0, 1) := by decide +kernel
theorem d_Terms_init_139 : decode b_Terms_init 139 = .ok (.getfield 13, 3) := by decide +kernel
theorem d_Terms_init_142 : decode b_Terms_init 142 = .ok (.sipush 200, 3) := by decide +kernel
theorem d_Terms_init_145 : decode b_Terms_init 145 = .ok (.lconst 0, 1) := by decide +kernel
theorem d_Terms_init_146 : decode b_Terms_init 146 = .ok (.lastore, 1) := by decide +kernel
theorem d_Terms_init_147 : decode b_Terms_init 147 = .ok (.return_, 1) := by decide +kernel
def p_Terms_init_101 (n : Nat) (a_size_5 : Int32) (a_items_n_5 : Nat) (a_items_f_5 : Nat → Int32) (kf8 : Nat) (x1_8 : Int32) (new1_8f : Nat → Int32) (new7_8f : Nat → Int32) : Option ((Int32 × Int32 × Int32 × Int32 × Int32 × Int32 × Int32 × Nat × (Nat → Int32) × Nat × (Nat → Int64) × Nat × (Nat → Int32) × Int32 × Nat × (Nat → Int32) × Nat × (Nat → Int32) × Nat × (Nat → Int32)) × Nat × Nat) := match kf8 with
  | 0 => none
  | kf8 + 1 => if 200 ≤ x1_8 then (ck (ixb 200 400) (ck (ixb 200 400) (some (((201 : Int32), (0 : Int32), (0 : Int32), (0 : Int32), (201 : Int32), (0 : Int32), (0 : Int32), 400, upd new1_8f (200 : Int32).toNatClampNeg 0, 400, vp_updL (fun _ => 0) (200 : Int32).toNatClampNeg 0, 400, (fun _ => 0 : Nat → Int32), a_size_5, a_items_n_5, a_items_f_5, 200, (fun _ => 0 : Nat → Int32), 200, new7_8f), 0, 0)))) else (ck (ixb x1_8 400) (ck (ixb x1_8 200) (p_Terms_init_101 n a_size_5 a_items_n_5 a_items_f_5 kf8 (x1_8 + 1) (upd new1_8f x1_8.toNatClampNeg (-2)) (upd new7_8f x1_8.toNatClampNeg (-1)))))
def p_Terms_init (n : Nat) : Option ((Int32 × Int32 × Int32 × Int32 × Int32 × Int32 × Int32 × Nat × (Nat → Int32) × Nat × (Nat → Int64) × Nat × (Nat → Int32) × Int32 × Nat × (Nat → Int32) × Nat × (Nat → Int32) × Nat × (Nat → Int32)) × Nat × Nat) := al 1 400 (al 1 400 (al 1 400 (al 1 2 ((p_Ints_init).bind (fun ((a_size_5, a_items_n_5, a_items_f_5), mk5, sk5) => al mk5 sk5 (al 1 200 (al 1 200 (p_Terms_init_101 n a_size_5 a_items_n_5 a_items_f_5 n (0 : Int32) (fun _ => 0 : Nat → Int32) (fun _ => 0 : Nat → Int32)))))))))
set_option maxHeartbeats 4000000 in
set_option maxRecDepth 100000 in
theorem c_Terms_init (l : Launch) (g : va_G) (cs : Nat → ClassId) (ka : Nat → Nat) (a : Nat) (sz : Nat) (n : Nat) (o_a_nodes : Int32) (o_a_variables : Int32) (o_a_variablesLack : Int32) (o_a_symbols : Int32) (o_a_nodesBefore : Int32) (o_a_partsBefore : Int32) (o_a_variablesBefore : Int32) (o_a_shapes_n : Nat) (o_a_shapes_f : Nat → Int32) (o_a_values_n : Nat) (o_a_values_f : Nat → Int64) (o_a_firstParts_n : Nat) (o_a_firstParts_f : Nat → Int32) (o_a_parts_size : Int32) (o_a_parts_items_n : Nat) (o_a_parts_items_f : Nat → Int32) (o_a_variableNames_n : Nat) (o_a_variableNames_f : Nat → Int32) (o_a_became_n : Nat) (o_a_became_f : Nat → Int32) (mc ms : Nat) (hok : p_Terms_init n = some ((o_a_nodes, o_a_variables, o_a_variablesLack, o_a_symbols, o_a_nodesBefore, o_a_partsBefore, o_a_variablesBefore, o_a_shapes_n, o_a_shapes_f, o_a_values_n, o_a_values_f, o_a_firstParts_n, o_a_firstParts_f, o_a_parts_size, o_a_parts_items_n, o_a_parts_items_f, o_a_variableNames_n, o_a_variableNames_f, o_a_became_n, o_a_became_f), mc, ms)) : Met l y_Terms_init (.code y_Terms_init b_Terms_init 2 none :: GW) { frames := 2, cells := mc, slots := ms, locals := 32 } (va_Pc [.ref a] (gP g cs ka [(a, .inr (7, [.null, .null, .null, .int 0, .null, .null, .null, .int 0, .int 0, .int 0, .int 0, .int 0, .int 0]))] sz)) (va_Qv (fun _ : Unit => True) (fun _ t => ∃ b_a_shapes b_a_values b_a_firstParts b_a_parts b_a_parts_items b_a_variableNames b_a_became : Nat, va_P g classes [(a, .inr (7, [.ref b_a_shapes, .ref b_a_values, .ref b_a_firstParts, .int o_a_nodes, .ref b_a_parts, .ref b_a_variableNames, .ref b_a_became, .int o_a_variables, .int o_a_variablesLack, .int o_a_symbols, .int o_a_nodesBefore, .int o_a_partsBefore, .int o_a_variablesBefore])), (b_a_shapes, .inl (cs 0, o_a_shapes_n, .inl o_a_shapes_f)), (b_a_values, .inl (cs 2, o_a_values_n, .inr (.inl o_a_values_f))), (b_a_firstParts, .inl (cs 0, o_a_firstParts_n, .inl o_a_firstParts_f)), (b_a_parts, .inr (1, [.ref b_a_parts_items, .int o_a_parts_size])), (b_a_parts_items, .inl (cs 0, o_a_parts_items_n, .inl o_a_parts_items_f)), (b_a_variableNames, .inl (cs 0, o_a_variableNames_n, .inl o_a_variableNames_f)), (b_a_became, .inl (cs 0, o_a_became_n, .inl o_a_became_f))] t.heap ∧ va_D (va_A [(a, .inr (7, [.null, .null, .null, .int 0, .null, .null, .null, .int 0, .int 0, .int 0, .int 0, .int 0, .int 0]))] sz) [(a, .inr (7, [.ref b_a_shapes, .ref b_a_values, .ref b_a_firstParts, .int o_a_nodes, .ref b_a_parts, .ref b_a_variableNames, .ref b_a_became, .int o_a_variables, .int o_a_variablesLack, .int o_a_symbols, .int o_a_nodesBefore, .int o_a_partsBefore, .int o_a_variablesBefore])), (b_a_shapes, .inl (cs 0, o_a_shapes_n, .inl o_a_shapes_f)), (b_a_values, .inl (cs 2, o_a_values_n, .inr (.inl o_a_values_f))), (b_a_firstParts, .inl (cs 0, o_a_firstParts_n, .inl o_a_firstParts_f)), (b_a_parts, .inr (1, [.ref b_a_parts_items, .int o_a_parts_size])), (b_a_parts_items, .inl (cs 0, o_a_parts_items_n, .inl o_a_parts_items_f)), (b_a_variableNames, .inl (cs 0, o_a_variableNames_n, .inl o_a_variableNames_f)), (b_a_became, .inl (cs 0, o_a_became_n, .inl o_a_became_f))]) (va_A [(a, .inr (7, [.null, .null, .null, .int 0, .null, .null, .null, .int 0, .int 0, .int 0, .int 0, .int 0, .int 0]))] sz)) mc ms (va_A [(a, .inr (7, [.null, .null, .null, .int 0, .null, .null, .null, .int 0, .int 0, .int 0, .int 0, .int 0, .int 0]))] sz) := by
  refine Met.ofW (cc := b_Terms_init) (maxL := 2) (ret := none) (by decide) rfl ?_
  intro p e s m args below meth c s₁ B hml hv
  obtain ⟨rfl, hsz, hP, hK, hD0, hgl, hkn, hkr⟩ := hv
  have hx := B.exec
  have hb := B.bytes
  have hr := B.returns
  have hg : ∀ w ∈ GW, w.before ([.ref a] : List Value).toArray s = true := fun w hw => atoms_spec (ws := .code y_Terms_init b_Terms_init 2 none :: GW) B.pre w (List.mem_cons_of_mem _ hw)
  have hown : s.vm.findClass R_Terms = some m.cls := findClass_of_methodNamed B.named
  have hlocks := B.notSynchronized
  have hin : meth.name = "<init>" := (name_of_methodNamed B.named B.method).1
  subst hsz
  have hD := hD0.self (sz := s.heap.size)
  generalize hAe : va_A [(a, .inr (7, [.null, .null, .null, .int 0, .null, .null, .null, .int 0, .int 0, .int 0, .int 0, .int 0, .int 0]))] s.heap.size = A at hD hkn ⊢
  have hA : ∀ q : Nat, s.heap.size ≤ q → A q := fun q h => by rw [← hAe]; exact Or.inr h
  have hS : va_S A s.heap s.heap [] := va_S.rf
  have hP : va_P g classes [(a, .inr (7, [.null, .null, .null, .int 0, .null, .null, .null, .int 0, .int 0, .int 0, .int 0, .int 0, .int 0]))] s.heap := hP
  have hl := lv_entry ([.ref a]) (n := 2) (Nat.le_of_ble_eq_true rfl)
  rw [lg_entry_eq]
  generalize (lg_sl ([.ref a]) ++ List.replicate (2 - (lg_sl ([.ref a])).length) Slot.unset).toArray = ls at hl ⊢
  have hl : lv_has ls 2 [(0, .ref a)] := hl
  refine gq (fun Q hQ => ?_)
  obtain ⟨H, hH⟩ : ∃ H : Heap, H = s.heap := ⟨_, rfl⟩
  rw [← hH] at hP
  have hS : va_S A s.heap H [] := by rw [hH]; exact hS
  refine W.eqH hH ?_
  obtain ⟨locs, hlc⟩ : ∃ L : List Loc, L = [] := ⟨_, rfl⟩
  rw [← hlc] at hS ⊢
  unfold p_Terms_init at hok
  refine lv_aload_n hx hb d_Terms_init_0 rfl (lv_at hl 0 rfl) ?_
  refine W.objInit hx hb hown (hg _ wd_227) (hg _ wd_158) (hg _ wd_159) rfl (by rw [hml]; exact hl.1) rfl d_Terms_init_1 (Nat.le_of_ble_eq_true rfl) (Nat.le_of_ble_eq_true rfl) ?_
  refine W.eq (g2 := F0 m 4 ls []) rfl ?_
  refine lv_aload_n hx hb d_Terms_init_4 rfl (lv_at hl 0 rfl) ?_
  refine lv_sipush (v := 400) hx hb d_Terms_init_5 (by decide) ?_
  obtain ⟨m1, s1, hok, hmc1, hms1⟩ := al_some hok
  refine g_newI hx hb (hg _ wd_142) hK hP hD hS hA (400) (by decide) (by decide) (by decide) (show 0 + 1 ≤ mc from by omega) (show 0 + 400 ≤ ms from by omega) d_Terms_init_8 (fun q1 H hP hD hS => ?_)
  obtain ⟨hP, hD⟩ : PD g A H [(a, .inr (7, [.null, .null, .null, .int 0, .null, .null, .null, .int 0, .int 0, .int 0, .int 0, .int 0, .int 0])), (q1, .inl (cs 0, 400, .inl (fun _ => 0)))] := ⟨hP, hD⟩
  refine va_put (D := g) (ci := 7) (v := .ref q1) (ty := .array .int) (C := R_Terms) (T := F_Terms) (N := 13) hx hb hg ul_Terms t_Terms tk_Terms n_Terms hown hK hP hD hS 0 rfl rfl 0 (by decide) (hg _ wd_228) (fun _ h9 => h9) rfl (by decide +kernel) rfl rfl (Nat.le_of_ble_eq_true rfl) d_Terms_init_10 (fun H locs hP hD hS => ?_)
  obtain ⟨hP, hD⟩ : PD g A H [(a, .inr (7, [.ref q1, .null, .null, .int 0, .null, .null, .null, .int 0, .int 0, .int 0, .int 0, .int 0, .int 0])), (q1, .inl (cs 0, 400, .inl (fun _ => 0)))] := ⟨hP, hD⟩
  refine lv_aload_n hx hb d_Terms_init_13 rfl (lv_at hl 0 rfl) ?_
  refine lv_sipush (v := 400) hx hb d_Terms_init_14 (by decide) ?_
  obtain ⟨m2, s2, hok, hmc2, hms2⟩ := al_some hok
  refine g_newJ hx hb (hg _ wd_226) hK hP hD hS hA (400) (by decide) (by decide) (by decide) (show 0 + 1 + 1 ≤ mc from by omega) (show 0 + 400 + 400 ≤ ms from by omega) d_Terms_init_17 (fun q2 H hP hD hS => ?_)
  obtain ⟨hP, hD⟩ : PD g A H [(a, .inr (7, [.ref q1, .null, .null, .int 0, .null, .null, .null, .int 0, .int 0, .int 0, .int 0, .int 0, .int 0])), (q1, .inl (cs 0, 400, .inl (fun _ => 0))), (q2, .inl (cs 2, 400, .inr (.inl (fun _ => 0))))] := ⟨hP, hD⟩
  refine va_put (D := g) (ci := 7) (v := .ref q2) (ty := .array .long) (C := R_Terms) (T := F_Terms) (N := 13) hx hb hg ul_Terms t_Terms tk_Terms n_Terms hown hK hP hD hS 0 rfl rfl 1 (by decide) (hg _ wd_229) (fun _ h9 => h9) rfl (by decide +kernel) rfl rfl (Nat.le_of_ble_eq_true rfl) d_Terms_init_19 (fun H locs hP hD hS => ?_)
  obtain ⟨hP, hD⟩ : PD g A H [(a, .inr (7, [.ref q1, .ref q2, .null, .int 0, .null, .null, .null, .int 0, .int 0, .int 0, .int 0, .int 0, .int 0])), (q1, .inl (cs 0, 400, .inl (fun _ => 0))), (q2, .inl (cs 2, 400, .inr (.inl (fun _ => 0))))] := ⟨hP, hD⟩
  refine lv_aload_n hx hb d_Terms_init_22 rfl (lv_at hl 0 rfl) ?_
  refine lv_sipush (v := 400) hx hb d_Terms_init_23 (by decide) ?_
  obtain ⟨m3, s3, hok, hmc3, hms3⟩ := al_some hok
  refine g_newI hx hb (hg _ wd_142) hK hP hD hS hA (400) (by decide) (by decide) (by decide) (show 0 + 1 + 1 + 1 ≤ mc from by omega) (show 0 + 400 + 400 + 400 ≤ ms from by omega) d_Terms_init_26 (fun q3 H hP hD hS => ?_)
  obtain ⟨hP, hD⟩ : PD g A H [(a, .inr (7, [.ref q1, .ref q2, .null, .int 0, .null, .null, .null, .int 0, .int 0, .int 0, .int 0, .int 0, .int 0])), (q1, .inl (cs 0, 400, .inl (fun _ => 0))), (q2, .inl (cs 2, 400, .inr (.inl (fun _ => 0)))), (q3, .inl (cs 0, 400, .inl (fun _ => 0)))] := ⟨hP, hD⟩
  refine va_put (D := g) (ci := 7) (v := .ref q3) (ty := .array .int) (C := R_Terms) (T := F_Terms) (N := 13) hx hb hg ul_Terms t_Terms tk_Terms n_Terms hown hK hP hD hS 0 rfl rfl 2 (by decide) (hg _ wd_230) (fun _ h9 => h9) rfl (by decide +kernel) rfl rfl (Nat.le_of_ble_eq_true rfl) d_Terms_init_28 (fun H locs hP hD hS => ?_)
  obtain ⟨hP, hD⟩ : PD g A H [(a, .inr (7, [.ref q1, .ref q2, .ref q3, .int 0, .null, .null, .null, .int 0, .int 0, .int 0, .int 0, .int 0, .int 0])), (q1, .inl (cs 0, 400, .inl (fun _ => 0))), (q2, .inl (cs 2, 400, .inr (.inl (fun _ => 0)))), (q3, .inl (cs 0, 400, .inl (fun _ => 0)))] := ⟨hP, hD⟩
  refine lv_aload_n hx hb d_Terms_init_31 rfl (lv_at hl 0 rfl) ?_
  refine lv_sipush (v := 201) hx hb d_Terms_init_32 (by decide) ?_
  refine va_put (D := g) (ci := 7) (v := .int 201) (ty := .int) (C := R_Terms) (T := F_Terms) (N := 13) hx hb hg ul_Terms t_Terms tk_Terms n_Terms hown hK hP hD hS 0 rfl rfl 3 (by decide) (hg _ wd_231) (fun _ h9 => h9) rfl (by decide +kernel) rfl rfl (Nat.le_of_ble_eq_true rfl) d_Terms_init_35 (fun H locs hP hD hS => ?_)
  obtain ⟨hP, hD⟩ : PD g A H [(a, .inr (7, [.ref q1, .ref q2, .ref q3, .int 201, .null, .null, .null, .int 0, .int 0, .int 0, .int 0, .int 0, .int 0])), (q1, .inl (cs 0, 400, .inl (fun _ => 0))), (q2, .inl (cs 2, 400, .inr (.inl (fun _ => 0)))), (q3, .inl (cs 0, 400, .inl (fun _ => 0)))] := ⟨hP, hD⟩
  refine lv_aload_n hx hb d_Terms_init_38 rfl (lv_at hl 0 rfl) ?_
  obtain ⟨m4, s4, hok, hmc4, hms4⟩ := al_some hok
  refine va_new (ci := 1) (fs := [.null, .int 0]) (C := R_Ints) (T := F_Ints) (N := 2) hx hb hg ul_Ints t_Ints tk_Ints hown (hg _ wd_232) (hg _ wd_233) (hg _ wd_234) hK hP hD hS hA rfl nf_Ints (show 0 + 1 + 1 + 1 + 1 ≤ mc from by omega) (show 0 + 400 + 400 + 400 + 2 ≤ ms from by omega) d_Terms_init_39 (fun q4 H hP hD hS => ?_)
  obtain ⟨hP, hD⟩ : PD g A H [(a, .inr (7, [.ref q1, .ref q2, .ref q3, .int 201, .null, .null, .null, .int 0, .int 0, .int 0, .int 0, .int 0, .int 0])), (q1, .inl (cs 0, 400, .inl (fun _ => 0))), (q2, .inl (cs 2, 400, .inr (.inl (fun _ => 0)))), (q3, .inl (cs 0, 400, .inl (fun _ => 0))), (q4, .inr (1, [.null, .int 0]))] := ⟨hP, hD⟩
  refine lv_dup hx hb d_Terms_init_42 rfl ?_
  obtain ⟨⟨⟨a_size_5, a_items_n_5, a_items_f_5⟩, mk5, sk5⟩, hc5, hok⟩ := bd_some hok
  dsimp only at hok
  obtain ⟨m5, s5, hok, hmc5, hms5⟩ := al_some hok
  obtain ⟨hPc, hDc, hFc⟩ := cut0 (wc := [(q4, .inr (1, [.null, .int 0]))]) hP hD hS hA [4] (by decide) rfl
  refine va_callv (va_runIN (As := []) (rest := [.ref q4, .ref a]) ⟨hx, hb, hml, hown, hg⟩ (c_Ints_init l g cs ka q4 H.size a_size_5 a_items_n_5 a_items_f_5 mk5 sk5 hc5) ⟨va_cnB 0 hg (gw_c wd_235) rfl rfl rfl (hgl _ wd_236) (hg _ wd_234) (by decide +kernel) ⟨Nat.le_of_ble_eq_true rfl, Nat.le_of_ble_eq_true rfl⟩, rfl, hg _ wd_237⟩ ⟨gP_blind, gP_pre hPc hDc hK hgl hkn hkr hS hFc⟩ rfl rfl hl.1 rfl (lv_room (Nat.le_of_ble_eq_true rfl)) d_Terms_init_43 ⟨show 0 + 1 + 1 + 1 + 1 + mk5 ≤ mc from by omega, show 0 + 400 + 400 + 400 + 2 + sk5 ≤ ms from by omega⟩) hS (fun q _ h => hFc q h) hFc (fun u t H locs ht hvm hr5 hB hz1 hk1 hS => ?_)
  rw [ht] at hB
  obtain ⟨a_items_5, hP1, hD1⟩ := hB
  obtain ⟨hP, hD⟩ := jn_A hP hD [4] [0, 1, 2, 3] rfl rfl (by decide) (by decide) hk1 hFc hP1 hD1
  obtain ⟨hP, hD⟩ : PD g A H [(a, .inr (7, [.ref q1, .ref q2, .ref q3, .int 201, .null, .null, .null, .int 0, .int 0, .int 0, .int 0, .int 0, .int 0])), (q1, .inl (cs 0, 400, .inl (fun _ => 0))), (q2, .inl (cs 2, 400, .inr (.inl (fun _ => 0)))), (q3, .inl (cs 0, 400, .inl (fun _ => 0))), (q4, .inr (1, [.ref a_items_5, .int a_size_5])), (a_items_5, .inl (cs 0, a_items_n_5, .inl a_items_f_5))] := ⟨hP, hD⟩
  refine va_putF (D := g) (ci := 7) (v := .ref q4) (ty := .object "UnifyBench$Ints") (C := R_Terms) (T := F_Terms) (N := 13) hx hb hg ul_Terms t_Terms tk_Terms n_Terms hown hK hP hD hS 0 rfl rfl 4 (by decide) (hg _ wd_238) (fun _ h9 => h9) rfl hin rfl (by decide +kernel) rfl rfl (Nat.le_of_ble_eq_true rfl) d_Terms_init_46 (fun H locs hP hD hS => ?_)
  obtain ⟨hP, hD⟩ : PD g A H [(a, .inr (7, [.ref q1, .ref q2, .ref q3, .int 201, .ref q4, .null, .null, .int 0, .int 0, .int 0, .int 0, .int 0, .int 0])), (q1, .inl (cs 0, 400, .inl (fun _ => 0))), (q2, .inl (cs 2, 400, .inr (.inl (fun _ => 0)))), (q3, .inl (cs 0, 400, .inl (fun _ => 0))), (q4, .inr (1, [.ref a_items_5, .int a_size_5])), (a_items_5, .inl (cs 0, a_items_n_5, .inl a_items_f_5))] := ⟨hP, hD⟩
  refine lv_aload_n hx hb d_Terms_init_49 rfl (lv_at hl 0 rfl) ?_
  refine lv_sipush (v := 200) hx hb d_Terms_init_50 (by decide) ?_
  obtain ⟨m6, s6, hok, hmc6, hms6⟩ := al_some hok
  refine g_newI hx hb (hg _ wd_142) hK hP hD hS hA (200) (by decide) (by decide) (by decide) (show 0 + 1 + 1 + 1 + 1 + mk5 + 1 ≤ mc from by omega) (show 0 + 400 + 400 + 400 + 2 + sk5 + 200 ≤ ms from by omega) d_Terms_init_53 (fun q6 H hP hD hS => ?_)
  obtain ⟨hP, hD⟩ : PD g A H [(a, .inr (7, [.ref q1, .ref q2, .ref q3, .int 201, .ref q4, .null, .null, .int 0, .int 0, .int 0, .int 0, .int 0, .int 0])), (q1, .inl (cs 0, 400, .inl (fun _ => 0))), (q2, .inl (cs 2, 400, .inr (.inl (fun _ => 0)))), (q3, .inl (cs 0, 400, .inl (fun _ => 0))), (q4, .inr (1, [.ref a_items_5, .int a_size_5])), (a_items_5, .inl (cs 0, a_items_n_5, .inl a_items_f_5)), (q6, .inl (cs 0, 200, .inl (fun _ => 0)))] := ⟨hP, hD⟩
  refine va_putF (D := g) (ci := 7) (v := .ref q6) (ty := .array .int) (C := R_Terms) (T := F_Terms) (N := 13) hx hb hg ul_Terms t_Terms tk_Terms n_Terms hown hK hP hD hS 0 rfl rfl 5 (by decide) (hg _ wd_239) (fun _ h9 => h9) rfl hin rfl (by decide +kernel) rfl rfl (Nat.le_of_ble_eq_true rfl) d_Terms_init_55 (fun H locs hP hD hS => ?_)
  obtain ⟨hP, hD⟩ : PD g A H [(a, .inr (7, [.ref q1, .ref q2, .ref q3, .int 201, .ref q4, .ref q6, .null, .int 0, .int 0, .int 0, .int 0, .int 0, .int 0])), (q1, .inl (cs 0, 400, .inl (fun _ => 0))), (q2, .inl (cs 2, 400, .inr (.inl (fun _ => 0)))), (q3, .inl (cs 0, 400, .inl (fun _ => 0))), (q4, .inr (1, [.ref a_items_5, .int a_size_5])), (a_items_5, .inl (cs 0, a_items_n_5, .inl a_items_f_5)), (q6, .inl (cs 0, 200, .inl (fun _ => 0)))] := ⟨hP, hD⟩
  refine lv_aload_n hx hb d_Terms_init_58 rfl (lv_at hl 0 rfl) ?_
  refine lv_sipush (v := 200) hx hb d_Terms_init_59 (by decide) ?_
  obtain ⟨m7, s7, hok, hmc7, hms7⟩ := al_some hok
  refine g_newI hx hb (hg _ wd_142) hK hP hD hS hA (200) (by decide) (by decide) (by decide) (show 0 + 1 + 1 + 1 + 1 + mk5 + 1 + 1 ≤ mc from by omega) (show 0 + 400 + 400 + 400 + 2 + sk5 + 200 + 200 ≤ ms from by omega) d_Terms_init_62 (fun q7 H hP hD hS => ?_)
  obtain ⟨hP, hD⟩ : PD g A H [(a, .inr (7, [.ref q1, .ref q2, .ref q3, .int 201, .ref q4, .ref q6, .null, .int 0, .int 0, .int 0, .int 0, .int 0, .int 0])), (q1, .inl (cs 0, 400, .inl (fun _ => 0))), (q2, .inl (cs 2, 400, .inr (.inl (fun _ => 0)))), (q3, .inl (cs 0, 400, .inl (fun _ => 0))), (q4, .inr (1, [.ref a_items_5, .int a_size_5])), (a_items_5, .inl (cs 0, a_items_n_5, .inl a_items_f_5)), (q6, .inl (cs 0, 200, .inl (fun _ => 0))), (q7, .inl (cs 0, 200, .inl (fun _ => 0)))] := ⟨hP, hD⟩
  refine va_putF (D := g) (ci := 7) (v := .ref q7) (ty := .array .int) (C := R_Terms) (T := F_Terms) (N := 13) hx hb hg ul_Terms t_Terms tk_Terms n_Terms hown hK hP hD hS 0 rfl rfl 6 (by decide) (hg _ wd_240) (fun _ h9 => h9) rfl hin rfl (by decide +kernel) rfl rfl (Nat.le_of_ble_eq_true rfl) d_Terms_init_64 (fun H locs hP hD hS => ?_)
  obtain ⟨hP, hD⟩ : PD g A H [(a, .inr (7, [.ref q1, .ref q2, .ref q3, .int 201, .ref q4, .ref q6, .ref q7, .int 0, .int 0, .int 0, .int 0, .int 0, .int 0])), (q1, .inl (cs 0, 400, .inl (fun _ => 0))), (q2, .inl (cs 2, 400, .inr (.inl (fun _ => 0)))), (q3, .inl (cs 0, 400, .inl (fun _ => 0))), (q4, .inr (1, [.ref a_items_5, .int a_size_5])), (a_items_5, .inl (cs 0, a_items_n_5, .inl a_items_f_5)), (q6, .inl (cs 0, 200, .inl (fun _ => 0))), (q7, .inl (cs 0, 200, .inl (fun _ => 0)))] := ⟨hP, hD⟩
  refine lv_aload_n hx hb d_Terms_init_67 rfl (lv_at hl 0 rfl) ?_
  refine lv_iconst (v := 0) hx hb d_Terms_init_68 (by decide) ?_
  refine va_put (D := g) (ci := 7) (v := .int 0) (ty := .int) (C := R_Terms) (T := F_Terms) (N := 13) hx hb hg ul_Terms t_Terms tk_Terms n_Terms hown hK hP hD hS 0 rfl rfl 7 (by decide) (hg _ wd_241) (fun _ h9 => h9) rfl (by decide +kernel) rfl rfl (Nat.le_of_ble_eq_true rfl) d_Terms_init_69 (fun H locs hP hD hS => ?_)
  obtain ⟨hP, hD⟩ : PD g A H [(a, .inr (7, [.ref q1, .ref q2, .ref q3, .int 201, .ref q4, .ref q6, .ref q7, .int 0, .int 0, .int 0, .int 0, .int 0, .int 0])), (q1, .inl (cs 0, 400, .inl (fun _ => 0))), (q2, .inl (cs 2, 400, .inr (.inl (fun _ => 0)))), (q3, .inl (cs 0, 400, .inl (fun _ => 0))), (q4, .inr (1, [.ref a_items_5, .int a_size_5])), (a_items_5, .inl (cs 0, a_items_n_5, .inl a_items_f_5)), (q6, .inl (cs 0, 200, .inl (fun _ => 0))), (q7, .inl (cs 0, 200, .inl (fun _ => 0)))] := ⟨hP, hD⟩
  refine lv_aload_n hx hb d_Terms_init_72 rfl (lv_at hl 0 rfl) ?_
  refine lv_iconst (v := 0) hx hb d_Terms_init_73 (by decide) ?_
  refine va_put (D := g) (ci := 7) (v := .int 0) (ty := .boolean) (C := R_Terms) (T := F_Terms) (N := 13) hx hb hg ul_Terms t_Terms tk_Terms n_Terms hown hK hP hD hS 0 rfl rfl 8 (by decide) (hg _ wd_242) (fun _ h9 => h9) rfl (by decide +kernel) rfl rfl (Nat.le_of_ble_eq_true rfl) d_Terms_init_74 (fun H locs hP hD hS => ?_)
  obtain ⟨hP, hD⟩ : PD g A H [(a, .inr (7, [.ref q1, .ref q2, .ref q3, .int 201, .ref q4, .ref q6, .ref q7, .int 0, .int 0, .int 0, .int 0, .int 0, .int 0])), (q1, .inl (cs 0, 400, .inl (fun _ => 0))), (q2, .inl (cs 2, 400, .inr (.inl (fun _ => 0)))), (q3, .inl (cs 0, 400, .inl (fun _ => 0))), (q4, .inr (1, [.ref a_items_5, .int a_size_5])), (a_items_5, .inl (cs 0, a_items_n_5, .inl a_items_f_5)), (q6, .inl (cs 0, 200, .inl (fun _ => 0))), (q7, .inl (cs 0, 200, .inl (fun _ => 0)))] := ⟨hP, hD⟩
  refine lv_aload_n hx hb d_Terms_init_77 rfl (lv_at hl 0 rfl) ?_
  refine lv_iconst (v := 0) hx hb d_Terms_init_78 (by decide) ?_
  refine va_put (D := g) (ci := 7) (v := .int 0) (ty := .int) (C := R_Terms) (T := F_Terms) (N := 13) hx hb hg ul_Terms t_Terms tk_Terms n_Terms hown hK hP hD hS 0 rfl rfl 9 (by decide) (hg _ wd_243) (fun _ h9 => h9) rfl (by decide +kernel) rfl rfl (Nat.le_of_ble_eq_true rfl) d_Terms_init_79 (fun H locs hP hD hS => ?_)
  obtain ⟨hP, hD⟩ : PD g A H [(a, .inr (7, [.ref q1, .ref q2, .ref q3, .int 201, .ref q4, .ref q6, .ref q7, .int 0, .int 0, .int 0, .int 0, .int 0, .int 0])), (q1, .inl (cs 0, 400, .inl (fun _ => 0))), (q2, .inl (cs 2, 400, .inr (.inl (fun _ => 0)))), (q3, .inl (cs 0, 400, .inl (fun _ => 0))), (q4, .inr (1, [.ref a_items_5, .int a_size_5])), (a_items_5, .inl (cs 0, a_items_n_5, .inl a_items_f_5)), (q6, .inl (cs 0, 200, .inl (fun _ => 0))), (q7, .inl (cs 0, 200, .inl (fun _ => 0)))] := ⟨hP, hD⟩
  refine lv_aload_n hx hb d_Terms_init_82 rfl (lv_at hl 0 rfl) ?_
  refine lv_sipush (v := 201) hx hb d_Terms_init_83 (by decide) ?_
  refine va_put (D := g) (ci := 7) (v := .int 201) (ty := .int) (C := R_Terms) (T := F_Terms) (N := 13) hx hb hg ul_Terms t_Terms tk_Terms n_Terms hown hK hP hD hS 0 rfl rfl 10 (by decide) (hg _ wd_244) (fun _ h9 => h9) rfl (by decide +kernel) rfl rfl (Nat.le_of_ble_eq_true rfl) d_Terms_init_86 (fun H locs hP hD hS => ?_)
  obtain ⟨hP, hD⟩ : PD g A H [(a, .inr (7, [.ref q1, .ref q2, .ref q3, .int 201, .ref q4, .ref q6, .ref q7, .int 0, .int 0, .int 0, .int 201, .int 0, .int 0])), (q1, .inl (cs 0, 400, .inl (fun _ => 0))), (q2, .inl (cs 2, 400, .inr (.inl (fun _ => 0)))), (q3, .inl (cs 0, 400, .inl (fun _ => 0))), (q4, .inr (1, [.ref a_items_5, .int a_size_5])), (a_items_5, .inl (cs 0, a_items_n_5, .inl a_items_f_5)), (q6, .inl (cs 0, 200, .inl (fun _ => 0))), (q7, .inl (cs 0, 200, .inl (fun _ => 0)))] := ⟨hP, hD⟩
  refine lv_aload_n hx hb d_Terms_init_89 rfl (lv_at hl 0 rfl) ?_
  refine lv_iconst (v := 0) hx hb d_Terms_init_90 (by decide) ?_
  refine va_put (D := g) (ci := 7) (v := .int 0) (ty := .int) (C := R_Terms) (T := F_Terms) (N := 13) hx hb hg ul_Terms t_Terms tk_Terms n_Terms hown hK hP hD hS 0 rfl rfl 11 (by decide) (hg _ wd_245) (fun _ h9 => h9) rfl (by decide +kernel) rfl rfl (Nat.le_of_ble_eq_true rfl) d_Terms_init_91 (fun H locs hP hD hS => ?_)
  obtain ⟨hP, hD⟩ : PD g A H [(a, .inr (7, [.ref q1, .ref q2, .ref q3, .int 201, .ref q4, .ref q6, .ref q7, .int 0, .int 0, .int 0, .int 201, .int 0, .int 0])), (q1, .inl (cs 0, 400, .inl (fun _ => 0))), (q2, .inl (cs 2, 400, .inr (.inl (fun _ => 0)))), (q3, .inl (cs 0, 400, .inl (fun _ => 0))), (q4, .inr (1, [.ref a_items_5, .int a_size_5])), (a_items_5, .inl (cs 0, a_items_n_5, .inl a_items_f_5)), (q6, .inl (cs 0, 200, .inl (fun _ => 0))), (q7, .inl (cs 0, 200, .inl (fun _ => 0)))] := ⟨hP, hD⟩
  refine lv_aload_n hx hb d_Terms_init_94 rfl (lv_at hl 0 rfl) ?_
  refine lv_iconst (v := 0) hx hb d_Terms_init_95 (by decide) ?_
  refine va_put (D := g) (ci := 7) (v := .int 0) (ty := .int) (C := R_Terms) (T := F_Terms) (N := 13) hx hb hg ul_Terms t_Terms tk_Terms n_Terms hown hK hP hD hS 0 rfl rfl 12 (by decide) (hg _ wd_246) (fun _ h9 => h9) rfl (by decide +kernel) rfl rfl (Nat.le_of_ble_eq_true rfl) d_Terms_init_96 (fun H locs hP hD hS => ?_)
  obtain ⟨hP, hD⟩ : PD g A H [(a, .inr (7, [.ref q1, .ref q2, .ref q3, .int 201, .ref q4, .ref q6, .ref q7, .int 0, .int 0, .int 0, .int 201, .int 0, .int 0])), (q1, .inl (cs 0, 400, .inl (fun _ => 0))), (q2, .inl (cs 2, 400, .inr (.inl (fun _ => 0)))), (q3, .inl (cs 0, 400, .inl (fun _ => 0))), (q4, .inr (1, [.ref a_items_5, .int a_size_5])), (a_items_5, .inl (cs 0, a_items_n_5, .inl a_items_f_5)), (q6, .inl (cs 0, 200, .inl (fun _ => 0))), (q7, .inl (cs 0, 200, .inl (fun _ => 0)))] := ⟨hP, hD⟩
  refine lv_iconst (v := 0) hx hb d_Terms_init_99 (by decide) ?_
  refine lv_istore_n hx hb d_Terms_init_100 rfl hl (by decide) rfl (fun ls hl => ?_)
  have hl : lv_has ls 2 [(1, .int 0), (0, .ref a)] := hl
  have J8 : ∀ (kf8 : Nat) (H : Heap) (locs : List Loc) (ls : Array Slot) (cells8 slots8 mr8 sr8 : Nat) (x1_8 : Int32) (new1_8f : Nat → Int32) (new7_8f : Nat → Int32), lv_has ls 2 [(1, .int x1_8), (0, .ref a)] → PD g A H [(a, .inr (7, [.ref q1, .ref q2, .ref q3, .int 201, .ref q4, .ref q6, .ref q7, .int 0, .int 0, .int 0, .int 201, .int 0, .int 0])), (q1, .inl (cs 0, 400, .inl new1_8f)), (q2, .inl (cs 2, 400, .inr (.inl (fun _ => 0)))), (q3, .inl (cs 0, 400, .inl (fun _ => 0))), (q4, .inr (1, [.ref a_items_5, .int a_size_5])), (a_items_5, .inl (cs 0, a_items_n_5, .inl a_items_f_5)), (q6, .inl (cs 0, 200, .inl (fun _ => 0))), (q7, .inl (cs 0, 200, .inl new7_8f))] → va_S A s.heap H locs → cells8 + mr8 = mc → slots8 + sr8 = ms → p_Terms_init_101 n a_size_5 a_items_n_5 a_items_f_5 kf8 x1_8 new1_8f new7_8f = some ((o_a_nodes, o_a_variables, o_a_variablesLack, o_a_symbols, o_a_nodesBefore, o_a_partsBefore, o_a_variablesBefore, o_a_shapes_n, o_a_shapes_f, o_a_values_n, o_a_values_f, o_a_firstParts_n, o_a_firstParts_f, o_a_parts_size, o_a_parts_items_n, o_a_parts_items_f, o_a_variableNames_n, o_a_variableNames_f, o_a_became_n, o_a_became_f), mr8, sr8) → W p l e (headSpec (.code y_Terms_init b_Terms_init 2 none :: GW) { frames := 2, cells := mc, slots := ms, locals := 32 }).room s m ([.ref a] : List Value).toArray below meth c H locs cells8 slots8 Q (F0 m 101 ls []) := by
    intro kf8
    induction kf8 with
    | zero => intro H locs ls cells8 slots8 mr8 sr8 x1_8 new1_8f new7_8f hl ⟨hP, hD⟩ hS hmr8 hsr8 hok; rw [p_Terms_init_101] at hok; cases hok
    | succ kf8 ih8 =>
      intro H locs ls cells8 slots8 mr8 sr8 x1_8 new1_8f new7_8f hl ⟨hP, hD⟩ hS hmr8 hsr8 hok
      rw [p_Terms_init_101] at hok
      refine lv_iload_n hx hb d_Terms_init_101 rfl (lv_at hl 0 rfl) ?_
      refine lv_sipush (v := 200) hx hb d_Terms_init_102 (by decide) ?_
      refine lv_icmp_ge hx hb d_Terms_init_105 rfl (fun h9 => ?_) (fun h9 => ?_)
      · rw [if_pos h9] at hok
        refine lv_aload_n hx hb d_Terms_init_129 rfl (lv_at hl 1 rfl) ?_
        refine va_get (D := g) (ci := 7) (v := .ref q1) (C := R_Terms) (T := F_Terms) (N := 13) hx hb hg ul_Terms hown hK hP 0 rfl rfl 0 (by decide) (hg _ wd_228) (fun _ h9 => h9) rfl d_Terms_init_130 ?_
        refine lv_sipush (v := 200) hx hb d_Terms_init_133 (by decide) ?_
        refine lv_iconst (v := 0) hx hb d_Terms_init_136 (by decide) ?_
        obtain ⟨hi10, hok⟩ := ck_some hok
        refine va_iast hx hb hK hP hD hS 1 0 rfl rfl (ixb_in hi10) d_Terms_init_137 (fun H locs hP hD hS => ?_)
        obtain ⟨hP, hD⟩ : PD g A H [(a, .inr (7, [.ref q1, .ref q2, .ref q3, .int 201, .ref q4, .ref q6, .ref q7, .int 0, .int 0, .int 0, .int 201, .int 0, .int 0])), (q1, .inl (cs 0, 400, .inl (upd new1_8f (200 : Int32).toNatClampNeg 0))), (q2, .inl (cs 2, 400, .inr (.inl (fun _ => 0)))), (q3, .inl (cs 0, 400, .inl (fun _ => 0))), (q4, .inr (1, [.ref a_items_5, .int a_size_5])), (a_items_5, .inl (cs 0, a_items_n_5, .inl a_items_f_5)), (q6, .inl (cs 0, 200, .inl (fun _ => 0))), (q7, .inl (cs 0, 200, .inl new7_8f))] := ⟨hP, hD⟩
        refine lv_aload_n hx hb d_Terms_init_138 rfl (lv_at hl 1 rfl) ?_
        refine va_get (D := g) (ci := 7) (v := .ref q2) (C := R_Terms) (T := F_Terms) (N := 13) hx hb hg ul_Terms hown hK hP 0 rfl rfl 1 (by decide) (hg _ wd_229) (fun _ h9 => h9) rfl d_Terms_init_139 ?_
        refine lv_sipush (v := 200) hx hb d_Terms_init_142 (by decide) ?_
        refine lv_lconst (v := 0) hx hb d_Terms_init_145 (by decide) ?_
        obtain ⟨hi11, hok⟩ := ck_some hok
        refine va_last hx hb hK hP hD hS 2 2 rfl rfl (ixb_in hi11) d_Terms_init_146 (fun H locs hP hD hS => ?_)
        obtain ⟨hP, hD⟩ : PD g A H [(a, .inr (7, [.ref q1, .ref q2, .ref q3, .int 201, .ref q4, .ref q6, .ref q7, .int 0, .int 0, .int 0, .int 201, .int 0, .int 0])), (q1, .inl (cs 0, 400, .inl (upd new1_8f (200 : Int32).toNatClampNeg 0))), (q2, .inl (cs 2, 400, .inr (.inl (vp_updL (fun _ => 0) (200 : Int32).toNatClampNeg 0)))), (q3, .inl (cs 0, 400, .inl (fun _ => 0))), (q4, .inr (1, [.ref a_items_5, .int a_size_5])), (a_items_5, .inl (cs 0, a_items_n_5, .inl a_items_f_5)), (q6, .inl (cs 0, 200, .inl (fun _ => 0))), (q7, .inl (cs 0, 200, .inl new7_8f))] := ⟨hP, hD⟩
        obtain ⟨hq, hw⟩ := Prod.mk.inj (Option.some.inj hok)
        obtain ⟨hmc0, hms0⟩ := Prod.mk.inj hw
        obtain ⟨hq0, hq⟩ := Prod.mk.inj hq
        obtain ⟨hq1, hq⟩ := Prod.mk.inj hq
        obtain ⟨hq2, hq⟩ := Prod.mk.inj hq
        obtain ⟨hq3, hq⟩ := Prod.mk.inj hq
        obtain ⟨hq4, hq⟩ := Prod.mk.inj hq
        obtain ⟨hq5, hq⟩ := Prod.mk.inj hq
        obtain ⟨hq6, hq⟩ := Prod.mk.inj hq
        obtain ⟨hq7, hq⟩ := Prod.mk.inj hq
        obtain ⟨hq8, hq⟩ := Prod.mk.inj hq
        obtain ⟨hq9, hq⟩ := Prod.mk.inj hq
        obtain ⟨hq10, hq⟩ := Prod.mk.inj hq
        obtain ⟨hq11, hq⟩ := Prod.mk.inj hq
        obtain ⟨hq12, hq⟩ := Prod.mk.inj hq
        obtain ⟨hq13, hq⟩ := Prod.mk.inj hq
        obtain ⟨hq14, hq⟩ := Prod.mk.inj hq
        obtain ⟨hq15, hq⟩ := Prod.mk.inj hq
        obtain ⟨hq16, hq⟩ := Prod.mk.inj hq
        obtain ⟨hq17, hq⟩ := Prod.mk.inj hq
        obtain ⟨hq18, hq⟩ := Prod.mk.inj hq
        have hq19 := hq
        subst hq0
        subst hq1
        subst hq2
        subst hq3
        subst hq4
        subst hq5
        subst hq6
        subst hq7
        subst hq8
        subst hq9
        subst hq10
        subst hq11
        subst hq12
        subst hq13
        subst hq14
        subst hq15
        subst hq16
        subst hq17
        subst hq18
        subst hq19
        obtain ⟨hP9, hD9⟩ := sub2 (ws' := [(a, .inr (7, [.ref q1, .ref q2, .ref q3, .int 201, .ref q4, .ref q6, .ref q7, .int 0, .int 0, .int 0, .int 201, .int 0, .int 0])), (q1, .inl (cs 0, 400, .inl (upd new1_8f (200 : Int32).toNatClampNeg 0))), (q2, .inl (cs 2, 400, .inr (.inl (vp_updL (fun _ => 0) (200 : Int32).toNatClampNeg 0)))), (q3, .inl (cs 0, 400, .inl (fun _ => 0))), (q4, .inr (1, [.ref a_items_5, .int a_size_5])), (a_items_5, .inl (cs 0, a_items_n_5, .inl a_items_f_5)), (q6, .inl (cs 0, 200, .inl (fun _ => 0))), (q7, .inl (cs 0, 200, .inl new7_8f))]) hP hD [0, 1, 2, 3, 4, 5, 6, 7] rfl (by decide) rfl
        refine W.widen (k := mc) (n := ms) (by omega) (by omega) ?_
        rw [hQ]
        exact W.vret hx hb hr (fun t ht hW => ⟨⟨(), rfl, trivial, q1, q2, q3, q4, a_items_5, q6, q7, by rw [ht]; exact hP9, hD9⟩, hS.F ht⟩) hS.2.2 d_Terms_init_147
      · rw [if_neg h9] at hok
        refine lv_aload_n hx hb d_Terms_init_108 rfl (lv_at hl 1 rfl) ?_
        refine va_get (D := g) (ci := 7) (v := .ref q1) (C := R_Terms) (T := F_Terms) (N := 13) hx hb hg ul_Terms hown hK hP 0 rfl rfl 0 (by decide) (hg _ wd_228) (fun _ h9 => h9) rfl d_Terms_init_109 ?_
        refine lv_iload_n hx hb d_Terms_init_112 rfl (lv_at hl 0 rfl) ?_
        refine lv_bipush (v := (-2)) hx hb d_Terms_init_113 (by decide) ?_
        obtain ⟨hi12, hok⟩ := ck_some hok
        refine va_iast hx hb hK hP hD hS 1 0 rfl rfl (ixb_in hi12) d_Terms_init_115 (fun H locs hP hD hS => ?_)
        obtain ⟨hP, hD⟩ : PD g A H [(a, .inr (7, [.ref q1, .ref q2, .ref q3, .int 201, .ref q4, .ref q6, .ref q7, .int 0, .int 0, .int 0, .int 201, .int 0, .int 0])), (q1, .inl (cs 0, 400, .inl (upd new1_8f x1_8.toNatClampNeg (-2)))), (q2, .inl (cs 2, 400, .inr (.inl (fun _ => 0)))), (q3, .inl (cs 0, 400, .inl (fun _ => 0))), (q4, .inr (1, [.ref a_items_5, .int a_size_5])), (a_items_5, .inl (cs 0, a_items_n_5, .inl a_items_f_5)), (q6, .inl (cs 0, 200, .inl (fun _ => 0))), (q7, .inl (cs 0, 200, .inl new7_8f))] := ⟨hP, hD⟩
        refine lv_aload_n hx hb d_Terms_init_116 rfl (lv_at hl 1 rfl) ?_
        refine va_get (D := g) (ci := 7) (v := .ref q7) (C := R_Terms) (T := F_Terms) (N := 13) hx hb hg ul_Terms hown hK hP 0 rfl rfl 6 (by decide) (hg _ wd_240) (fun _ h9 => h9) rfl d_Terms_init_117 ?_
        refine lv_iload_n hx hb d_Terms_init_120 rfl (lv_at hl 0 rfl) ?_
        refine lv_iconst (v := (-1)) hx hb d_Terms_init_121 (by decide) ?_
        obtain ⟨hi13, hok⟩ := ck_some hok
        refine va_iast hx hb hK hP hD hS 7 0 rfl rfl (ixb_in hi13) d_Terms_init_122 (fun H locs hP hD hS => ?_)
        obtain ⟨hP, hD⟩ : PD g A H [(a, .inr (7, [.ref q1, .ref q2, .ref q3, .int 201, .ref q4, .ref q6, .ref q7, .int 0, .int 0, .int 0, .int 201, .int 0, .int 0])), (q1, .inl (cs 0, 400, .inl (upd new1_8f x1_8.toNatClampNeg (-2)))), (q2, .inl (cs 2, 400, .inr (.inl (fun _ => 0)))), (q3, .inl (cs 0, 400, .inl (fun _ => 0))), (q4, .inr (1, [.ref a_items_5, .int a_size_5])), (a_items_5, .inl (cs 0, a_items_n_5, .inl a_items_f_5)), (q6, .inl (cs 0, 200, .inl (fun _ => 0))), (q7, .inl (cs 0, 200, .inl (upd new7_8f x1_8.toNatClampNeg (-1))))] := ⟨hP, hD⟩
        refine lv_iinc (k := 0) (v := x1_8 + 1) hx hb d_Terms_init_123 hl rfl rfl (by decide) rfl (fun ls hl => ?_)
        have hl : lv_has ls 2 [(1, .int (x1_8 + 1)), (0, .ref a)] := hl
        refine lv_goto hx hb d_Terms_init_126 rfl ?_
        exact ih8 _ _ _ _ _ _ _ (x1_8 + 1) (upd new1_8f x1_8.toNatClampNeg (-2)) (upd new7_8f x1_8.toNatClampNeg (-1)) (lv_sub hl [0, 1] rfl) (sub3 hP hD [0, 1, 2, 3, 4, 5, 6, 7] (by decide)) hS (by omega) (by omega) hok
  exact J8 n H locs ls _ _ _ _ (0 : Int32) (fun _ => 0 : Nat → Int32) (fun _ => 0 : Nat → Int32) hl ⟨hP, hD⟩ hS (by omega) (by omega) hok

theorem d_Terms_nodes_0 : decode b_Terms_nodes 0 = .ok (.aload_n 0, 1) := by decide +kernel
theorem d_Terms_nodes_1 : decode b_Terms_nodes 1 = .ok (.getfield 20, 3) := by decide +kernel
theorem d_Terms_nodes_4 : decode b_Terms_nodes 4 = .ok (.ireturn, 1) := by decide +kernel
def p_Terms_nodes (a_nodes : Int32) (a_variables : Int32) (a_variablesLack : Int32) (a_symbols : Int32) (a_nodesBefore : Int32) (a_partsBefore : Int32) (a_variablesBefore : Int32) : Option Int32 := some a_nodes
set_option maxHeartbeats 4000000 in
set_option maxRecDepth 100000 in
theorem c_Terms_nodes (l : Launch) (g : va_G) (cs : Nat → ClassId) (ka : Nat → Nat) (a_shapes : Nat) (a_values : Nat) (a_firstParts : Nat) (a_parts : Nat) (a_variableNames : Nat) (a_became : Nat) (a : Nat) (sz : Nat) (a_nodes : Int32) (a_variables : Int32) (a_variablesLack : Int32) (a_symbols : Int32) (a_nodesBefore : Int32) (a_partsBefore : Int32) (a_variablesBefore : Int32) (r : Int32) (hok : p_Terms_nodes a_nodes a_variables a_variablesLack a_symbols a_nodesBefore a_partsBefore a_variablesBefore = some r) : Met l y_Terms_nodes (.code y_Terms_nodes b_Terms_nodes 1 (some .int) :: GW) { frames := 0, cells := 0, slots := 0, locals := 0 } (va_Pc [.ref a] (gP g cs ka [(a, .inr (7, [.ref a_shapes, .ref a_values, .ref a_firstParts, .int a_nodes, .ref a_parts, .ref a_variableNames, .ref a_became, .int a_variables, .int a_variablesLack, .int a_symbols, .int a_nodesBefore, .int a_partsBefore, .int a_variablesBefore]))] sz)) (va_Qi (fun (r' : Int32) (_ : Unit) => r = r') (fun _ t => va_P g classes [(a, .inr (7, [.ref a_shapes, .ref a_values, .ref a_firstParts, .int a_nodes, .ref a_parts, .ref a_variableNames, .ref a_became, .int a_variables, .int a_variablesLack, .int a_symbols, .int a_nodesBefore, .int a_partsBefore, .int a_variablesBefore]))] t.heap ∧ va_D (va_A [(a, .inr (7, [.ref a_shapes, .ref a_values, .ref a_firstParts, .int a_nodes, .ref a_parts, .ref a_variableNames, .ref a_became, .int a_variables, .int a_variablesLack, .int a_symbols, .int a_nodesBefore, .int a_partsBefore, .int a_variablesBefore]))] sz) [(a, .inr (7, [.ref a_shapes, .ref a_values, .ref a_firstParts, .int a_nodes, .ref a_parts, .ref a_variableNames, .ref a_became, .int a_variables, .int a_variablesLack, .int a_symbols, .int a_nodesBefore, .int a_partsBefore, .int a_variablesBefore]))]) (va_A [(a, .inr (7, [.ref a_shapes, .ref a_values, .ref a_firstParts, .int a_nodes, .ref a_parts, .ref a_variableNames, .ref a_became, .int a_variables, .int a_variablesLack, .int a_symbols, .int a_nodesBefore, .int a_partsBefore, .int a_variablesBefore]))] sz)) 0 0 (va_A [(a, .inr (7, [.ref a_shapes, .ref a_values, .ref a_firstParts, .int a_nodes, .ref a_parts, .ref a_variableNames, .ref a_became, .int a_variables, .int a_variablesLack, .int a_symbols, .int a_nodesBefore, .int a_partsBefore, .int a_variablesBefore]))] sz) := by
  refine Met.ofW (cc := b_Terms_nodes) (maxL := 1) (ret := (some .int)) (by decide) rfl ?_
  intro p e s m args below meth c s₁ B hml hv
  obtain ⟨rfl, hsz, hP, hK, hD0, hgl, hkn, hkr⟩ := hv
  have hx := B.exec
  have hb := B.bytes
  have hr := B.returns
  have hg : ∀ w ∈ GW, w.before ([.ref a] : List Value).toArray s = true := fun w hw => atoms_spec (ws := .code y_Terms_nodes b_Terms_nodes 1 (some .int) :: GW) B.pre w (List.mem_cons_of_mem _ hw)
  have hown : s.vm.findClass R_Terms = some m.cls := findClass_of_methodNamed B.named
  have hlocks := B.notSynchronized
  subst hsz
  have hD := hD0.self (sz := s.heap.size)
  generalize hAe : va_A [(a, .inr (7, [.ref a_shapes, .ref a_values, .ref a_firstParts, .int a_nodes, .ref a_parts, .ref a_variableNames, .ref a_became, .int a_variables, .int a_variablesLack, .int a_symbols, .int a_nodesBefore, .int a_partsBefore, .int a_variablesBefore]))] s.heap.size = A at hD hkn ⊢
  have hA : ∀ q : Nat, s.heap.size ≤ q → A q := fun q h => by rw [← hAe]; exact Or.inr h
  have hS : va_S A s.heap s.heap [] := va_S.rf
  have hP : va_P g classes [(a, .inr (7, [.ref a_shapes, .ref a_values, .ref a_firstParts, .int a_nodes, .ref a_parts, .ref a_variableNames, .ref a_became, .int a_variables, .int a_variablesLack, .int a_symbols, .int a_nodesBefore, .int a_partsBefore, .int a_variablesBefore]))] s.heap := hP
  have hl := lv_entry ([.ref a]) (n := 1) (Nat.le_of_ble_eq_true rfl)
  rw [lg_entry_eq]
  generalize (lg_sl ([.ref a]) ++ List.replicate (1 - (lg_sl ([.ref a])).length) Slot.unset).toArray = ls at hl ⊢
  have hl : lv_has ls 1 [(0, .ref a)] := hl
  refine gq (fun Q hQ => ?_)
  obtain ⟨H, hH⟩ : ∃ H : Heap, H = s.heap := ⟨_, rfl⟩
  rw [← hH] at hP
  have hS : va_S A s.heap H [] := by rw [hH]; exact hS
  refine W.eqH hH ?_
  obtain ⟨locs, hlc⟩ : ∃ L : List Loc, L = [] := ⟨_, rfl⟩
  rw [← hlc] at hS ⊢
  unfold p_Terms_nodes at hok
  refine lv_aload_n hx hb d_Terms_nodes_0 rfl (lv_at hl 0 rfl) ?_
  refine va_get (D := g) (ci := 7) (v := .int a_nodes) (C := R_Terms) (T := F_Terms) (N := 13) hx hb hg ul_Terms hown hK hP 0 rfl rfl 3 (by decide) (hg _ wd_231) (fun _ h9 => h9) rfl d_Terms_nodes_1 ?_
  have hq := Option.some.inj hok
  have hq0 := hq
  subst hq0
  obtain ⟨hP9, hD9⟩ := sub2 (ws' := [(a, .inr (7, [.ref a_shapes, .ref a_values, .ref a_firstParts, .int a_nodes, .ref a_parts, .ref a_variableNames, .ref a_became, .int a_variables, .int a_variablesLack, .int a_symbols, .int a_nodesBefore, .int a_partsBefore, .int a_variablesBefore]))]) hP hD [0] rfl (by decide) rfl
  rw [hQ]
  exact W.iret (v := a_nodes) hx hb hr (fun t ht hW => ⟨⟨_, (), rfl, rfl, by rw [ht]; exact hP9, hD9⟩, hS.F ht⟩) hS.2.2 d_Terms_nodes_4

theorem d_Terms_variables_0 : decode b_Terms_variables 0 = .ok (.aload_n 0, 1) := by decide +kernel
theorem d_Terms_variables_1 : decode b_Terms_variables 1 = .ok (.getfield 37, 3) := by decide +kernel
theorem d_Terms_variables_4 : decode b_Terms_variables 4 = .ok (.ireturn, 1) := by decide +kernel
def p_Terms_variables (a_nodes : Int32) (a_variables : Int32) (a_variablesLack : Int32) (a_symbols : Int32) (a_nodesBefore : Int32) (a_partsBefore : Int32) (a_variablesBefore : Int32) : Option Int32 := some a_variables
set_option maxHeartbeats 4000000 in
set_option maxRecDepth 100000 in
theorem c_Terms_variables (l : Launch) (g : va_G) (cs : Nat → ClassId) (ka : Nat → Nat) (a_shapes : Nat) (a_values : Nat) (a_firstParts : Nat) (a_parts : Nat) (a_variableNames : Nat) (a_became : Nat) (a : Nat) (sz : Nat) (a_nodes : Int32) (a_variables : Int32) (a_variablesLack : Int32) (a_symbols : Int32) (a_nodesBefore : Int32) (a_partsBefore : Int32) (a_variablesBefore : Int32) (r : Int32) (hok : p_Terms_variables a_nodes a_variables a_variablesLack a_symbols a_nodesBefore a_partsBefore a_variablesBefore = some r) : Met l y_Terms_variables (.code y_Terms_variables b_Terms_variables 1 (some .int) :: GW) { frames := 0, cells := 0, slots := 0, locals := 0 } (va_Pc [.ref a] (gP g cs ka [(a, .inr (7, [.ref a_shapes, .ref a_values, .ref a_firstParts, .int a_nodes, .ref a_parts, .ref a_variableNames, .ref a_became, .int a_variables, .int a_variablesLack, .int a_symbols, .int a_nodesBefore, .int a_partsBefore, .int a_variablesBefore]))] sz)) (va_Qi (fun (r' : Int32) (_ : Unit) => r = r') (fun _ t => va_P g classes [(a, .inr (7, [.ref a_shapes, .ref a_values, .ref a_firstParts, .int a_nodes, .ref a_parts, .ref a_variableNames, .ref a_became, .int a_variables, .int a_variablesLack, .int a_symbols, .int a_nodesBefore, .int a_partsBefore, .int a_variablesBefore]))] t.heap ∧ va_D (va_A [(a, .inr (7, [.ref a_shapes, .ref a_values, .ref a_firstParts, .int a_nodes, .ref a_parts, .ref a_variableNames, .ref a_became, .int a_variables, .int a_variablesLack, .int a_symbols, .int a_nodesBefore, .int a_partsBefore, .int a_variablesBefore]))] sz) [(a, .inr (7, [.ref a_shapes, .ref a_values, .ref a_firstParts, .int a_nodes, .ref a_parts, .ref a_variableNames, .ref a_became, .int a_variables, .int a_variablesLack, .int a_symbols, .int a_nodesBefore, .int a_partsBefore, .int a_variablesBefore]))]) (va_A [(a, .inr (7, [.ref a_shapes, .ref a_values, .ref a_firstParts, .int a_nodes, .ref a_parts, .ref a_variableNames, .ref a_became, .int a_variables, .int a_variablesLack, .int a_symbols, .int a_nodesBefore, .int a_partsBefore, .int a_variablesBefore]))] sz)) 0 0 (va_A [(a, .inr (7, [.ref a_shapes, .ref a_values, .ref a_firstParts, .int a_nodes, .ref a_parts, .ref a_variableNames, .ref a_became, .int a_variables, .int a_variablesLack, .int a_symbols, .int a_nodesBefore, .int a_partsBefore, .int a_variablesBefore]))] sz) := by
  refine Met.ofW (cc := b_Terms_variables) (maxL := 1) (ret := (some .int)) (by decide) rfl ?_
  intro p e s m args below meth c s₁ B hml hv
  obtain ⟨rfl, hsz, hP, hK, hD0, hgl, hkn, hkr⟩ := hv
  have hx := B.exec
  have hb := B.bytes
  have hr := B.returns
  have hg : ∀ w ∈ GW, w.before ([.ref a] : List Value).toArray s = true := fun w hw => atoms_spec (ws := .code y_Terms_variables b_Terms_variables 1 (some .int) :: GW) B.pre w (List.mem_cons_of_mem _ hw)
  have hown : s.vm.findClass R_Terms = some m.cls := findClass_of_methodNamed B.named
  have hlocks := B.notSynchronized
  subst hsz
  have hD := hD0.self (sz := s.heap.size)
  generalize hAe : va_A [(a, .inr (7, [.ref a_shapes, .ref a_values, .ref a_firstParts, .int a_nodes, .ref a_parts, .ref a_variableNames, .ref a_became, .int a_variables, .int a_variablesLack, .int a_symbols, .int a_nodesBefore, .int a_partsBefore, .int a_variablesBefore]))] s.heap.size = A at hD hkn ⊢
  have hA : ∀ q : Nat, s.heap.size ≤ q → A q := fun q h => by rw [← hAe]; exact Or.inr h
  have hS : va_S A s.heap s.heap [] := va_S.rf
  have hP : va_P g classes [(a, .inr (7, [.ref a_shapes, .ref a_values, .ref a_firstParts, .int a_nodes, .ref a_parts, .ref a_variableNames, .ref a_became, .int a_variables, .int a_variablesLack, .int a_symbols, .int a_nodesBefore, .int a_partsBefore, .int a_variablesBefore]))] s.heap := hP
  have hl := lv_entry ([.ref a]) (n := 1) (Nat.le_of_ble_eq_true rfl)
  rw [lg_entry_eq]
  generalize (lg_sl ([.ref a]) ++ List.replicate (1 - (lg_sl ([.ref a])).length) Slot.unset).toArray = ls at hl ⊢
  have hl : lv_has ls 1 [(0, .ref a)] := hl
  refine gq (fun Q hQ => ?_)
  obtain ⟨H, hH⟩ : ∃ H : Heap, H = s.heap := ⟨_, rfl⟩
  rw [← hH] at hP
  have hS : va_S A s.heap H [] := by rw [hH]; exact hS
  refine W.eqH hH ?_
  obtain ⟨locs, hlc⟩ : ∃ L : List Loc, L = [] := ⟨_, rfl⟩
  rw [← hlc] at hS ⊢
  unfold p_Terms_variables at hok
  refine lv_aload_n hx hb d_Terms_variables_0 rfl (lv_at hl 0 rfl) ?_
  refine va_get (D := g) (ci := 7) (v := .int a_variables) (C := R_Terms) (T := F_Terms) (N := 13) hx hb hg ul_Terms hown hK hP 0 rfl rfl 7 (by decide) (hg _ wd_241) (fun _ h9 => h9) rfl d_Terms_variables_1 ?_
  have hq := Option.some.inj hok
  have hq0 := hq
  subst hq0
  obtain ⟨hP9, hD9⟩ := sub2 (ws' := [(a, .inr (7, [.ref a_shapes, .ref a_values, .ref a_firstParts, .int a_nodes, .ref a_parts, .ref a_variableNames, .ref a_became, .int a_variables, .int a_variablesLack, .int a_symbols, .int a_nodesBefore, .int a_partsBefore, .int a_variablesBefore]))]) hP hD [0] rfl (by decide) rfl
  rw [hQ]
  exact W.iret (v := a_variables) hx hb hr (fun t ht hW => ⟨⟨_, (), rfl, rfl, by rw [ht]; exact hP9, hD9⟩, hS.F ht⟩) hS.2.2 d_Terms_variables_4

theorem d_Terms_keepSize_0 : decode b_Terms_keepSize 0 = .ok (.aload_n 0, 1) := by decide +kernel
theorem d_Terms_keepSize_1 : decode b_Terms_keepSize 1 = .ok (.aload_n 0, 1) := by decide +kernel
theorem d_Terms_keepSize_2 : decode b_Terms_keepSize 2 = .ok (.getfield 20, 3) := by decide +kernel
theorem d_Terms_keepSize_5 : decode b_Terms_keepSize 5 = .ok (.putfield 47, 3) := by decide +kernel
theorem d_Terms_keepSize_8 : decode b_Terms_keepSize 8 = .ok (.aload_n 0, 1) := by decide +kernel
theorem d_Terms_keepSize_9 : decode b_Terms_keepSize 9 = .ok (.aload_n 0, 1) := by decide +kernel
theorem d_Terms_keepSize_10 : decode b_Terms_keepSize 10 = .ok (.getfield 27, 3) := by decide +kernel
theorem d_Terms_keepSize_13 : decode b_Terms_keepSize 13 = .ok (.invokevirtual 58, 3) := by decide +kernel
theorem d_Terms_keepSize_16 : decode b_Terms_keepSize 16 = .ok (.putfield 50, 3) := by decide +kernel
theorem d_Terms_keepSize_19 : decode b_Terms_keepSize 19 = .ok (.aload_n 0, 1) := by decide +kernel
theorem d_Terms_keepSize_20 : decode b_Terms_keepSize 20 = .ok (.aload_n 0, 1) := by decide +kernel
theorem d_Terms_keepSize_21 : decode b_Terms_keepSize 21 = .ok (.getfield 37, 3) := by decide +kernel
theorem d_Terms_keepSize_24 : decode b_Terms_keepSize 24 = .ok (.putfield 53, 3) := by decide +kernel
theorem d_Terms_keepSize_27 : decode b_Terms_keepSize 27 = .ok (.aload_n 0, 1) := by decide +kernel
theorem d_Terms_keepSize_28 : decode b_Terms_keepSize 28 = .ok (.iconst 0, 1) := by decide +kernel
theorem d_Terms_keepSize_29 : decode b_Terms_keepSize 29 = .ok (.putfield 40, 3) := by decide +kernel
theorem d_Terms_keepSize_32 : decode b_Terms_keepSize 32 = .ok (.return_, 1) := by decide +kernel
def p_Terms_keepSize (a_nodes : Int32) (a_variables : Int32) (a_variablesLack : Int32) (a_symbols : Int32) (a_nodesBefore : Int32) (a_partsBefore : Int32) (a_variablesBefore : Int32) (a_parts_size : Int32) : Option (Int32 × Int32 × Int32 × Int32) := (p_Ints_size a_parts_size).bind (fun r1 => some ((0 : Int32), a_nodes, r1, a_variables))
set_option maxHeartbeats 4000000 in
set_option maxRecDepth 100000 in
theorem c_Terms_keepSize (l : Launch) (g : va_G) (cs : Nat → ClassId) (ka : Nat → Nat) (a_shapes : Nat) (a_values : Nat) (a_firstParts : Nat) (a_variableNames : Nat) (a_became : Nat) (a_parts_items : Nat) (a a_parts : Nat) (sz : Nat) (a_nodes : Int32) (a_variables : Int32) (a_variablesLack : Int32) (a_symbols : Int32) (a_nodesBefore : Int32) (a_partsBefore : Int32) (a_variablesBefore : Int32) (a_parts_size : Int32) (o_a_variablesLack : Int32) (o_a_nodesBefore : Int32) (o_a_partsBefore : Int32) (o_a_variablesBefore : Int32) (hok : p_Terms_keepSize a_nodes a_variables a_variablesLack a_symbols a_nodesBefore a_partsBefore a_variablesBefore a_parts_size = some (o_a_variablesLack, o_a_nodesBefore, o_a_partsBefore, o_a_variablesBefore)) : Met l y_Terms_keepSize (.code y_Terms_keepSize b_Terms_keepSize 1 none :: GW) { frames := 1, cells := 0, slots := 0, locals := 20 } (va_Pc [.ref a] (gP g cs ka [(a, .inr (7, [.ref a_shapes, .ref a_values, .ref a_firstParts, .int a_nodes, .ref a_parts, .ref a_variableNames, .ref a_became, .int a_variables, .int a_variablesLack, .int a_symbols, .int a_nodesBefore, .int a_partsBefore, .int a_variablesBefore])), (a_parts, .inr (1, [.ref a_parts_items, .int a_parts_size]))] sz)) (va_Qv (fun _ : Unit => True) (fun _ t => va_P g classes [(a, .inr (7, [.ref a_shapes, .ref a_values, .ref a_firstParts, .int a_nodes, .ref a_parts, .ref a_variableNames, .ref a_became, .int a_variables, .int o_a_variablesLack, .int a_symbols, .int o_a_nodesBefore, .int o_a_partsBefore, .int o_a_variablesBefore])), (a_parts, .inr (1, [.ref a_parts_items, .int a_parts_size]))] t.heap ∧ va_D (va_A [(a, .inr (7, [.ref a_shapes, .ref a_values, .ref a_firstParts, .int a_nodes, .ref a_parts, .ref a_variableNames, .ref a_became, .int a_variables, .int a_variablesLack, .int a_symbols, .int a_nodesBefore, .int a_partsBefore, .int a_variablesBefore])), (a_parts, .inr (1, [.ref a_parts_items, .int a_parts_size]))] sz) [(a, .inr (7, [.ref a_shapes, .ref a_values, .ref a_firstParts, .int a_nodes, .ref a_parts, .ref a_variableNames, .ref a_became, .int a_variables, .int o_a_variablesLack, .int a_symbols, .int o_a_nodesBefore, .int o_a_partsBefore, .int o_a_variablesBefore])), (a_parts, .inr (1, [.ref a_parts_items, .int a_parts_size]))]) (va_A [(a, .inr (7, [.ref a_shapes, .ref a_values, .ref a_firstParts, .int a_nodes, .ref a_parts, .ref a_variableNames, .ref a_became, .int a_variables, .int a_variablesLack, .int a_symbols, .int a_nodesBefore, .int a_partsBefore, .int a_variablesBefore])), (a_parts, .inr (1, [.ref a_parts_items, .int a_parts_size]))] sz)) 0 0 (va_A [(a, .inr (7, [.ref a_shapes, .ref a_values, .ref a_firstParts, .int a_nodes, .ref a_parts, .ref a_variableNames, .ref a_became, .int a_variables, .int a_variablesLack, .int a_symbols, .int a_nodesBefore, .int a_partsBefore, .int a_variablesBefore])), (a_parts, .inr (1, [.ref a_parts_items, .int a_parts_size]))] sz) := by
  refine Met.ofW (cc := b_Terms_keepSize) (maxL := 1) (ret := none) (by decide) rfl ?_
  intro p e s m args below meth c s₁ B hml hv
  obtain ⟨rfl, hsz, hP, hK, hD0, hgl, hkn, hkr⟩ := hv
  have hx := B.exec
  have hb := B.bytes
  have hr := B.returns
  have hg : ∀ w ∈ GW, w.before ([.ref a] : List Value).toArray s = true := fun w hw => atoms_spec (ws := .code y_Terms_keepSize b_Terms_keepSize 1 none :: GW) B.pre w (List.mem_cons_of_mem _ hw)
  have hown : s.vm.findClass R_Terms = some m.cls := findClass_of_methodNamed B.named
  have hlocks := B.notSynchronized
  subst hsz
  have hD := hD0.self (sz := s.heap.size)
  generalize hAe : va_A [(a, .inr (7, [.ref a_shapes, .ref a_values, .ref a_firstParts, .int a_nodes, .ref a_parts, .ref a_variableNames, .ref a_became, .int a_variables, .int a_variablesLack, .int a_symbols, .int a_nodesBefore, .int a_partsBefore, .int a_variablesBefore])), (a_parts, .inr (1, [.ref a_parts_items, .int a_parts_size]))] s.heap.size = A at hD hkn ⊢
  have hA : ∀ q : Nat, s.heap.size ≤ q → A q := fun q h => by rw [← hAe]; exact Or.inr h
  have hS : va_S A s.heap s.heap [] := va_S.rf
  have hP : va_P g classes [(a, .inr (7, [.ref a_shapes, .ref a_values, .ref a_firstParts, .int a_nodes, .ref a_parts, .ref a_variableNames, .ref a_became, .int a_variables, .int a_variablesLack, .int a_symbols, .int a_nodesBefore, .int a_partsBefore, .int a_variablesBefore])), (a_parts, .inr (1, [.ref a_parts_items, .int a_parts_size]))] s.heap := hP
  have hl := lv_entry ([.ref a]) (n := 1) (Nat.le_of_ble_eq_true rfl)
  rw [lg_entry_eq]
  generalize (lg_sl ([.ref a]) ++ List.replicate (1 - (lg_sl ([.ref a])).length) Slot.unset).toArray = ls at hl ⊢
  have hl : lv_has ls 1 [(0, .ref a)] := hl
  refine gq (fun Q hQ => ?_)
  obtain ⟨H, hH⟩ : ∃ H : Heap, H = s.heap := ⟨_, rfl⟩
  rw [← hH] at hP
  have hS : va_S A s.heap H [] := by rw [hH]; exact hS
  refine W.eqH hH ?_
  obtain ⟨locs, hlc⟩ : ∃ L : List Loc, L = [] := ⟨_, rfl⟩
  rw [← hlc] at hS ⊢
  unfold p_Terms_keepSize at hok
  refine lv_aload_n hx hb d_Terms_keepSize_0 rfl (lv_at hl 0 rfl) ?_
  refine lv_aload_n hx hb d_Terms_keepSize_1 rfl (lv_at hl 0 rfl) ?_
  refine va_get (D := g) (ci := 7) (v := .int a_nodes) (C := R_Terms) (T := F_Terms) (N := 13) hx hb hg ul_Terms hown hK hP 0 rfl rfl 3 (by decide) (hg _ wd_231) (fun _ h9 => h9) rfl d_Terms_keepSize_2 ?_
  refine va_put (D := g) (ci := 7) (v := .int a_nodes) (ty := .int) (C := R_Terms) (T := F_Terms) (N := 13) hx hb hg ul_Terms t_Terms tk_Terms n_Terms hown hK hP hD hS 0 rfl rfl 10 (by decide) (hg _ wd_244) (fun _ h9 => h9) rfl (by decide +kernel) rfl rfl (Nat.le_of_ble_eq_true rfl) d_Terms_keepSize_5 (fun H locs hP hD hS => ?_)
  obtain ⟨hP, hD⟩ : PD g A H [(a, .inr (7, [.ref a_shapes, .ref a_values, .ref a_firstParts, .int a_nodes, .ref a_parts, .ref a_variableNames, .ref a_became, .int a_variables, .int a_variablesLack, .int a_symbols, .int a_nodes, .int a_partsBefore, .int a_variablesBefore])), (a_parts, .inr (1, [.ref a_parts_items, .int a_parts_size]))] := ⟨hP, hD⟩
  refine lv_aload_n hx hb d_Terms_keepSize_8 rfl (lv_at hl 0 rfl) ?_
  refine lv_aload_n hx hb d_Terms_keepSize_9 rfl (lv_at hl 0 rfl) ?_
  refine va_get (D := g) (ci := 7) (v := .ref a_parts) (C := R_Terms) (T := F_Terms) (N := 13) hx hb hg ul_Terms hown hK hP 0 rfl rfl 4 (by decide) (hg _ wd_238) (fun _ h9 => h9) rfl d_Terms_keepSize_10 ?_
  obtain ⟨r1, hc1, hok⟩ := bd_some hok
  obtain ⟨hPc, hDc, hFc⟩ := cut0 (wc := [(a_parts, .inr (1, [.ref a_parts_items, .int a_parts_size]))]) hP hD hS hA [1] (by decide) rfl
  refine va_calli (va_runV (As := []) (rest := [.ref a]) ⟨hx, hb, hml, hown, hg⟩ (c_Ints_size l g cs ka a_parts_items a_parts H.size a_parts_size r1 hc1) (cwV (C := R_Ints) 0 hg (gw_V wd_248 wd_249 wd_250 wd_234 wd_247) rfl rfl rfl (by decide +kernel) ⟨Nat.le_of_ble_eq_true rfl, Nat.le_of_ble_eq_true rfl⟩) ⟨gP_blind, va_recv (q0 := 1) (ci := 1) (q := (R_Ints, F_Ints, 2)) hK hP rfl rfl, gP_pre hPc hDc hK hgl hkn hkr hS hFc⟩ rfl rfl hl.1 rfl (lv_room (Nat.le_of_ble_eq_true rfl)) d_Terms_keepSize_13 ⟨Nat.le_of_ble_eq_true rfl, Nat.le_of_ble_eq_true rfl⟩) hS (fun q _ h => hFc q h) hFc (fun r1' u t H locs ht hvm hr1 hB hz1 hk1 hS => ?_)
  subst hr1
  rw [ht] at hB
  obtain ⟨hP1, hD1⟩ := hB
  obtain ⟨hP, hD⟩ := jn_A hP hD [1] [0] rfl rfl (by decide) (by decide) hk1 hFc hP1 hD1
  obtain ⟨hP, hD⟩ : PD g A H [(a, .inr (7, [.ref a_shapes, .ref a_values, .ref a_firstParts, .int a_nodes, .ref a_parts, .ref a_variableNames, .ref a_became, .int a_variables, .int a_variablesLack, .int a_symbols, .int a_nodes, .int a_partsBefore, .int a_variablesBefore])), (a_parts, .inr (1, [.ref a_parts_items, .int a_parts_size]))] := ⟨hP, hD⟩
  refine va_put (D := g) (ci := 7) (v := .int r1) (ty := .int) (C := R_Terms) (T := F_Terms) (N := 13) hx hb hg ul_Terms t_Terms tk_Terms n_Terms hown hK hP hD hS 0 rfl rfl 11 (by decide) (hg _ wd_245) (fun _ h9 => h9) rfl (by decide +kernel) rfl rfl (Nat.le_of_ble_eq_true rfl) d_Terms_keepSize_16 (fun H locs hP hD hS => ?_)
  obtain ⟨hP, hD⟩ : PD g A H [(a, .inr (7, [.ref a_shapes, .ref a_values, .ref a_firstParts, .int a_nodes, .ref a_parts, .ref a_variableNames, .ref a_became, .int a_variables, .int a_variablesLack, .int a_symbols, .int a_nodes, .int r1, .int a_variablesBefore])), (a_parts, .inr (1, [.ref a_parts_items, .int a_parts_size]))] := ⟨hP, hD⟩
  refine lv_aload_n hx hb d_Terms_keepSize_19 rfl (lv_at hl 0 rfl) ?_
  refine lv_aload_n hx hb d_Terms_keepSize_20 rfl (lv_at hl 0 rfl) ?_
  refine va_get (D := g) (ci := 7) (v := .int a_variables) (C := R_Terms) (T := F_Terms) (N := 13) hx hb hg ul_Terms hown hK hP 0 rfl rfl 7 (by decide) (hg _ wd_241) (fun _ h9 => h9) rfl d_Terms_keepSize_21 ?_
  refine va_put (D := g) (ci := 7) (v := .int a_variables) (ty := .int) (C := R_Terms) (T := F_Terms) (N := 13) hx hb hg ul_Terms t_Terms tk_Terms n_Terms hown hK hP hD hS 0 rfl rfl 12 (by decide) (hg _ wd_246) (fun _ h9 => h9) rfl (by decide +kernel) rfl rfl (Nat.le_of_ble_eq_true rfl) d_Terms_keepSize_24 (fun H locs hP hD hS => ?_)
  obtain ⟨hP, hD⟩ : PD g A H [(a, .inr (7, [.ref a_shapes, .ref a_values, .ref a_firstParts, .int a_nodes, .ref a_parts, .ref a_variableNames, .ref a_became, .int a_variables, .int a_variablesLack, .int a_symbols, .int a_nodes, .int r1, .int a_variables])), (a_parts, .inr (1, [.ref a_parts_items, .int a_parts_size]))] := ⟨hP, hD⟩
  refine lv_aload_n hx hb d_Terms_keepSize_27 rfl (lv_at hl 0 rfl) ?_
  refine lv_iconst (v := 0) hx hb d_Terms_keepSize_28 (by decide) ?_
  refine va_put (D := g) (ci := 7) (v := .int 0) (ty := .boolean) (C := R_Terms) (T := F_Terms) (N := 13) hx hb hg ul_Terms t_Terms tk_Terms n_Terms hown hK hP hD hS 0 rfl rfl 8 (by decide) (hg _ wd_242) (fun _ h9 => h9) rfl (by decide +kernel) rfl rfl (Nat.le_of_ble_eq_true rfl) d_Terms_keepSize_29 (fun H locs hP hD hS => ?_)
  obtain ⟨hP, hD⟩ : PD g A H [(a, .inr (7, [.ref a_shapes, .ref a_values, .ref a_firstParts, .int a_nodes, .ref a_parts, .ref a_variableNames, .ref a_became, .int a_variables, .int 0, .int a_symbols, .int a_nodes, .int r1, .int a_variables])), (a_parts, .inr (1, [.ref a_parts_items, .int a_parts_size]))] := ⟨hP, hD⟩
  have hq := Option.some.inj hok
  obtain ⟨hq0, hq⟩ := Prod.mk.inj hq
  obtain ⟨hq1, hq⟩ := Prod.mk.inj hq
  obtain ⟨hq2, hq⟩ := Prod.mk.inj hq
  have hq3 := hq
  subst hq0
  subst hq1
  subst hq2
  subst hq3
  obtain ⟨hP9, hD9⟩ := sub2 (ws' := [(a, .inr (7, [.ref a_shapes, .ref a_values, .ref a_firstParts, .int a_nodes, .ref a_parts, .ref a_variableNames, .ref a_became, .int a_variables, .int 0, .int a_symbols, .int a_nodes, .int r1, .int a_variables])), (a_parts, .inr (1, [.ref a_parts_items, .int a_parts_size]))]) hP hD [0, 1] rfl (by decide) rfl
  rw [hQ]
  exact W.vret hx hb hr (fun t ht hW => ⟨⟨(), rfl, trivial, by rw [ht]; exact hP9, hD9⟩, hS.F ht⟩) hS.2.2 d_Terms_keepSize_32

theorem d_Terms_goBack_0 : decode b_Terms_goBack 0 = .ok (.aload_n 0, 1) := by decide +kernel
theorem d_Terms_goBack_1 : decode b_Terms_goBack 1 = .ok (.aload_n 0, 1) := by decide +kernel
theorem d_Terms_goBack_2 : decode b_Terms_goBack 2 = .ok (.getfield 47, 3) := by decide +kernel
theorem d_Terms_goBack_5 : decode b_Terms_goBack 5 = .ok (.putfield 20, 3) := by decide +kernel
theorem d_Terms_goBack_8 : decode b_Terms_goBack 8 = .ok (.aload_n 0, 1) := by decide +kernel
theorem d_Terms_goBack_9 : decode b_Terms_goBack 9 = .ok (.getfield 27, 3) := by decide +kernel
theorem d_Terms_goBack_12 : decode b_Terms_goBack 12 = .ok (.aload_n 0, 1) := by decide +kernel
theorem d_Terms_goBack_13 : decode b_Terms_goBack 13 = .ok (.getfield 50, 3) := by decide +kernel
theorem d_Terms_goBack_16 : decode b_Terms_goBack 16 = .ok (.invokevirtual 62, 3) := by decide +kernel
theorem d_Terms_goBack_19 : decode b_Terms_goBack 19 = .ok (.aload_n 0, 1) := by decide +kernel
theorem d_Terms_goBack_20 : decode b_Terms_goBack 20 = .ok (.aload_n 0, 1) := by decide +kernel
theorem d_Terms_goBack_21 : decode b_Terms_goBack 21 = .ok (.getfield 53, 3) := by decide +kernel
theorem d_Terms_goBack_24 : decode b_Terms_goBack 24 = .ok (.putfield 37, 3) := by decide +kernel
theorem d_Terms_goBack_27 : decode b_Terms_goBack 27 = .ok (.return_, 1) := by decide +kernel
def p_Terms_goBack (a_nodes : Int32) (a_variables : Int32) (a_variablesLack : Int32) (a_symbols : Int32) (a_nodesBefore : Int32) (a_partsBefore : Int32) (a_variablesBefore : Int32) (a_parts_size : Int32) : Option (Int32 × Int32 × Int32) := (p_Ints_cut a_partsBefore a_parts_size).bind (fun a_size_1 => some (a_nodesBefore, a_variablesBefore, a_size_1))
set_option maxHeartbeats 4000000 in
set_option maxRecDepth 100000 in
theorem c_Terms_goBack (l : Launch) (g : va_G) (cs : Nat → ClassId) (ka : Nat → Nat) (a_shapes : Nat) (a_values : Nat) (a_firstParts : Nat) (a_variableNames : Nat) (a_became : Nat) (a_parts_items : Nat) (a a_parts : Nat) (sz : Nat) (a_nodes : Int32) (a_variables : Int32) (a_variablesLack : Int32) (a_symbols : Int32) (a_nodesBefore : Int32) (a_partsBefore : Int32) (a_variablesBefore : Int32) (a_parts_size : Int32) (o_a_nodes : Int32) (o_a_variables : Int32) (o_a_parts_size : Int32) (hok : p_Terms_goBack a_nodes a_variables a_variablesLack a_symbols a_nodesBefore a_partsBefore a_variablesBefore a_parts_size = some (o_a_nodes, o_a_variables, o_a_parts_size)) : Met l y_Terms_goBack (.code y_Terms_goBack b_Terms_goBack 1 none :: GW) { frames := 1, cells := 0, slots := 0, locals := 21 } (va_Pc [.ref a] (gP g cs ka [(a, .inr (7, [.ref a_shapes, .ref a_values, .ref a_firstParts, .int a_nodes, .ref a_parts, .ref a_variableNames, .ref a_became, .int a_variables, .int a_variablesLack, .int a_symbols, .int a_nodesBefore, .int a_partsBefore, .int a_variablesBefore])), (a_parts, .inr (1, [.ref a_parts_items, .int a_parts_size]))] sz)) (va_Qv (fun _ : Unit => True) (fun _ t => va_P g classes [(a, .inr (7, [.ref a_shapes, .ref a_values, .ref a_firstParts, .int o_a_nodes, .ref a_parts, .ref a_variableNames, .ref a_became, .int o_a_variables, .int a_variablesLack, .int a_symbols, .int a_nodesBefore, .int a_partsBefore, .int a_variablesBefore])), (a_parts, .inr (1, [.ref a_parts_items, .int o_a_parts_size]))] t.heap ∧ va_D (va_A [(a, .inr (7, [.ref a_shapes, .ref a_values, .ref a_firstParts, .int a_nodes, .ref a_parts, .ref a_variableNames, .ref a_became, .int a_variables, .int a_variablesLack, .int a_symbols, .int a_nodesBefore, .int a_partsBefore, .int a_variablesBefore])), (a_parts, .inr (1, [.ref a_parts_items, .int a_parts_size]))] sz) [(a, .inr (7, [.ref a_shapes, .ref a_values, .ref a_firstParts, .int o_a_nodes, .ref a_parts, .ref a_variableNames, .ref a_became, .int o_a_variables, .int a_variablesLack, .int a_symbols, .int a_nodesBefore, .int a_partsBefore, .int a_variablesBefore])), (a_parts, .inr (1, [.ref a_parts_items, .int o_a_parts_size]))]) (va_A [(a, .inr (7, [.ref a_shapes, .ref a_values, .ref a_firstParts, .int a_nodes, .ref a_parts, .ref a_variableNames, .ref a_became, .int a_variables, .int a_variablesLack, .int a_symbols, .int a_nodesBefore, .int a_partsBefore, .int a_variablesBefore])), (a_parts, .inr (1, [.ref a_parts_items, .int a_parts_size]))] sz)) 0 0 (va_A [(a, .inr (7, [.ref a_shapes, .ref a_values, .ref a_firstParts, .int a_nodes, .ref a_parts, .ref a_variableNames, .ref a_became, .int a_variables, .int a_variablesLack, .int a_symbols, .int a_nodesBefore, .int a_partsBefore, .int a_variablesBefore])), (a_parts, .inr (1, [.ref a_parts_items, .int a_parts_size]))] sz) := by
  refine Met.ofW (cc := b_Terms_goBack) (maxL := 1) (ret := none) (by decide) rfl ?_
  intro p e s m args below meth c s₁ B hml hv
  obtain ⟨rfl, hsz, hP, hK, hD0, hgl, hkn, hkr⟩ := hv
  have hx := B.exec
  have hb := B.bytes
  have hr := B.returns
  have hg : ∀ w ∈ GW, w.before ([.ref a] : List Value).toArray s = true := fun w hw => atoms_spec (ws := .code y_Terms_goBack b_Terms_goBack 1 none :: GW) B.pre w (List.mem_cons_of_mem _ hw)
  have hown : s.vm.findClass R_Terms = some m.cls := findClass_of_methodNamed B.named
  have hlocks := B.notSynchronized
  subst hsz
  have hD := hD0.self (sz := s.heap.size)
  generalize hAe : va_A [(a, .inr (7, [.ref a_shapes, .ref a_values, .ref a_firstParts, .int a_nodes, .ref a_parts, .ref a_variableNames, .ref a_became, .int a_variables, .int a_variablesLack, .int a_symbols, .int a_nodesBefore, .int a_partsBefore, .int a_variablesBefore])), (a_parts, .inr (1, [.ref a_parts_items, .int a_parts_size]))] s.heap.size = A at hD hkn ⊢
  have hA : ∀ q : Nat, s.heap.size ≤ q → A q := fun q h => by rw [← hAe]; exact Or.inr h
  have hS : va_S A s.heap s.heap [] := va_S.rf
  have hP : va_P g classes [(a, .inr (7, [.ref a_shapes, .ref a_values, .ref a_firstParts, .int a_nodes, .ref a_parts, .ref a_variableNames, .ref a_became, .int a_variables, .int a_variablesLack, .int a_symbols, .int a_nodesBefore, .int a_partsBefore, .int a_variablesBefore])), (a_parts, .inr (1, [.ref a_parts_items, .int a_parts_size]))] s.heap := hP
  have hl := lv_entry ([.ref a]) (n := 1) (Nat.le_of_ble_eq_true rfl)
  rw [lg_entry_eq]
  generalize (lg_sl ([.ref a]) ++ List.replicate (1 - (lg_sl ([.ref a])).length) Slot.unset).toArray = ls at hl ⊢
  have hl : lv_has ls 1 [(0, .ref a)] := hl
  refine gq (fun Q hQ => ?_)
  obtain ⟨H, hH⟩ : ∃ H : Heap, H = s.heap := ⟨_, rfl⟩
  rw [← hH] at hP
  have hS : va_S A s.heap H [] := by rw [hH]; exact hS
  refine W.eqH hH ?_
  obtain ⟨locs, hlc⟩ : ∃ L : List Loc, L = [] := ⟨_, rfl⟩
  rw [← hlc] at hS ⊢
  unfold p_Terms_goBack at hok
  refine lv_aload_n hx hb d_Terms_goBack_0 rfl (lv_at hl 0 rfl) ?_
  refine lv_aload_n hx hb d_Terms_goBack_1 rfl (lv_at hl 0 rfl) ?_
  refine va_get (D := g) (ci := 7) (v := .int a_nodesBefore) (C := R_Terms) (T := F_Terms) (N := 13) hx hb hg ul_Terms hown hK hP 0 rfl rfl 10 (by decide) (hg _ wd_244) (fun _ h9 => h9) rfl d_Terms_goBack_2 ?_
  refine va_put (D := g) (ci := 7) (v := .int a_nodesBefore) (ty := .int) (C := R_Terms) (T := F_Terms) (N := 13) hx hb hg ul_Terms t_Terms tk_Terms n_Terms hown hK hP hD hS 0 rfl rfl 3 (by decide) (hg _ wd_231) (fun _ h9 => h9) rfl (by decide +kernel) rfl rfl (Nat.le_of_ble_eq_true rfl) d_Terms_goBack_5 (fun H locs hP hD hS => ?_)
  obtain ⟨hP, hD⟩ : PD g A H [(a, .inr (7, [.ref a_shapes, .ref a_values, .ref a_firstParts, .int a_nodesBefore, .ref a_parts, .ref a_variableNames, .ref a_became, .int a_variables, .int a_variablesLack, .int a_symbols, .int a_nodesBefore, .int a_partsBefore, .int a_variablesBefore])), (a_parts, .inr (1, [.ref a_parts_items, .int a_parts_size]))] := ⟨hP, hD⟩
  refine lv_aload_n hx hb d_Terms_goBack_8 rfl (lv_at hl 0 rfl) ?_
  refine va_get (D := g) (ci := 7) (v := .ref a_parts) (C := R_Terms) (T := F_Terms) (N := 13) hx hb hg ul_Terms hown hK hP 0 rfl rfl 4 (by decide) (hg _ wd_238) (fun _ h9 => h9) rfl d_Terms_goBack_9 ?_
  refine lv_aload_n hx hb d_Terms_goBack_12 rfl (lv_at hl 0 rfl) ?_
  refine va_get (D := g) (ci := 7) (v := .int a_partsBefore) (C := R_Terms) (T := F_Terms) (N := 13) hx hb hg ul_Terms hown hK hP 0 rfl rfl 11 (by decide) (hg _ wd_245) (fun _ h9 => h9) rfl d_Terms_goBack_13 ?_
  obtain ⟨a_size_1, hc1, hok⟩ := bd_some hok
  obtain ⟨hPc, hDc, hFc⟩ := cut0 (wc := [(a_parts, .inr (1, [.ref a_parts_items, .int a_parts_size]))]) hP hD hS hA [1] (by decide) rfl
  refine va_callv (va_runV (As := [.int a_partsBefore]) (rest := []) ⟨hx, hb, hml, hown, hg⟩ (c_Ints_cut l g cs ka a_parts_items a_parts H.size a_partsBefore a_parts_size a_size_1 hc1) (cwV (C := R_Ints) 1 hg (gw_V wd_252 wd_253 wd_254 wd_234 wd_251) rfl rfl rfl (by decide +kernel) ⟨Nat.le_of_ble_eq_true rfl, Nat.le_of_ble_eq_true rfl⟩) ⟨gP_blind, va_recv (q0 := 1) (ci := 1) (q := (R_Ints, F_Ints, 2)) hK hP rfl rfl, gP_pre hPc hDc hK hgl hkn hkr hS hFc⟩ rfl rfl hl.1 rfl (lv_room (Nat.le_of_ble_eq_true rfl)) d_Terms_goBack_16 ⟨Nat.le_of_ble_eq_true rfl, Nat.le_of_ble_eq_true rfl⟩) hS (fun q _ h => hFc q h) hFc (fun u t H locs ht hvm hr1 hB hz1 hk1 hS => ?_)
  rw [ht] at hB
  obtain ⟨hP1, hD1⟩ := hB
  obtain ⟨hP, hD⟩ := jn_A hP hD [1] [0] rfl rfl (by decide) (by decide) hk1 hFc hP1 hD1
  obtain ⟨hP, hD⟩ : PD g A H [(a, .inr (7, [.ref a_shapes, .ref a_values, .ref a_firstParts, .int a_nodesBefore, .ref a_parts, .ref a_variableNames, .ref a_became, .int a_variables, .int a_variablesLack, .int a_symbols, .int a_nodesBefore, .int a_partsBefore, .int a_variablesBefore])), (a_parts, .inr (1, [.ref a_parts_items, .int a_size_1]))] := ⟨hP, hD⟩
  refine lv_aload_n hx hb d_Terms_goBack_19 rfl (lv_at hl 0 rfl) ?_
  refine lv_aload_n hx hb d_Terms_goBack_20 rfl (lv_at hl 0 rfl) ?_
  refine va_get (D := g) (ci := 7) (v := .int a_variablesBefore) (C := R_Terms) (T := F_Terms) (N := 13) hx hb hg ul_Terms hown hK hP 0 rfl rfl 12 (by decide) (hg _ wd_246) (fun _ h9 => h9) rfl d_Terms_goBack_21 ?_
  refine va_put (D := g) (ci := 7) (v := .int a_variablesBefore) (ty := .int) (C := R_Terms) (T := F_Terms) (N := 13) hx hb hg ul_Terms t_Terms tk_Terms n_Terms hown hK hP hD hS 0 rfl rfl 7 (by decide) (hg _ wd_241) (fun _ h9 => h9) rfl (by decide +kernel) rfl rfl (Nat.le_of_ble_eq_true rfl) d_Terms_goBack_24 (fun H locs hP hD hS => ?_)
  obtain ⟨hP, hD⟩ : PD g A H [(a, .inr (7, [.ref a_shapes, .ref a_values, .ref a_firstParts, .int a_nodesBefore, .ref a_parts, .ref a_variableNames, .ref a_became, .int a_variablesBefore, .int a_variablesLack, .int a_symbols, .int a_nodesBefore, .int a_partsBefore, .int a_variablesBefore])), (a_parts, .inr (1, [.ref a_parts_items, .int a_size_1]))] := ⟨hP, hD⟩
  have hq := Option.some.inj hok
  obtain ⟨hq0, hq⟩ := Prod.mk.inj hq
  obtain ⟨hq1, hq⟩ := Prod.mk.inj hq
  have hq2 := hq
  subst hq0
  subst hq1
  subst hq2
  obtain ⟨hP9, hD9⟩ := sub2 (ws' := [(a, .inr (7, [.ref a_shapes, .ref a_values, .ref a_firstParts, .int a_nodesBefore, .ref a_parts, .ref a_variableNames, .ref a_became, .int a_variablesBefore, .int a_variablesLack, .int a_symbols, .int a_nodesBefore, .int a_partsBefore, .int a_variablesBefore])), (a_parts, .inr (1, [.ref a_parts_items, .int a_size_1]))]) hP hD [0, 1] rfl (by decide) rfl
  rw [hQ]
  exact W.vret hx hb hr (fun t ht hW => ⟨⟨(), rfl, trivial, by rw [ht]; exact hP9, hD9⟩, hS.F ht⟩) hS.2.2 d_Terms_goBack_27

theorem d_Terms_hasRoomFor_0 : decode b_Terms_hasRoomFor 0 = .ok (.aload_n 0, 1) := by decide +kernel
theorem d_Terms_hasRoomFor_1 : decode b_Terms_hasRoomFor 1 = .ok (.getfield 40, 3) := by decide +kernel
theorem d_Terms_hasRoomFor_4 : decode b_Terms_hasRoomFor 4 = .ok (.ifCond .ne 18, 3) := by decide +kernel
theorem d_Terms_hasRoomFor_7 : decode b_Terms_hasRoomFor 7 = .ok (.aload_n 0, 1) := by decide +kernel
theorem d_Terms_hasRoomFor_8 : decode b_Terms_hasRoomFor 8 = .ok (.getfield 44, 3) := by decide +kernel
theorem d_Terms_hasRoomFor_11 : decode b_Terms_hasRoomFor 11 = .ok (.iload_n 1, 1) := by decide +kernel
theorem d_Terms_hasRoomFor_12 : decode b_Terms_hasRoomFor 12 = .ok (.iadd, 1) := by decide +kernel
theorem d_Terms_hasRoomFor_13 : decode b_Terms_hasRoomFor 13 = .ok (.ldc 66, 2) := by decide +kernel
theorem d_Terms_hasRoomFor_15 : decode b_Terms_hasRoomFor 15 = .ok (.if_icmp .gt 7, 3) := by decide +kernel
theorem d_Terms_hasRoomFor_18 : decode b_Terms_hasRoomFor 18 = .ok (.iconst 1, 1) := by decide +kernel
theorem d_Terms_hasRoomFor_19 : decode b_Terms_hasRoomFor 19 = .ok (.goto 4, 3) := by decide +kernel
theorem d_Terms_hasRoomFor_22 : decode b_Terms_hasRoomFor 22 = .ok (.iconst 0, 1) := by decide +kernel
theorem d_Terms_hasRoomFor_23 : decode b_Terms_hasRoomFor 23 = .ok (.ireturn, 1) := by decide +kernel
def p_Terms_hasRoomFor (more : Int32) (a_nodes : Int32) (a_variables : Int32) (a_variablesLack : Int32) (a_symbols : Int32) (a_nodesBefore : Int32) (a_partsBefore : Int32) (a_variablesBefore : Int32) : Option Int32 := if a_variablesLack = 0 then (if 400000 < (a_symbols + more) then (some (0 : Int32)) else (some (1 : Int32))) else (some (0 : Int32))
set_option maxHeartbeats 4000000 in
set_option maxRecDepth 100000 in
theorem c_Terms_hasRoomFor (l : Launch) (g : va_G) (cs : Nat → ClassId) (ka : Nat → Nat) (a_shapes : Nat) (a_values : Nat) (a_firstParts : Nat) (a_parts : Nat) (a_variableNames : Nat) (a_became : Nat) (a : Nat) (sz : Nat) (more : Int32) (a_nodes : Int32) (a_variables : Int32) (a_variablesLack : Int32) (a_symbols : Int32) (a_nodesBefore : Int32) (a_partsBefore : Int32) (a_variablesBefore : Int32) (r : Int32) (hok : p_Terms_hasRoomFor more a_nodes a_variables a_variablesLack a_symbols a_nodesBefore a_partsBefore a_variablesBefore = some r) : Met l y_Terms_hasRoomFor (.code y_Terms_hasRoomFor b_Terms_hasRoomFor 2 (some .boolean) :: GW) { frames := 0, cells := 0, slots := 0, locals := 0 } (va_Pc [.ref a, .int more] (gP g cs ka [(a, .inr (7, [.ref a_shapes, .ref a_values, .ref a_firstParts, .int a_nodes, .ref a_parts, .ref a_variableNames, .ref a_became, .int a_variables, .int a_variablesLack, .int a_symbols, .int a_nodesBefore, .int a_partsBefore, .int a_variablesBefore]))] sz)) (va_Qi (fun (r' : Int32) (_ : Unit) => r = r') (fun _ t => va_P g classes [(a, .inr (7, [.ref a_shapes, .ref a_values, .ref a_firstParts, .int a_nodes, .ref a_parts, .ref a_variableNames, .ref a_became, .int a_variables, .int a_variablesLack, .int a_symbols, .int a_nodesBefore, .int a_partsBefore, .int a_variablesBefore]))] t.heap ∧ va_D (va_A [(a, .inr (7, [.ref a_shapes, .ref a_values, .ref a_firstParts, .int a_nodes, .ref a_parts, .ref a_variableNames, .ref a_became, .int a_variables, .int a_variablesLack, .int a_symbols, .int a_nodesBefore, .int a_partsBefore, .int a_variablesBefore]))] sz) [(a, .inr (7, [.ref a_shapes, .ref a_values, .ref a_firstParts, .int a_nodes, .ref a_parts, .ref a_variableNames, .ref a_became, .int a_variables, .int a_variablesLack, .int a_symbols, .int a_nodesBefore, .int a_partsBefore, .int a_variablesBefore]))]) (va_A [(a, .inr (7, [.ref a_shapes, .ref a_values, .ref a_firstParts, .int a_nodes, .ref a_parts, .ref a_variableNames, .ref a_became, .int a_variables, .int a_variablesLack, .int a_symbols, .int a_nodesBefore, .int a_partsBefore, .int a_variablesBefore]))] sz)) 0 0 (va_A [(a, .inr (7, [.ref a_shapes, .ref a_values, .ref a_firstParts, .int a_nodes, .ref a_parts, .ref a_variableNames, .ref a_became, .int a_variables, .int a_variablesLack, .int a_symbols, .int a_nodesBefore, .int a_partsBefore, .int a_variablesBefore]))] sz) := by
  refine Met.ofW (cc := b_Terms_hasRoomFor) (maxL := 2) (ret := (some .boolean)) (by decide) rfl ?_
  intro p e s m args below meth c s₁ B hml hv
  obtain ⟨rfl, hsz, hP, hK, hD0, hgl, hkn, hkr⟩ := hv
  have hx := B.exec
  have hb := B.bytes
  have hr := B.returns
  have hg : ∀ w ∈ GW, w.before ([.ref a, .int more] : List Value).toArray s = true := fun w hw => atoms_spec (ws := .code y_Terms_hasRoomFor b_Terms_hasRoomFor 2 (some .boolean) :: GW) B.pre w (List.mem_cons_of_mem _ hw)
  have hown : s.vm.findClass R_Terms = some m.cls := findClass_of_methodNamed B.named
  have hlocks := B.notSynchronized
  subst hsz
  have hD := hD0.self (sz := s.heap.size)
  generalize hAe : va_A [(a, .inr (7, [.ref a_shapes, .ref a_values, .ref a_firstParts, .int a_nodes, .ref a_parts, .ref a_variableNames, .ref a_became, .int a_variables, .int a_variablesLack, .int a_symbols, .int a_nodesBefore, .int a_partsBefore, .int a_variablesBefore]))] s.heap.size = A at hD hkn ⊢
  have hA : ∀ q : Nat, s.heap.size ≤ q → A q := fun q h => by rw [← hAe]; exact Or.inr h
  have hS : va_S A s.heap s.heap [] := va_S.rf
  have hP : va_P g classes [(a, .inr (7, [.ref a_shapes, .ref a_values, .ref a_firstParts, .int a_nodes, .ref a_parts, .ref a_variableNames, .ref a_became, .int a_variables, .int a_variablesLack, .int a_symbols, .int a_nodesBefore, .int a_partsBefore, .int a_variablesBefore]))] s.heap := hP
  have hl := lv_entry ([.ref a, .int more]) (n := 2) (Nat.le_of_ble_eq_true rfl)
  rw [lg_entry_eq]
  generalize (lg_sl ([.ref a, .int more]) ++ List.replicate (2 - (lg_sl ([.ref a, .int more])).length) Slot.unset).toArray = ls at hl ⊢
  have hl : lv_has ls 2 [(0, .ref a), (1, .int more)] := hl
  refine gq (fun Q hQ => ?_)
  obtain ⟨H, hH⟩ : ∃ H : Heap, H = s.heap := ⟨_, rfl⟩
  rw [← hH] at hP
  have hS : va_S A s.heap H [] := by rw [hH]; exact hS
  refine W.eqH hH ?_
  obtain ⟨locs, hlc⟩ : ∃ L : List Loc, L = [] := ⟨_, rfl⟩
  rw [← hlc] at hS ⊢
  unfold p_Terms_hasRoomFor at hok
  refine lv_aload_n hx hb d_Terms_hasRoomFor_0 rfl (lv_at hl 0 rfl) ?_
  refine va_get (D := g) (ci := 7) (v := .int a_variablesLack) (C := R_Terms) (T := F_Terms) (N := 13) hx hb hg ul_Terms hown hK hP 0 rfl rfl 8 (by decide) (hg _ wd_242) (fun _ h9 => h9) rfl d_Terms_hasRoomFor_1 ?_
  refine lv_if_ne hx hb d_Terms_hasRoomFor_4 rfl (fun h1 => ?_) (fun h1 => ?_)
  · rw [if_neg h1] at hok
    refine lv_iconst (v := 0) hx hb d_Terms_hasRoomFor_22 (by decide) ?_
    have hq := Option.some.inj hok
    have hq0 := hq
    subst hq0
    obtain ⟨hP9, hD9⟩ := sub2 (ws' := [(a, .inr (7, [.ref a_shapes, .ref a_values, .ref a_firstParts, .int a_nodes, .ref a_parts, .ref a_variableNames, .ref a_became, .int a_variables, .int a_variablesLack, .int a_symbols, .int a_nodesBefore, .int a_partsBefore, .int a_variablesBefore]))]) hP hD [0] rfl (by decide) rfl
    rw [hQ]
    exact W.zret (v := 0) hx hb hr rfl (fun t ht hW => ⟨⟨_, (), rfl, rfl, by rw [ht]; exact hP9, hD9⟩, hS.F ht⟩) hS.2.2 d_Terms_hasRoomFor_23
  · rw [if_pos h1] at hok
    refine lv_aload_n hx hb d_Terms_hasRoomFor_7 rfl (lv_at hl 0 rfl) ?_
    refine va_get (D := g) (ci := 7) (v := .int a_symbols) (C := R_Terms) (T := F_Terms) (N := 13) hx hb hg ul_Terms hown hK hP 0 rfl rfl 9 (by decide) (hg _ wd_243) (fun _ h9 => h9) rfl d_Terms_hasRoomFor_8 ?_
    refine lv_iload_n hx hb d_Terms_hasRoomFor_11 rfl (lv_at hl 1 rfl) ?_
    refine lv_iadd hx hb d_Terms_hasRoomFor_12 ?_
    refine lv_ldc hx hb hown (hg _ wd_255) d_Terms_hasRoomFor_13 ?_
    refine lv_icmp_gt hx hb d_Terms_hasRoomFor_15 rfl (fun h2 => ?_) (fun h2 => ?_)
    · rw [if_pos h2] at hok
      refine lv_iconst (v := 0) hx hb d_Terms_hasRoomFor_22 (by decide) ?_
      have hq := Option.some.inj hok
      have hq0 := hq
      subst hq0
      obtain ⟨hP9, hD9⟩ := sub2 (ws' := [(a, .inr (7, [.ref a_shapes, .ref a_values, .ref a_firstParts, .int a_nodes, .ref a_parts, .ref a_variableNames, .ref a_became, .int a_variables, .int a_variablesLack, .int a_symbols, .int a_nodesBefore, .int a_partsBefore, .int a_variablesBefore]))]) hP hD [0] rfl (by decide) rfl
      rw [hQ]
      exact W.zret (v := 0) hx hb hr rfl (fun t ht hW => ⟨⟨_, (), rfl, rfl, by rw [ht]; exact hP9, hD9⟩, hS.F ht⟩) hS.2.2 d_Terms_hasRoomFor_23
    · rw [if_neg h2] at hok
      refine lv_iconst (v := 1) hx hb d_Terms_hasRoomFor_18 (by decide) ?_
      refine lv_goto hx hb d_Terms_hasRoomFor_19 rfl ?_
      have hq := Option.some.inj hok
      have hq0 := hq
      subst hq0
      obtain ⟨hP9, hD9⟩ := sub2 (ws' := [(a, .inr (7, [.ref a_shapes, .ref a_values, .ref a_firstParts, .int a_nodes, .ref a_parts, .ref a_variableNames, .ref a_became, .int a_variables, .int a_variablesLack, .int a_symbols, .int a_nodesBefore, .int a_partsBefore, .int a_variablesBefore]))]) hP hD [0] rfl (by decide) rfl
      rw [hQ]
      exact W.zret (v := 1) hx hb hr rfl (fun t ht hW => ⟨⟨_, (), rfl, rfl, by rw [ht]; exact hP9, hD9⟩, hS.F ht⟩) hS.2.2 d_Terms_hasRoomFor_23

theorem d_Terms_countSymbols_0 : decode b_Terms_countSymbols 0 = .ok (.aload_n 0, 1) := by decide +kernel
theorem d_Terms_countSymbols_1 : decode b_Terms_countSymbols 1 = .ok (.dup, 1) := by decide +kernel
theorem d_Terms_countSymbols_2 : decode b_Terms_countSymbols 2 = .ok (.getfield 44, 3) := by decide +kernel
theorem d_Terms_countSymbols_5 : decode b_Terms_countSymbols 5 = .ok (.iload_n 1, 1) := by decide +kernel
theorem d_Terms_countSymbols_6 : decode b_Terms_countSymbols 6 = .ok (.iadd, 1) := by decide +kernel
theorem d_Terms_countSymbols_7 : decode b_Terms_countSymbols 7 = .ok (.putfield 44, 3) := by decide +kernel
theorem d_Terms_countSymbols_10 : decode b_Terms_countSymbols 10 = .ok (.return_, 1) := by decide +kernel
def p_Terms_countSymbols (more : Int32) (a_nodes : Int32) (a_variables : Int32) (a_variablesLack : Int32) (a_symbols : Int32) (a_nodesBefore : Int32) (a_partsBefore : Int32) (a_variablesBefore : Int32) : Option Int32 := some (a_symbols + more)
set_option maxHeartbeats 4000000 in
set_option maxRecDepth 100000 in
theorem c_Terms_countSymbols (l : Launch) (g : va_G) (cs : Nat → ClassId) (ka : Nat → Nat) (a_shapes : Nat) (a_values : Nat) (a_firstParts : Nat) (a_parts : Nat) (a_variableNames : Nat) (a_became : Nat) (a : Nat) (sz : Nat) (more : Int32) (a_nodes : Int32) (a_variables : Int32) (a_variablesLack : Int32) (a_symbols : Int32) (a_nodesBefore : Int32) (a_partsBefore : Int32) (a_variablesBefore : Int32) (o_a_symbols : Int32) (hok : p_Terms_countSymbols more a_nodes a_variables a_variablesLack a_symbols a_nodesBefore a_partsBefore a_variablesBefore = some o_a_symbols) : Met l y_Terms_countSymbols (.code y_Terms_countSymbols b_Terms_countSymbols 2 none :: GW) { frames := 0, cells := 0, slots := 0, locals := 0 } (va_Pc [.ref a, .int more] (gP g cs ka [(a, .inr (7, [.ref a_shapes, .ref a_values, .ref a_firstParts, .int a_nodes, .ref a_parts, .ref a_variableNames, .ref a_became, .int a_variables, .int a_variablesLack, .int a_symbols, .int a_nodesBefore, .int a_partsBefore, .int a_variablesBefore]))] sz)) (va_Qv (fun _ : Unit => True) (fun _ t => va_P g classes [(a, .inr (7, [.ref a_shapes, .ref a_values, .ref a_firstParts, .int a_nodes, .ref a_parts, .ref a_variableNames, .ref a_became, .int a_variables, .int a_variablesLack, .int o_a_symbols, .int a_nodesBefore, .int a_partsBefore, .int a_variablesBefore]))] t.heap ∧ va_D (va_A [(a, .inr (7, [.ref a_shapes, .ref a_values, .ref a_firstParts, .int a_nodes, .ref a_parts, .ref a_variableNames, .ref a_became, .int a_variables, .int a_variablesLack, .int a_symbols, .int a_nodesBefore, .int a_partsBefore, .int a_variablesBefore]))] sz) [(a, .inr (7, [.ref a_shapes, .ref a_values, .ref a_firstParts, .int a_nodes, .ref a_parts, .ref a_variableNames, .ref a_became, .int a_variables, .int a_variablesLack, .int o_a_symbols, .int a_nodesBefore, .int a_partsBefore, .int a_variablesBefore]))]) (va_A [(a, .inr (7, [.ref a_shapes, .ref a_values, .ref a_firstParts, .int a_nodes, .ref a_parts, .ref a_variableNames, .ref a_became, .int a_variables, .int a_variablesLack, .int a_symbols, .int a_nodesBefore, .int a_partsBefore, .int a_variablesBefore]))] sz)) 0 0 (va_A [(a, .inr (7, [.ref a_shapes, .ref a_values, .ref a_firstParts, .int a_nodes, .ref a_parts, .ref a_variableNames, .ref a_became, .int a_variables, .int a_variablesLack, .int a_symbols, .int a_nodesBefore, .int a_partsBefore, .int a_variablesBefore]))] sz) := by
  refine Met.ofW (cc := b_Terms_countSymbols) (maxL := 2) (ret := none) (by decide) rfl ?_
  intro p e s m args below meth c s₁ B hml hv
  obtain ⟨rfl, hsz, hP, hK, hD0, hgl, hkn, hkr⟩ := hv
  have hx := B.exec
  have hb := B.bytes
  have hr := B.returns
  have hg : ∀ w ∈ GW, w.before ([.ref a, .int more] : List Value).toArray s = true := fun w hw => atoms_spec (ws := .code y_Terms_countSymbols b_Terms_countSymbols 2 none :: GW) B.pre w (List.mem_cons_of_mem _ hw)
  have hown : s.vm.findClass R_Terms = some m.cls := findClass_of_methodNamed B.named
  have hlocks := B.notSynchronized
  subst hsz
  have hD := hD0.self (sz := s.heap.size)
  generalize hAe : va_A [(a, .inr (7, [.ref a_shapes, .ref a_values, .ref a_firstParts, .int a_nodes, .ref a_parts, .ref a_variableNames, .ref a_became, .int a_variables, .int a_variablesLack, .int a_symbols, .int a_nodesBefore, .int a_partsBefore, .int a_variablesBefore]))] s.heap.size = A at hD hkn ⊢
  have hA : ∀ q : Nat, s.heap.size ≤ q → A q := fun q h => by rw [← hAe]; exact Or.inr h
  have hS : va_S A s.heap s.heap [] := va_S.rf
  have hP : va_P g classes [(a, .inr (7, [.ref a_shapes, .ref a_values, .ref a_firstParts, .int a_nodes, .ref a_parts, .ref a_variableNames, .ref a_became, .int a_variables, .int a_variablesLack, .int a_symbols, .int a_nodesBefore, .int a_partsBefore, .int a_variablesBefore]))] s.heap := hP
  have hl := lv_entry ([.ref a, .int more]) (n := 2) (Nat.le_of_ble_eq_true rfl)
  rw [lg_entry_eq]
  generalize (lg_sl ([.ref a, .int more]) ++ List.replicate (2 - (lg_sl ([.ref a, .int more])).length) Slot.unset).toArray = ls at hl ⊢
  have hl : lv_has ls 2 [(0, .ref a), (1, .int more)] := hl
  refine gq (fun Q hQ => ?_)
  obtain ⟨H, hH⟩ : ∃ H : Heap, H = s.heap := ⟨_, rfl⟩
  rw [← hH] at hP
  have hS : va_S A s.heap H [] := by rw [hH]; exact hS
  refine W.eqH hH ?_
  obtain ⟨locs, hlc⟩ : ∃ L : List Loc, L = [] := ⟨_, rfl⟩
  rw [← hlc] at hS ⊢
  unfold p_Terms_countSymbols at hok
  refine lv_aload_n hx hb d_Terms_countSymbols_0 rfl (lv_at hl 0 rfl) ?_
  refine lv_dup hx hb d_Terms_countSymbols_1 rfl ?_
  refine va_get (D := g) (ci := 7) (v := .int a_symbols) (C := R_Terms) (T := F_Terms) (N := 13) hx hb hg ul_Terms hown hK hP 0 rfl rfl 9 (by decide) (hg _ wd_243) (fun _ h9 => h9) rfl d_Terms_countSymbols_2 ?_
  refine lv_iload_n hx hb d_Terms_countSymbols_5 rfl (lv_at hl 1 rfl) ?_
  refine lv_iadd hx hb d_Terms_countSymbols_6 ?_
  refine va_put (D := g) (ci := 7) (v := .int (a_symbols + more)) (ty := .int) (C := R_Terms) (T := F_Terms) (N := 13) hx hb hg ul_Terms t_Terms tk_Terms n_Terms hown hK hP hD hS 0 rfl rfl 9 (by decide) (hg _ wd_243) (fun _ h9 => h9) rfl (by decide +kernel) rfl rfl (Nat.le_of_ble_eq_true rfl) d_Terms_countSymbols_7 (fun H locs hP hD hS => ?_)
  obtain ⟨hP, hD⟩ : PD g A H [(a, .inr (7, [.ref a_shapes, .ref a_values, .ref a_firstParts, .int a_nodes, .ref a_parts, .ref a_variableNames, .ref a_became, .int a_variables, .int a_variablesLack, .int (a_symbols + more), .int a_nodesBefore, .int a_partsBefore, .int a_variablesBefore]))] := ⟨hP, hD⟩
  have hq := Option.some.inj hok
  have hq0 := hq
  subst hq0
  obtain ⟨hP9, hD9⟩ := sub2 (ws' := [(a, .inr (7, [.ref a_shapes, .ref a_values, .ref a_firstParts, .int a_nodes, .ref a_parts, .ref a_variableNames, .ref a_became, .int a_variables, .int a_variablesLack, .int (a_symbols + more), .int a_nodesBefore, .int a_partsBefore, .int a_variablesBefore]))]) hP hD [0] rfl (by decide) rfl
  rw [hQ]
  exact W.vret hx hb hr (fun t ht hW => ⟨⟨(), rfl, trivial, by rw [ht]; exact hP9, hD9⟩, hS.F ht⟩) hS.2.2 d_Terms_countSymbols_10

theorem d_Terms_forgetAll_0 : decode b_Terms_forgetAll 0 = .ok (.aload_n 0, 1) := by decide +kernel
theorem d_Terms_forgetAll_1 : decode b_Terms_forgetAll 1 = .ok (.sipush 201, 3) := by decide +kernel
theorem d_Terms_forgetAll_4 : decode b_Terms_forgetAll 4 = .ok (.putfield 20, 3) := by decide +kernel
theorem d_Terms_forgetAll_7 : decode b_Terms_forgetAll 7 = .ok (.aload_n 0, 1) := by decide +kernel
theorem d_Terms_forgetAll_8 : decode b_Terms_forgetAll 8 = .ok (.getfield 27, 3) := by decide +kernel
theorem d_Terms_forgetAll_11 : decode b_Terms_forgetAll 11 = .ok (.iconst 0, 1) := by decide +kernel
theorem d_Terms_forgetAll_12 : decode b_Terms_forgetAll 12 = .ok (.invokevirtual 62, 3) := by decide +kernel
theorem d_Terms_forgetAll_15 : decode b_Terms_forgetAll 15 = .ok (.aload_n 0, 1) := by decide +kernel
theorem d_Terms_forgetAll_16 : decode b_Terms_forgetAll 16 = .ok (.iconst 0, 1) := by decide +kernel
theorem d_Terms_forgetAll_17 : decode b_Terms_forgetAll 17 = .ok (.putfield 37, 3) := by decide +kernel
theorem d_Terms_forgetAll_20 : decode b_Terms_forgetAll 20 = .ok (.aload_n 0, 1) := by decide +kernel
theorem d_Terms_forgetAll_21 : decode b_Terms_forgetAll 21 = .ok (.iconst 0, 1) := by decide +kernel
theorem d_Terms_forgetAll_22 : decode b_Terms_forgetAll 22 = .ok (.putfield 44, 3) := by decide +kernel
theorem d_Terms_forgetAll_25 : decode b_Terms_forgetAll 25 = .ok (.aload_n 0, 1) := by decide +kernel
theorem d_Terms_forgetAll_26 : decode b_Terms_forgetAll 26 = .ok (.getfield 34, 3) := by decide +kernel
theorem d_Terms_forgetAll_29 : decode b_Terms_forgetAll 29 = .ok (.iconst (-1), 1) := by decide +kernel
theorem d_Terms_forgetAll_30 : decode b_Terms_forgetAll 30 = .ok (.invokestatic 67, 3) := by decide +kernel
theorem d_Terms_forgetAll_33 : decode b_Terms_forgetAll 33 = .ok (.return_, 1) := by decide +kernel
def p_Terms_forgetAll (n : Nat) (a_nodes : Int32) (a_variables : Int32) (a_variablesLack : Int32) (a_symbols : Int32) (a_nodesBefore : Int32) (a_partsBefore : Int32) (a_variablesBefore : Int32) (a_parts_size : Int32) (a_became_n : Nat) (a_became_f : Nat → Int32) : Option (Int32 × Int32 × Int32 × Int32 × (Nat → Int32)) := (p_Ints_cut (0 : Int32) a_parts_size).bind (fun a_size_1 => (p_Arrays_fill n ((-1) : Int32) a_became_n a_became_f).bind (fun b_f_2 => some ((201 : Int32), (0 : Int32), (0 : Int32), a_size_1, b_f_2)))
set_option maxHeartbeats 4000000 in
set_option maxRecDepth 100000 in
theorem c_Terms_forgetAll (l : Launch) (g : va_G) (cs : Nat → ClassId) (ka : Nat → Nat) (a_shapes : Nat) (a_values : Nat) (a_firstParts : Nat) (a_variableNames : Nat) (a_parts_items : Nat) (a a_parts a_became : Nat) (sz : Nat) (n : Nat) (a_nodes : Int32) (a_variables : Int32) (a_variablesLack : Int32) (a_symbols : Int32) (a_nodesBefore : Int32) (a_partsBefore : Int32) (a_variablesBefore : Int32) (a_parts_size : Int32) (a_became_n : Nat) (a_became_f : Nat → Int32) (o_a_nodes : Int32) (o_a_variables : Int32) (o_a_symbols : Int32) (o_a_parts_size : Int32) (o_a_became_f : Nat → Int32) (hok : p_Terms_forgetAll n a_nodes a_variables a_variablesLack a_symbols a_nodesBefore a_partsBefore a_variablesBefore a_parts_size a_became_n a_became_f = some (o_a_nodes, o_a_variables, o_a_symbols, o_a_parts_size, o_a_became_f)) : Met l y_Terms_forgetAll (.code y_Terms_forgetAll b_Terms_forgetAll 1 none :: GW) { frames := 1, cells := 0, slots := 0, locals := 23 } (va_Pc [.ref a] (gP g cs ka [(a, .inr (7, [.ref a_shapes, .ref a_values, .ref a_firstParts, .int a_nodes, .ref a_parts, .ref a_variableNames, .ref a_became, .int a_variables, .int a_variablesLack, .int a_symbols, .int a_nodesBefore, .int a_partsBefore, .int a_variablesBefore])), (a_parts, .inr (1, [.ref a_parts_items, .int a_parts_size])), (a_became, .inl (cs 0, a_became_n, .inl a_became_f))] sz)) (va_Qv (fun _ : Unit => True) (fun _ t => va_P g classes [(a, .inr (7, [.ref a_shapes, .ref a_values, .ref a_firstParts, .int o_a_nodes, .ref a_parts, .ref a_variableNames, .ref a_became, .int o_a_variables, .int a_variablesLack, .int o_a_symbols, .int a_nodesBefore, .int a_partsBefore, .int a_variablesBefore])), (a_parts, .inr (1, [.ref a_parts_items, .int o_a_parts_size])), (a_became, .inl (cs 0, a_became_n, .inl o_a_became_f))] t.heap ∧ va_D (va_A [(a, .inr (7, [.ref a_shapes, .ref a_values, .ref a_firstParts, .int a_nodes, .ref a_parts, .ref a_variableNames, .ref a_became, .int a_variables, .int a_variablesLack, .int a_symbols, .int a_nodesBefore, .int a_partsBefore, .int a_variablesBefore])), (a_parts, .inr (1, [.ref a_parts_items, .int a_parts_size])), (a_became, .inl (cs 0, a_became_n, .inl a_became_f))] sz) [(a, .inr (7, [.ref a_shapes, .ref a_values, .ref a_firstParts, .int o_a_nodes, .ref a_parts, .ref a_variableNames, .ref a_became, .int o_a_variables, .int a_variablesLack, .int o_a_symbols, .int a_nodesBefore, .int a_partsBefore, .int a_variablesBefore])), (a_parts, .inr (1, [.ref a_parts_items, .int o_a_parts_size])), (a_became, .inl (cs 0, a_became_n, .inl o_a_became_f))]) (va_A [(a, .inr (7, [.ref a_shapes, .ref a_values, .ref a_firstParts, .int a_nodes, .ref a_parts, .ref a_variableNames, .ref a_became, .int a_variables, .int a_variablesLack, .int a_symbols, .int a_nodesBefore, .int a_partsBefore, .int a_variablesBefore])), (a_parts, .inr (1, [.ref a_parts_items, .int a_parts_size])), (a_became, .inl (cs 0, a_became_n, .inl a_became_f))] sz)) 0 0 (va_A [(a, .inr (7, [.ref a_shapes, .ref a_values, .ref a_firstParts, .int a_nodes, .ref a_parts, .ref a_variableNames, .ref a_became, .int a_variables, .int a_variablesLack, .int a_symbols, .int a_nodesBefore, .int a_partsBefore, .int a_variablesBefore])), (a_parts, .inr (1, [.ref a_parts_items, .int a_parts_size])), (a_became, .inl (cs 0, a_became_n, .inl a_became_f))] sz) := by
  refine Met.ofW (cc := b_Terms_forgetAll) (maxL := 1) (ret := none) (by decide) rfl ?_
  intro p e s m args below meth c s₁ B hml hv
  obtain ⟨rfl, hsz, hP, hK, hD0, hgl, hkn, hkr⟩ := hv
  have hx := B.exec
  have hb := B.bytes
  have hr := B.returns
  have hg : ∀ w ∈ GW, w.before ([.ref a] : List Value).toArray s = true := fun w hw => atoms_spec (ws := .code y_Terms_forgetAll b_Terms_forgetAll 1 none :: GW) B.pre w (List.mem_cons_of_mem _ hw)
  have hown : s.vm.findClass R_Terms = some m.cls := findClass_of_methodNamed B.named
  have hlocks := B.notSynchronized
  subst hsz
  have hD := hD0.self (sz := s.heap.size)
  generalize hAe : va_A [(a, .inr (7, [.ref a_shapes, .ref a_values, .ref a_firstParts, .int a_nodes, .ref a_parts, .ref a_variableNames, .ref a_became, .int a_variables, .int a_variablesLack, .int a_symbols, .int a_nodesBefore, .int a_partsBefore, .int a_variablesBefore])), (a_parts, .inr (1, [.ref a_parts_items, .int a_parts_size])), (a_became, .inl (cs 0, a_became_n, .inl a_became_f))] s.heap.size = A at hD hkn ⊢
  have hA : ∀ q : Nat, s.heap.size ≤ q → A q := fun q h => by rw [← hAe]; exact Or.inr h
  have hS : va_S A s.heap s.heap [] := va_S.rf
  have hP : va_P g classes [(a, .inr (7, [.ref a_shapes, .ref a_values, .ref a_firstParts, .int a_nodes, .ref a_parts, .ref a_variableNames, .ref a_became, .int a_variables, .int a_variablesLack, .int a_symbols, .int a_nodesBefore, .int a_partsBefore, .int a_variablesBefore])), (a_parts, .inr (1, [.ref a_parts_items, .int a_parts_size])), (a_became, .inl (cs 0, a_became_n, .inl a_became_f))] s.heap := hP
  have hl := lv_entry ([.ref a]) (n := 1) (Nat.le_of_ble_eq_true rfl)
  rw [lg_entry_eq]
  generalize (lg_sl ([.ref a]) ++ List.replicate (1 - (lg_sl ([.ref a])).length) Slot.unset).toArray = ls at hl ⊢
  have hl : lv_has ls 1 [(0, .ref a)] := hl
  refine gq (fun Q hQ => ?_)
  obtain ⟨H, hH⟩ : ∃ H : Heap, H = s.heap := ⟨_, rfl⟩
  rw [← hH] at hP
  have hS : va_S A s.heap H [] := by rw [hH]; exact hS
  refine W.eqH hH ?_
  obtain ⟨locs, hlc⟩ : ∃ L : List Loc, L = [] := ⟨_, rfl⟩
  rw [← hlc] at hS ⊢
  unfold p_Terms_forgetAll at hok
  refine lv_aload_n hx hb d_Terms_forgetAll_0 rfl (lv_at hl 0 rfl) ?_
  refine lv_sipush (v := 201) hx hb d_Terms_forgetAll_1 (by decide) ?_
  refine va_put (D := g) (ci := 7) (v := .int 201) (ty := .int) (C := R_Terms) (T := F_Terms) (N := 13) hx hb hg ul_Terms t_Terms tk_Terms n_Terms hown hK hP hD hS 0 rfl rfl 3 (by decide) (hg _ wd_231) (fun _ h9 => h9) rfl (by decide +kernel) rfl rfl (Nat.le_of_ble_eq_true rfl) d_Terms_forgetAll_4 (fun H locs hP hD hS => ?_)
  obtain ⟨hP, hD⟩ : PD g A H [(a, .inr (7, [.ref a_shapes, .ref a_values, .ref a_firstParts, .int 201, .ref a_parts, .ref a_variableNames, .ref a_became, .int a_variables, .int a_variablesLack, .int a_symbols, .int a_nodesBefore, .int a_partsBefore, .int a_variablesBefore])), (a_parts, .inr (1, [.ref a_parts_items, .int a_parts_size])), (a_became, .inl (cs 0, a_became_n, .inl a_became_f))] := ⟨hP, hD⟩
  refine lv_aload_n hx hb d_Terms_forgetAll_7 rfl (lv_at hl 0 rfl) ?_
  refine va_get (D := g) (ci := 7) (v := .ref a_parts) (C := R_Terms) (T := F_Terms) (N := 13) hx hb hg ul_Terms hown hK hP 0 rfl rfl 4 (by decide) (hg _ wd_238) (fun _ h9 => h9) rfl d_Terms_forgetAll_8 ?_
  refine lv_iconst (v := 0) hx hb d_Terms_forgetAll_11 (by decide) ?_
  obtain ⟨a_size_1, hc1, hok⟩ := bd_some hok
  obtain ⟨hPc, hDc, hFc⟩ := cut0 (wc := [(a_parts, .inr (1, [.ref a_parts_items, .int a_parts_size]))]) hP hD hS hA [1] (by decide) rfl
  refine va_callv (va_runV (As := [.int 0]) (rest := []) ⟨hx, hb, hml, hown, hg⟩ (c_Ints_cut l g cs ka a_parts_items a_parts H.size (0 : Int32) a_parts_size a_size_1 hc1) (cwV (C := R_Ints) 1 hg (gw_V wd_252 wd_253 wd_254 wd_234 wd_251) rfl rfl rfl (by decide +kernel) ⟨Nat.le_of_ble_eq_true rfl, Nat.le_of_ble_eq_true rfl⟩) ⟨gP_blind, va_recv (q0 := 1) (ci := 1) (q := (R_Ints, F_Ints, 2)) hK hP rfl rfl, gP_pre hPc hDc hK hgl hkn hkr hS hFc⟩ rfl rfl hl.1 rfl (lv_room (Nat.le_of_ble_eq_true rfl)) d_Terms_forgetAll_12 ⟨Nat.le_of_ble_eq_true rfl, Nat.le_of_ble_eq_true rfl⟩) hS (fun q _ h => hFc q h) hFc (fun u t H locs ht hvm hr1 hB hz1 hk1 hS => ?_)
  rw [ht] at hB
  obtain ⟨hP1, hD1⟩ := hB
  obtain ⟨hP, hD⟩ := jn_A hP hD [1] [0, 2] rfl rfl (by decide) (by decide) hk1 hFc hP1 hD1
  obtain ⟨hP, hD⟩ : PD g A H [(a, .inr (7, [.ref a_shapes, .ref a_values, .ref a_firstParts, .int 201, .ref a_parts, .ref a_variableNames, .ref a_became, .int a_variables, .int a_variablesLack, .int a_symbols, .int a_nodesBefore, .int a_partsBefore, .int a_variablesBefore])), (a_became, .inl (cs 0, a_became_n, .inl a_became_f)), (a_parts, .inr (1, [.ref a_parts_items, .int a_size_1]))] := ⟨hP, hD⟩
  refine lv_aload_n hx hb d_Terms_forgetAll_15 rfl (lv_at hl 0 rfl) ?_
  refine lv_iconst (v := 0) hx hb d_Terms_forgetAll_16 (by decide) ?_
  refine va_put (D := g) (ci := 7) (v := .int 0) (ty := .int) (C := R_Terms) (T := F_Terms) (N := 13) hx hb hg ul_Terms t_Terms tk_Terms n_Terms hown hK hP hD hS 0 rfl rfl 7 (by decide) (hg _ wd_241) (fun _ h9 => h9) rfl (by decide +kernel) rfl rfl (Nat.le_of_ble_eq_true rfl) d_Terms_forgetAll_17 (fun H locs hP hD hS => ?_)
  obtain ⟨hP, hD⟩ : PD g A H [(a, .inr (7, [.ref a_shapes, .ref a_values, .ref a_firstParts, .int 201, .ref a_parts, .ref a_variableNames, .ref a_became, .int 0, .int a_variablesLack, .int a_symbols, .int a_nodesBefore, .int a_partsBefore, .int a_variablesBefore])), (a_became, .inl (cs 0, a_became_n, .inl a_became_f)), (a_parts, .inr (1, [.ref a_parts_items, .int a_size_1]))] := ⟨hP, hD⟩
  refine lv_aload_n hx hb d_Terms_forgetAll_20 rfl (lv_at hl 0 rfl) ?_
  refine lv_iconst (v := 0) hx hb d_Terms_forgetAll_21 (by decide) ?_
  refine va_put (D := g) (ci := 7) (v := .int 0) (ty := .int) (C := R_Terms) (T := F_Terms) (N := 13) hx hb hg ul_Terms t_Terms tk_Terms n_Terms hown hK hP hD hS 0 rfl rfl 9 (by decide) (hg _ wd_243) (fun _ h9 => h9) rfl (by decide +kernel) rfl rfl (Nat.le_of_ble_eq_true rfl) d_Terms_forgetAll_22 (fun H locs hP hD hS => ?_)
  obtain ⟨hP, hD⟩ : PD g A H [(a, .inr (7, [.ref a_shapes, .ref a_values, .ref a_firstParts, .int 201, .ref a_parts, .ref a_variableNames, .ref a_became, .int 0, .int a_variablesLack, .int 0, .int a_nodesBefore, .int a_partsBefore, .int a_variablesBefore])), (a_became, .inl (cs 0, a_became_n, .inl a_became_f)), (a_parts, .inr (1, [.ref a_parts_items, .int a_size_1]))] := ⟨hP, hD⟩
  refine lv_aload_n hx hb d_Terms_forgetAll_25 rfl (lv_at hl 0 rfl) ?_
  refine va_get (D := g) (ci := 7) (v := .ref a_became) (C := R_Terms) (T := F_Terms) (N := 13) hx hb hg ul_Terms hown hK hP 0 rfl rfl 6 (by decide) (hg _ wd_240) (fun _ h9 => h9) rfl d_Terms_forgetAll_26 ?_
  refine lv_iconst (v := (-1)) hx hb d_Terms_forgetAll_29 (by decide) ?_
  obtain ⟨b_f_2, hc2, hok⟩ := bd_some hok
  obtain ⟨hPc, hDc, hFc⟩ := cut0 (wc := [(a_became, .inl (cs 0, a_became_n, .inl a_became_f))]) hP hD hS hA [1] (by decide) rfl
  refine va_callv (va_runS (As := [.ref a_became, .int (-1)]) (rest := []) ⟨hx, hb, hml, hown, hg⟩ (c_Arrays_fill l g cs ka a_became H.size n ((-1) : Int32) a_became_n a_became_f b_f_2 hc2) (va_cwS 2 hg (gw_S wd_257 wd_258 wd_154 wd_256) rfl rfl rfl (by decide +kernel) ⟨Nat.le_of_ble_eq_true rfl, Nat.le_of_ble_eq_true rfl⟩) ⟨gP_blind, gP_pre hPc hDc hK hgl hkn hkr hS hFc⟩ rfl rfl hl.1 rfl (lv_room (Nat.le_of_ble_eq_true rfl)) d_Terms_forgetAll_30 ⟨Nat.le_of_ble_eq_true rfl, Nat.le_of_ble_eq_true rfl⟩) hS (fun q _ h => hFc q h) hFc (fun u t H locs ht hvm hr2 hB hz1 hk1 hS => ?_)
  rw [ht] at hB
  obtain ⟨hP1, hD1⟩ := hB
  obtain ⟨hP, hD⟩ := jn_A hP hD [1] [0, 2] rfl rfl (by decide) (by decide) hk1 hFc hP1 hD1
  obtain ⟨hP, hD⟩ : PD g A H [(a, .inr (7, [.ref a_shapes, .ref a_values, .ref a_firstParts, .int 201, .ref a_parts, .ref a_variableNames, .ref a_became, .int 0, .int a_variablesLack, .int 0, .int a_nodesBefore, .int a_partsBefore, .int a_variablesBefore])), (a_parts, .inr (1, [.ref a_parts_items, .int a_size_1])), (a_became, .inl (cs 0, a_became_n, .inl b_f_2))] := ⟨hP, hD⟩
  have hq := Option.some.inj hok
  obtain ⟨hq0, hq⟩ := Prod.mk.inj hq
  obtain ⟨hq1, hq⟩ := Prod.mk.inj hq
  obtain ⟨hq2, hq⟩ := Prod.mk.inj hq
  obtain ⟨hq3, hq⟩ := Prod.mk.inj hq
  have hq4 := hq
  subst hq0
  subst hq1
  subst hq2
  subst hq3
  subst hq4
  obtain ⟨hP9, hD9⟩ := sub2 (ws' := [(a, .inr (7, [.ref a_shapes, .ref a_values, .ref a_firstParts, .int 201, .ref a_parts, .ref a_variableNames, .ref a_became, .int 0, .int a_variablesLack, .int 0, .int a_nodesBefore, .int a_partsBefore, .int a_variablesBefore])), (a_parts, .inr (1, [.ref a_parts_items, .int a_size_1])), (a_became, .inl (cs 0, a_became_n, .inl b_f_2))]) hP hD [0, 1, 2] rfl (by decide) rfl
  rw [hQ]
  exact W.vret hx hb hr (fun t ht hW => ⟨⟨(), rfl, trivial, by rw [ht]; exact hP9, hD9⟩, hS.F ht⟩) hS.2.2 d_Terms_forgetAll_33

theorem d_Terms_newNode_0 : decode b_Terms_newNode 0 = .ok (.aload_n 0, 1) := by decide +kernel
theorem d_Terms_newNode_1 : decode b_Terms_newNode 1 = .ok (.getfield 20, 3) := by decide +kernel
theorem d_Terms_newNode_4 : decode b_Terms_newNode 4 = .ok (.aload_n 0, 1) := by decide +kernel
theorem d_Terms_newNode_5 : decode b_Terms_newNode 5 = .ok (.getfield 9, 3) := by decide +kernel
theorem d_Terms_newNode_8 : decode b_Terms_newNode 8 = .ok (.arraylength, 1) := by decide +kernel
theorem d_Terms_newNode_9 : decode b_Terms_newNode 9 = .ok (.if_icmp .ne 54, 3) := by decide +kernel
theorem d_Terms_newNode_12 : decode b_Terms_newNode 12 = .ok (.aload_n 0, 1) := by decide +kernel
theorem d_Terms_newNode_13 : decode b_Terms_newNode 13 = .ok (.aload_n 0, 1) := by decide +kernel
theorem d_Terms_newNode_14 : decode b_Terms_newNode 14 = .ok (.getfield 9, 3) := by decide +kernel
theorem d_Terms_newNode_17 : decode b_Terms_newNode 17 = .ok (.iconst 2, 1) := by decide +kernel
theorem d_Terms_newNode_18 : decode b_Terms_newNode 18 = .ok (.aload_n 0, 1) := by decide +kernel
theorem d_Terms_newNode_19 : decode b_Terms_newNode 19 = .ok (.getfield 20, 3) := by decide +kernel
theorem d_Terms_newNode_22 : decode b_Terms_newNode 22 = .ok (.imul, 1) := by decide +kernel
theorem d_Terms_newNode_23 : decode b_Terms_newNode 23 = .ok (.invokestatic 93, 3) := by decide +kernel
theorem d_Terms_newNode_26 : decode b_Terms_newNode 26 = .ok (.putfield 9, 3) := by decide +kernel
theorem d_Terms_newNode_29 : decode b_Terms_newNode 29 = .ok (.aload_n 0, 1) := by decide +kernel
theorem d_Terms_newNode_30 : decode b_Terms_newNode 30 = .ok (.aload_n 0, 1) := by decide +kernel
theorem d_Terms_newNode_31 : decode b_Terms_newNode 31 = .ok (.getfield 13, 3) := by decide +kernel
theorem d_Terms_newNode_34 : decode b_Terms_newNode 34 = .ok (.iconst 2, 1) := by decide +kernel
theorem d_Terms_newNode_35 : decode b_Terms_newNode 35 = .ok (.aload_n 0, 1) := by decide +kernel
theorem d_Terms_newNode_36 : decode b_Terms_newNode 36 = .ok (.getfield 20, 3) := by decide +kernel
theorem d_Terms_newNode_39 : decode b_Terms_newNode 39 = .ok (.imul, 1) := by decide +kernel
theorem d_Terms_newNode_40 : decode b_Terms_newNode 40 = .ok (.invokestatic 97, 3) := by decide +kernel
theorem d_Terms_newNode_43 : decode b_Terms_newNode 43 = .ok (.putfield 13, 3) := by decide +kernel
theorem d_Terms_newNode_46 : decode b_Terms_newNode 46 = .ok (.aload_n 0, 1) := by decide +kernel
theorem d_Terms_newNode_47 : decode b_Terms_newNode 47 = .ok (.aload_n 0, 1) := by decide +kernel
theorem d_Terms_newNode_48 : decode b_Terms_newNode 48 = .ok (.getfield 17, 3) := by decide +kernel
theorem d_Terms_newNode_51 : decode b_Terms_newNode 51 = .ok (.iconst 2, 1) := by decide +kernel
theorem d_Terms_newNode_52 : decode b_Terms_newNode 52 = .ok (.aload_n 0, 1) := by decide +kernel
theorem d_Terms_newNode_53 : decode b_Terms_newNode 53 = .ok (.getfield 20, 3) := by decide +kernel
theorem d_Terms_newNode_56 : decode b_Terms_newNode 56 = .ok (.imul, 1) := by decide +kernel
theorem d_Terms_newNode_57 : decode b_Terms_newNode 57 = .ok (.invokestatic 93, 3) := by decide +kernel
theorem d_Terms_newNode_60 : decode b_Terms_newNode 60 = .ok (.putfield 17, 3) := by decide +kernel
theorem d_Terms_newNode_63 : decode b_Terms_newNode 63 = .ok (.aload_n 0, 1) := by decide +kernel
theorem d_Terms_newNode_64 : decode b_Terms_newNode 64 = .ok (.getfield 9, 3) := by decide +kernel
theorem d_Terms_newNode_67 : decode b_Terms_newNode 67 = .ok (.aload_n 0, 1) := by decide +kernel
theorem d_Terms_newNode_68 : decode b_Terms_newNode 68 = .ok (.getfield 20, 3) := by decide +kernel
theorem d_Terms_newNode_71 : decode b_Terms_newNode 71 = .ok (.iload_n 1, 1) := by decide +kernel
theorem d_Terms_newNode_72 : decode b_Terms_newNode 72 = .ok (.iastore, 1) := by decide +kernel
theorem d_Terms_newNode_73 : decode b_Terms_newNode 73 = .ok (.aload_n 0, 1) := by decide +kernel
theorem d_Terms_newNode_74 : decode b_Terms_newNode 74 = .ok (.getfield 13, 3) := by decide +kernel
theorem d_Terms_newNode_77 : decode b_Terms_newNode 77 = .ok (.aload_n 0, 1) := by decide +kernel
theorem d_Terms_newNode_78 : decode b_Terms_newNode 78 = .ok (.getfield 20, 3) := by decide +kernel
theorem d_Terms_newNode_81 : decode b_Terms_newNode 81 = .ok (.lload_n 2, 1) := by decide +kernel
theorem d_Terms_newNode_82 : decode b_Terms_newNode 82 = .ok (.lastore, 1) := by decide +kernel
theorem d_Terms_newNode_83 : decode b_Terms_newNode 83 = .ok (.aload_n 0, 1) := by decide +kernel
theorem d_Terms_newNode_84 : decode b_Terms_newNode 84 = .ok (.getfield 17, 3) := by decide +kernel
theorem d_Terms_newNode_87 : decode b_Terms_newNode 87 = .ok (.aload_n 0, 1) := by decide +kernel
theorem d_Terms_newNode_88 : decode b_Terms_newNode 88 = .ok (.getfield 20, 3) := by decide +kernel
theorem d_Terms_newNode_91 : decode b_Terms_newNode 91 = .ok (.aload_n 0, 1) := by decide +kernel
theorem d_Terms_newNode_92 : decode b_Terms_newNode 92 = .ok (.getfield 27, 3) := by decide +kernel
theorem d_Terms_newNode_95 : decode b_Terms_newNode 95 = .ok (.invokevirtual 58, 3) := by decide +kernel
theorem d_Terms_newNode_98 : decode b_Terms_newNode 98 = .ok (.iastore, 1) := by decide +kernel
theorem d_Terms_newNode_99 : decode b_Terms_newNode 99 = .ok (.aload_n 0, 1) := by decide +kernel
theorem d_Terms_newNode_100 : decode b_Terms_newNode 100 = .ok (.dup, 1) := by decide +kernel
theorem d_Terms_newNode_101 : decode b_Terms_newNode 101 = .ok (.getfield 20, 3) := by decide +kernel
theorem d_Terms_newNode_104 : decode b_Terms_newNode 104 = .ok (.iconst 1, 1) := by decide +kernel
theorem d_Terms_newNode_105 : decode b_Terms_newNode 105 = .ok (.iadd, 1) := by decide +kernel
theorem d_Terms_newNode_106 : decode b_Terms_newNode 106 = .ok (.putfield 20, 3) := by decide +kernel
theorem d_Terms_newNode_109 : decode b_Terms_newNode 109 = .ok (.aload_n 0, 1) := by decide +kernel
theorem d_Terms_newNode_110 : decode b_Terms_newNode 110 = .ok (.getfield 20, 3) := by decide +kernel
theorem d_Terms_newNode_113 : decode b_Terms_newNode 113 = .ok (.iconst 1, 1) := by decide +kernel
theorem d_Terms_newNode_114 : decode b_Terms_newNode 114 = .ok (.isub, 1) := by decide +kernel
theorem d_Terms_newNode_115 : decode b_Terms_newNode 115 = .ok (.ireturn, 1) := by decide +kernel
def p_Terms_newNode (shape : Int32) (value : Int64) (a_nodes : Int32) (a_variables : Int32) (a_variablesLack : Int32) (a_symbols : Int32) (a_nodesBefore : Int32) (a_partsBefore : Int32) (a_variablesBefore : Int32) (a_shapes_n : Nat) (a_shapes_f : Nat → Int32) (a_values_n : Nat) (a_values_f : Nat → Int64) (a_firstParts_n : Nat) (a_firstParts_f : Nat → Int32) (a_parts_size : Int32) : Option ((Int32 × Int32 × Nat × (Nat → Int32) × Nat × (Nat → Int64) × Nat × (Nat → Int32)) × Nat × Nat) := if a_nodes = (Int32.ofNat a_shapes_n) then ((p_Arrays_copyOf_aII (2 * a_nodes) a_shapes_n a_shapes_f).bind (fun ((ret_n_6, ret_f_6), mk6, sk6) => al mk6 sk6 ((p_Arrays_copyOf_aJI (2 * a_nodes) a_values_n a_values_f).bind (fun ((ret_n_7, ret_f_7), mk7, sk7) => al mk7 sk7 ((p_Arrays_copyOf_aII (2 * a_nodes) a_firstParts_n a_firstParts_f).bind (fun ((ret_n_8, ret_f_8), mk8, sk8) => al mk8 sk8 (ck (ixb a_nodes ret_n_6) (ck (ixb a_nodes ret_n_7) ((p_Ints_size a_parts_size).bind (fun r11 => ck (ixb a_nodes ret_n_8) (some (((a_nodes + 1) - 1, a_nodes + 1, ret_n_6, upd ret_f_6 a_nodes.toNatClampNeg shape, ret_n_7, vp_updL ret_f_7 a_nodes.toNatClampNeg value, ret_n_8, upd ret_f_8 a_nodes.toNatClampNeg r11), 0, 0)))))))))))) else (ck (ixb a_nodes a_shapes_n) (ck (ixb a_nodes a_values_n) ((p_Ints_size a_parts_size).bind (fun r4 => ck (ixb a_nodes a_firstParts_n) (some (((a_nodes + 1) - 1, a_nodes + 1, a_shapes_n, upd a_shapes_f a_nodes.toNatClampNeg shape, a_values_n, vp_updL a_values_f a_nodes.toNatClampNeg value, a_firstParts_n, upd a_firstParts_f a_nodes.toNatClampNeg r4), 0, 0))))))
set_option maxHeartbeats 4000000 in
set_option maxRecDepth 100000 in
theorem c_Terms_newNode (l : Launch) (g : va_G) (cs : Nat → ClassId) (ka : Nat → Nat) (a_variableNames : Nat) (a_became : Nat) (a_parts_items : Nat) (a a_shapes a_values a_firstParts a_parts : Nat) (sz : Nat) (shape : Int32) (value : Int64) (a_nodes : Int32) (a_variables : Int32) (a_variablesLack : Int32) (a_symbols : Int32) (a_nodesBefore : Int32) (a_partsBefore : Int32) (a_variablesBefore : Int32) (a_shapes_n : Nat) (a_shapes_f : Nat → Int32) (a_values_n : Nat) (a_values_f : Nat → Int64) (a_firstParts_n : Nat) (a_firstParts_f : Nat → Int32) (a_parts_size : Int32) (r : Int32) (o_a_nodes : Int32) (o_a_shapes_n : Nat) (o_a_shapes_f : Nat → Int32) (o_a_values_n : Nat) (o_a_values_f : Nat → Int64) (o_a_firstParts_n : Nat) (o_a_firstParts_f : Nat → Int32) (mc ms : Nat) (hok : p_Terms_newNode shape value a_nodes a_variables a_variablesLack a_symbols a_nodesBefore a_partsBefore a_variablesBefore a_shapes_n a_shapes_f a_values_n a_values_f a_firstParts_n a_firstParts_f a_parts_size = some ((r, o_a_nodes, o_a_shapes_n, o_a_shapes_f, o_a_values_n, o_a_values_f, o_a_firstParts_n, o_a_firstParts_f), mc, ms)) : Met l y_Terms_newNode (.code y_Terms_newNode b_Terms_newNode 4 (some .int) :: GW) { frames := 2, cells := mc, slots := ms, locals := 122 } (va_Pc [.ref a, .int shape, .long value] (gP g cs ka [(a, .inr (7, [.ref a_shapes, .ref a_values, .ref a_firstParts, .int a_nodes, .ref a_parts, .ref a_variableNames, .ref a_became, .int a_variables, .int a_variablesLack, .int a_symbols, .int a_nodesBefore, .int a_partsBefore, .int a_variablesBefore])), (a_shapes, .inl (cs 0, a_shapes_n, .inl a_shapes_f)), (a_values, .inl (cs 2, a_values_n, .inr (.inl a_values_f))), (a_firstParts, .inl (cs 0, a_firstParts_n, .inl a_firstParts_f)), (a_parts, .inr (1, [.ref a_parts_items, .int a_parts_size]))] sz)) (va_Qi (fun (r' : Int32) (_ : Unit) => r = r') (fun _ t => ∃ b_a_shapes b_a_values b_a_firstParts : Nat, va_P g classes [(a, .inr (7, [.ref b_a_shapes, .ref b_a_values, .ref b_a_firstParts, .int o_a_nodes, .ref a_parts, .ref a_variableNames, .ref a_became, .int a_variables, .int a_variablesLack, .int a_symbols, .int a_nodesBefore, .int a_partsBefore, .int a_variablesBefore])), (b_a_shapes, .inl (cs 0, o_a_shapes_n, .inl o_a_shapes_f)), (b_a_values, .inl (cs 2, o_a_values_n, .inr (.inl o_a_values_f))), (b_a_firstParts, .inl (cs 0, o_a_firstParts_n, .inl o_a_firstParts_f)), (a_parts, .inr (1, [.ref a_parts_items, .int a_parts_size]))] t.heap ∧ va_D (va_A [(a, .inr (7, [.ref a_shapes, .ref a_values, .ref a_firstParts, .int a_nodes, .ref a_parts, .ref a_variableNames, .ref a_became, .int a_variables, .int a_variablesLack, .int a_symbols, .int a_nodesBefore, .int a_partsBefore, .int a_variablesBefore])), (a_shapes, .inl (cs 0, a_shapes_n, .inl a_shapes_f)), (a_values, .inl (cs 2, a_values_n, .inr (.inl a_values_f))), (a_firstParts, .inl (cs 0, a_firstParts_n, .inl a_firstParts_f)), (a_parts, .inr (1, [.ref a_parts_items, .int a_parts_size]))] sz) [(a, .inr (7, [.ref b_a_shapes, .ref b_a_values, .ref b_a_firstParts, .int o_a_nodes, .ref a_parts, .ref a_variableNames, .ref a_became, .int a_variables, .int a_variablesLack, .int a_symbols, .int a_nodesBefore, .int a_partsBefore, .int a_variablesBefore])), (b_a_shapes, .inl (cs 0, o_a_shapes_n, .inl o_a_shapes_f)), (b_a_values, .inl (cs 2, o_a_values_n, .inr (.inl o_a_values_f))), (b_a_firstParts, .inl (cs 0, o_a_firstParts_n, .inl o_a_firstParts_f)), (a_parts, .inr (1, [.ref a_parts_items, .int a_parts_size]))]) (va_A [(a, .inr (7, [.ref a_shapes, .ref a_values, .ref a_firstParts, .int a_nodes, .ref a_parts, .ref a_variableNames, .ref a_became, .int a_variables, .int a_variablesLack, .int a_symbols, .int a_nodesBefore, .int a_partsBefore, .int a_variablesBefore])), (a_shapes, .inl (cs 0, a_shapes_n, .inl a_shapes_f)), (a_values, .inl (cs 2, a_values_n, .inr (.inl a_values_f))), (a_firstParts, .inl (cs 0, a_firstParts_n, .inl a_firstParts_f)), (a_parts, .inr (1, [.ref a_parts_items, .int a_parts_size]))] sz)) mc ms (va_A [(a, .inr (7, [.ref a_shapes, .ref a_values, .ref a_firstParts, .int a_nodes, .ref a_parts, .ref a_variableNames, .ref a_became, .int a_variables, .int a_variablesLack, .int a_symbols, .int a_nodesBefore, .int a_partsBefore, .int a_variablesBefore])), (a_shapes, .inl (cs 0, a_shapes_n, .inl a_shapes_f)), (a_values, .inl (cs 2, a_values_n, .inr (.inl a_values_f))), (a_firstParts, .inl (cs 0, a_firstParts_n, .inl a_firstParts_f)), (a_parts, .inr (1, [.ref a_parts_items, .int a_parts_size]))] sz) := by
  refine Met.ofW (cc := b_Terms_newNode) (maxL := 4) (ret := (some .int)) (by decide) rfl ?_
  intro p e s m args below meth c s₁ B hml hv
  obtain ⟨rfl, hsz, hP, hK, hD0, hgl, hkn, hkr⟩ := hv
  have hx := B.exec
  have hb := B.bytes
  have hr := B.returns
  have hg : ∀ w ∈ GW, w.before ([.ref a, .int shape, .long value] : List Value).toArray s = true := fun w hw => atoms_spec (ws := .code y_Terms_newNode b_Terms_newNode 4 (some .int) :: GW) B.pre w (List.mem_cons_of_mem _ hw)
  have hown : s.vm.findClass R_Terms = some m.cls := findClass_of_methodNamed B.named
  have hlocks := B.notSynchronized
  subst hsz
  have hD := hD0.self (sz := s.heap.size)
  generalize hAe : va_A [(a, .inr (7, [.ref a_shapes, .ref a_values, .ref a_firstParts, .int a_nodes, .ref a_parts, .ref a_variableNames, .ref a_became, .int a_variables, .int a_variablesLack, .int a_symbols, .int a_nodesBefore, .int a_partsBefore, .int a_variablesBefore])), (a_shapes, .inl (cs 0, a_shapes_n, .inl a_shapes_f)), (a_values, .inl (cs 2, a_values_n, .inr (.inl a_values_f))), (a_firstParts, .inl (cs 0, a_firstParts_n, .inl a_firstParts_f)), (a_parts, .inr (1, [.ref a_parts_items, .int a_parts_size]))] s.heap.size = A at hD hkn ⊢
  have hA : ∀ q : Nat, s.heap.size ≤ q → A q := fun q h => by rw [← hAe]; exact Or.inr h
  have hS : va_S A s.heap s.heap [] := va_S.rf
  have hP : va_P g classes [(a, .inr (7, [.ref a_shapes, .ref a_values, .ref a_firstParts, .int a_nodes, .ref a_parts, .ref a_variableNames, .ref a_became, .int a_variables, .int a_variablesLack, .int a_symbols, .int a_nodesBefore, .int a_partsBefore, .int a_variablesBefore])), (a_shapes, .inl (cs 0, a_shapes_n, .inl a_shapes_f)), (a_values, .inl (cs 2, a_values_n, .inr (.inl a_values_f))), (a_firstParts, .inl (cs 0, a_firstParts_n, .inl a_firstParts_f)), (a_parts, .inr (1, [.ref a_parts_items, .int a_parts_size]))] s.heap := hP
  have hl := lv_entry ([.ref a, .int shape, .long value]) (n := 4) (Nat.le_of_ble_eq_true rfl)
  rw [lg_entry_eq]
  generalize (lg_sl ([.ref a, .int shape, .long value]) ++ List.replicate (4 - (lg_sl ([.ref a, .int shape, .long value])).length) Slot.unset).toArray = ls at hl ⊢
  have hl : lv_has ls 4 [(0, .ref a), (1, .int shape), (2, .long value)] := hl
  refine gq (fun Q hQ => ?_)
  obtain ⟨H, hH⟩ : ∃ H : Heap, H = s.heap := ⟨_, rfl⟩
  rw [← hH] at hP
  have hS : va_S A s.heap H [] := by rw [hH]; exact hS
  refine W.eqH hH ?_
  obtain ⟨locs, hlc⟩ : ∃ L : List Loc, L = [] := ⟨_, rfl⟩
  rw [← hlc] at hS ⊢
  unfold p_Terms_newNode at hok
  refine lv_aload_n hx hb d_Terms_newNode_0 rfl (lv_at hl 0 rfl) ?_
  refine va_get (D := g) (ci := 7) (v := .int a_nodes) (C := R_Terms) (T := F_Terms) (N := 13) hx hb hg ul_Terms hown hK hP 0 rfl rfl 3 (by decide) (hg _ wd_231) (fun _ h9 => h9) rfl d_Terms_newNode_1 ?_
  refine lv_aload_n hx hb d_Terms_newNode_4 rfl (lv_at hl 0 rfl) ?_
  refine va_get (D := g) (ci := 7) (v := .ref a_shapes) (C := R_Terms) (T := F_Terms) (N := 13) hx hb hg ul_Terms hown hK hP 0 rfl rfl 0 (by decide) (hg _ wd_228) (fun _ h9 => h9) rfl d_Terms_newNode_5 ?_
  refine va_alen (v := Int32.ofNat a_shapes_n) hx hb hK hP 1 0 rfl rfl rfl d_Terms_newNode_8 ?_
  refine lv_icmp_ne hx hb d_Terms_newNode_9 rfl (fun h1 => ?_) (fun h1 => ?_)
  · rw [if_neg h1] at hok
    refine lv_aload_n hx hb d_Terms_newNode_63 rfl (lv_at hl 0 rfl) ?_
    refine va_get (D := g) (ci := 7) (v := .ref a_shapes) (C := R_Terms) (T := F_Terms) (N := 13) hx hb hg ul_Terms hown hK hP 0 rfl rfl 0 (by decide) (hg _ wd_228) (fun _ h9 => h9) rfl d_Terms_newNode_64 ?_
    refine lv_aload_n hx hb d_Terms_newNode_67 rfl (lv_at hl 0 rfl) ?_
    refine va_get (D := g) (ci := 7) (v := .int a_nodes) (C := R_Terms) (T := F_Terms) (N := 13) hx hb hg ul_Terms hown hK hP 0 rfl rfl 3 (by decide) (hg _ wd_231) (fun _ h9 => h9) rfl d_Terms_newNode_68 ?_
    refine lv_iload_n hx hb d_Terms_newNode_71 rfl (lv_at hl 1 rfl) ?_
    obtain ⟨hi2, hok⟩ := ck_some hok
    refine va_iast hx hb hK hP hD hS 1 0 rfl rfl (ixb_in hi2) d_Terms_newNode_72 (fun H locs hP hD hS => ?_)
    obtain ⟨hP, hD⟩ : PD g A H [(a, .inr (7, [.ref a_shapes, .ref a_values, .ref a_firstParts, .int a_nodes, .ref a_parts, .ref a_variableNames, .ref a_became, .int a_variables, .int a_variablesLack, .int a_symbols, .int a_nodesBefore, .int a_partsBefore, .int a_variablesBefore])), (a_shapes, .inl (cs 0, a_shapes_n, .inl (upd a_shapes_f a_nodes.toNatClampNeg shape))), (a_values, .inl (cs 2, a_values_n, .inr (.inl a_values_f))), (a_firstParts, .inl (cs 0, a_firstParts_n, .inl a_firstParts_f)), (a_parts, .inr (1, [.ref a_parts_items, .int a_parts_size]))] := ⟨hP, hD⟩
    refine lv_aload_n hx hb d_Terms_newNode_73 rfl (lv_at hl 0 rfl) ?_
    refine va_get (D := g) (ci := 7) (v := .ref a_values) (C := R_Terms) (T := F_Terms) (N := 13) hx hb hg ul_Terms hown hK hP 0 rfl rfl 1 (by decide) (hg _ wd_229) (fun _ h9 => h9) rfl d_Terms_newNode_74 ?_
    refine lv_aload_n hx hb d_Terms_newNode_77 rfl (lv_at hl 0 rfl) ?_
    refine va_get (D := g) (ci := 7) (v := .int a_nodes) (C := R_Terms) (T := F_Terms) (N := 13) hx hb hg ul_Terms hown hK hP 0 rfl rfl 3 (by decide) (hg _ wd_231) (fun _ h9 => h9) rfl d_Terms_newNode_78 ?_
    refine lv_lload_n hx hb d_Terms_newNode_81 rfl (lv_at hl 2 rfl) ?_
    obtain ⟨hi3, hok⟩ := ck_some hok
    refine va_last hx hb hK hP hD hS 2 2 rfl rfl (ixb_in hi3) d_Terms_newNode_82 (fun H locs hP hD hS => ?_)
    obtain ⟨hP, hD⟩ : PD g A H [(a, .inr (7, [.ref a_shapes, .ref a_values, .ref a_firstParts, .int a_nodes, .ref a_parts, .ref a_variableNames, .ref a_became, .int a_variables, .int a_variablesLack, .int a_symbols, .int a_nodesBefore, .int a_partsBefore, .int a_variablesBefore])), (a_shapes, .inl (cs 0, a_shapes_n, .inl (upd a_shapes_f a_nodes.toNatClampNeg shape))), (a_values, .inl (cs 2, a_values_n, .inr (.inl (vp_updL a_values_f a_nodes.toNatClampNeg value)))), (a_firstParts, .inl (cs 0, a_firstParts_n, .inl a_firstParts_f)), (a_parts, .inr (1, [.ref a_parts_items, .int a_parts_size]))] := ⟨hP, hD⟩
    refine lv_aload_n hx hb d_Terms_newNode_83 rfl (lv_at hl 0 rfl) ?_
    refine va_get (D := g) (ci := 7) (v := .ref a_firstParts) (C := R_Terms) (T := F_Terms) (N := 13) hx hb hg ul_Terms hown hK hP 0 rfl rfl 2 (by decide) (hg _ wd_230) (fun _ h9 => h9) rfl d_Terms_newNode_84 ?_
    refine lv_aload_n hx hb d_Terms_newNode_87 rfl (lv_at hl 0 rfl) ?_
    refine va_get (D := g) (ci := 7) (v := .int a_nodes) (C := R_Terms) (T := F_Terms) (N := 13) hx hb hg ul_Terms hown hK hP 0 rfl rfl 3 (by decide) (hg _ wd_231) (fun _ h9 => h9) rfl d_Terms_newNode_88 ?_
    refine lv_aload_n hx hb d_Terms_newNode_91 rfl (lv_at hl 0 rfl) ?_
    refine va_get (D := g) (ci := 7) (v := .ref a_parts) (C := R_Terms) (T := F_Terms) (N := 13) hx hb hg ul_Terms hown hK hP 0 rfl rfl 4 (by decide) (hg _ wd_238) (fun _ h9 => h9) rfl d_Terms_newNode_92 ?_
    obtain ⟨r4, hc4, hok⟩ := bd_some hok
    obtain ⟨hPc, hDc, hFc⟩ := cut0 (wc := [(a_parts, .inr (1, [.ref a_parts_items, .int a_parts_size]))]) hP hD hS hA [4] (by decide) rfl
    refine va_calli (va_runV (As := []) (rest := [.int a_nodes, .ref a_firstParts]) ⟨hx, hb, hml, hown, hg⟩ (c_Ints_size l g cs ka a_parts_items a_parts H.size a_parts_size r4 hc4) (cwV (C := R_Ints) 0 hg (gw_V wd_248 wd_249 wd_250 wd_234 wd_247) rfl rfl rfl (by decide +kernel) ⟨Nat.le_of_ble_eq_true rfl, Nat.le_of_ble_eq_true rfl⟩) ⟨gP_blind, va_recv (q0 := 4) (ci := 1) (q := (R_Ints, F_Ints, 2)) hK hP rfl rfl, gP_pre hPc hDc hK hgl hkn hkr hS hFc⟩ rfl rfl hl.1 rfl (lv_room (Nat.le_of_ble_eq_true rfl)) d_Terms_newNode_95 ⟨show 0 + 0 ≤ mc from by omega, show 0 + 0 ≤ ms from by omega⟩) hS (fun q _ h => hFc q h) hFc (fun r4' u t H locs ht hvm hr4 hB hz1 hk1 hS => ?_)
    subst hr4
    rw [ht] at hB
    obtain ⟨hP1, hD1⟩ := hB
    obtain ⟨hP, hD⟩ := jn_A hP hD [4] [0, 1, 2, 3] rfl rfl (by decide) (by decide) hk1 hFc hP1 hD1
    obtain ⟨hP, hD⟩ : PD g A H [(a, .inr (7, [.ref a_shapes, .ref a_values, .ref a_firstParts, .int a_nodes, .ref a_parts, .ref a_variableNames, .ref a_became, .int a_variables, .int a_variablesLack, .int a_symbols, .int a_nodesBefore, .int a_partsBefore, .int a_variablesBefore])), (a_shapes, .inl (cs 0, a_shapes_n, .inl (upd a_shapes_f a_nodes.toNatClampNeg shape))), (a_values, .inl (cs 2, a_values_n, .inr (.inl (vp_updL a_values_f a_nodes.toNatClampNeg value)))), (a_firstParts, .inl (cs 0, a_firstParts_n, .inl a_firstParts_f)), (a_parts, .inr (1, [.ref a_parts_items, .int a_parts_size]))] := ⟨hP, hD⟩
    obtain ⟨hi5, hok⟩ := ck_some hok
    refine va_iast hx hb hK hP hD hS 3 0 rfl rfl (ixb_in hi5) d_Terms_newNode_98 (fun H locs hP hD hS => ?_)
    obtain ⟨hP, hD⟩ : PD g A H [(a, .inr (7, [.ref a_shapes, .ref a_values, .ref a_firstParts, .int a_nodes, .ref a_parts, .ref a_variableNames, .ref a_became, .int a_variables, .int a_variablesLack, .int a_symbols, .int a_nodesBefore, .int a_partsBefore, .int a_variablesBefore])), (a_shapes, .inl (cs 0, a_shapes_n, .inl (upd a_shapes_f a_nodes.toNatClampNeg shape))), (a_values, .inl (cs 2, a_values_n, .inr (.inl (vp_updL a_values_f a_nodes.toNatClampNeg value)))), (a_firstParts, .inl (cs 0, a_firstParts_n, .inl (upd a_firstParts_f a_nodes.toNatClampNeg r4))), (a_parts, .inr (1, [.ref a_parts_items, .int a_parts_size]))] := ⟨hP, hD⟩
    refine lv_aload_n hx hb d_Terms_newNode_99 rfl (lv_at hl 0 rfl) ?_
    refine lv_dup hx hb d_Terms_newNode_100 rfl ?_
    refine va_get (D := g) (ci := 7) (v := .int a_nodes) (C := R_Terms) (T := F_Terms) (N := 13) hx hb hg ul_Terms hown hK hP 0 rfl rfl 3 (by decide) (hg _ wd_231) (fun _ h9 => h9) rfl d_Terms_newNode_101 ?_
    refine lv_iconst (v := 1) hx hb d_Terms_newNode_104 (by decide) ?_
    refine lv_iadd hx hb d_Terms_newNode_105 ?_
    refine va_put (D := g) (ci := 7) (v := .int (a_nodes + 1)) (ty := .int) (C := R_Terms) (T := F_Terms) (N := 13) hx hb hg ul_Terms t_Terms tk_Terms n_Terms hown hK hP hD hS 0 rfl rfl 3 (by decide) (hg _ wd_231) (fun _ h9 => h9) rfl (by decide +kernel) rfl rfl (Nat.le_of_ble_eq_true rfl) d_Terms_newNode_106 (fun H locs hP hD hS => ?_)
    obtain ⟨hP, hD⟩ : PD g A H [(a, .inr (7, [.ref a_shapes, .ref a_values, .ref a_firstParts, .int (a_nodes + 1), .ref a_parts, .ref a_variableNames, .ref a_became, .int a_variables, .int a_variablesLack, .int a_symbols, .int a_nodesBefore, .int a_partsBefore, .int a_variablesBefore])), (a_shapes, .inl (cs 0, a_shapes_n, .inl (upd a_shapes_f a_nodes.toNatClampNeg shape))), (a_values, .inl (cs 2, a_values_n, .inr (.inl (vp_updL a_values_f a_nodes.toNatClampNeg value)))), (a_firstParts, .inl (cs 0, a_firstParts_n, .inl (upd a_firstParts_f a_nodes.toNatClampNeg r4))), (a_parts, .inr (1, [.ref a_parts_items, .int a_parts_size]))] := ⟨hP, hD⟩
    refine lv_aload_n hx hb d_Terms_newNode_109 rfl (lv_at hl 0 rfl) ?_
    refine va_get (D := g) (ci := 7) (v := .int (a_nodes + 1)) (C := R_Terms) (T := F_Terms) (N := 13) hx hb hg ul_Terms hown hK hP 0 rfl rfl 3 (by decide) (hg _ wd_231) (fun _ h9 => h9) rfl d_Terms_newNode_110 ?_
    refine lv_iconst (v := 1) hx hb d_Terms_newNode_113 (by decide) ?_
    refine lv_isub hx hb d_Terms_newNode_114 ?_
    obtain ⟨hq, hw⟩ := Prod.mk.inj (Option.some.inj hok)
    obtain ⟨hmc0, hms0⟩ := Prod.mk.inj hw
    obtain ⟨hq0, hq⟩ := Prod.mk.inj hq
    obtain ⟨hq1, hq⟩ := Prod.mk.inj hq
    obtain ⟨hq2, hq⟩ := Prod.mk.inj hq
    obtain ⟨hq3, hq⟩ := Prod.mk.inj hq
    obtain ⟨hq4, hq⟩ := Prod.mk.inj hq
    obtain ⟨hq5, hq⟩ := Prod.mk.inj hq
    obtain ⟨hq6, hq⟩ := Prod.mk.inj hq
    have hq7 := hq
    subst hq0
    subst hq1
    subst hq2
    subst hq3
    subst hq4
    subst hq5
    subst hq6
    subst hq7
    obtain ⟨hP9, hD9⟩ := sub2 (ws' := [(a, .inr (7, [.ref a_shapes, .ref a_values, .ref a_firstParts, .int (a_nodes + 1), .ref a_parts, .ref a_variableNames, .ref a_became, .int a_variables, .int a_variablesLack, .int a_symbols, .int a_nodesBefore, .int a_partsBefore, .int a_variablesBefore])), (a_shapes, .inl (cs 0, a_shapes_n, .inl (upd a_shapes_f a_nodes.toNatClampNeg shape))), (a_values, .inl (cs 2, a_values_n, .inr (.inl (vp_updL a_values_f a_nodes.toNatClampNeg value)))), (a_firstParts, .inl (cs 0, a_firstParts_n, .inl (upd a_firstParts_f a_nodes.toNatClampNeg r4))), (a_parts, .inr (1, [.ref a_parts_items, .int a_parts_size]))]) hP hD [0, 1, 2, 3, 4] rfl (by decide) rfl
    refine W.widen (k := mc) (n := ms) (by omega) (by omega) ?_
    rw [hQ]
    exact W.iret (v := (a_nodes + 1) - 1) hx hb hr (fun t ht hW => ⟨⟨_, (), rfl, rfl, a_shapes, a_values, a_firstParts, by rw [ht]; exact hP9, hD9⟩, hS.F ht⟩) hS.2.2 d_Terms_newNode_115
  · rw [if_pos h1] at hok
    refine lv_aload_n hx hb d_Terms_newNode_12 rfl (lv_at hl 0 rfl) ?_
    refine lv_aload_n hx hb d_Terms_newNode_13 rfl (lv_at hl 0 rfl) ?_
    refine va_get (D := g) (ci := 7) (v := .ref a_shapes) (C := R_Terms) (T := F_Terms) (N := 13) hx hb hg ul_Terms hown hK hP 0 rfl rfl 0 (by decide) (hg _ wd_228) (fun _ h9 => h9) rfl d_Terms_newNode_14 ?_
    refine lv_iconst (v := 2) hx hb d_Terms_newNode_17 (by decide) ?_
    refine lv_aload_n hx hb d_Terms_newNode_18 rfl (lv_at hl 0 rfl) ?_
    refine va_get (D := g) (ci := 7) (v := .int a_nodes) (C := R_Terms) (T := F_Terms) (N := 13) hx hb hg ul_Terms hown hK hP 0 rfl rfl 3 (by decide) (hg _ wd_231) (fun _ h9 => h9) rfl d_Terms_newNode_19 ?_
    refine lv_imul hx hb d_Terms_newNode_22 ?_
    obtain ⟨⟨⟨ret_n_6, ret_f_6⟩, mk6, sk6⟩, hc6, hok⟩ := bd_some hok
    dsimp only at hok
    obtain ⟨m6, s6, hok, hmc6, hms6⟩ := al_some hok
    obtain ⟨hPc, hDc, hFc⟩ := cut0 (wc := [(a_shapes, .inl (cs 0, a_shapes_n, .inl a_shapes_f))]) hP hD hS hA [1] (by decide) rfl
    refine va_callr (va_runS (As := [.ref a_shapes, .int (2 * a_nodes)]) (rest := [.ref a]) ⟨hx, hb, hml, hown, hg⟩ (c_Arrays_copyOf_aII l g cs ka a_shapes H.size (2 * a_nodes) a_shapes_n a_shapes_f ret_n_6 ret_f_6 mk6 sk6 hc6) (va_cwS 2 hg (gw_S wd_259 wd_156 wd_154 wd_153) rfl rfl rfl (by decide +kernel) ⟨Nat.le_of_ble_eq_true rfl, Nat.le_of_ble_eq_true rfl⟩) ⟨gP_blind, gP_pre hPc hDc hK hgl hkn hkr hS hFc⟩ rfl rfl hl.1 rfl (lv_room (Nat.le_of_ble_eq_true rfl)) d_Terms_newNode_23 ⟨show 0 + mk6 ≤ mc from by omega, show 0 + sk6 ≤ ms from by omega⟩) hS (fun q _ h => hFc q h) hFc (fun u ra6 t H locs ht hvm hr6 hB hz1 hk1 hS => ?_)
    rw [ht] at hB
    obtain ⟨ret_6, hra6, hP1, hD1⟩ := hB
    subst hra6
    obtain ⟨hP, hD⟩ := jn_A hP hD [1] [0, 2, 3, 4] rfl rfl (by decide) (by decide) hk1 hFc hP1 hD1
    obtain ⟨hP, hD⟩ : PD g A H [(a, .inr (7, [.ref a_shapes, .ref a_values, .ref a_firstParts, .int a_nodes, .ref a_parts, .ref a_variableNames, .ref a_became, .int a_variables, .int a_variablesLack, .int a_symbols, .int a_nodesBefore, .int a_partsBefore, .int a_variablesBefore])), (a_values, .inl (cs 2, a_values_n, .inr (.inl a_values_f))), (a_firstParts, .inl (cs 0, a_firstParts_n, .inl a_firstParts_f)), (a_parts, .inr (1, [.ref a_parts_items, .int a_parts_size])), (a_shapes, .inl (cs 0, a_shapes_n, .inl a_shapes_f)), (ret_6, .inl (cs 0, ret_n_6, .inl ret_f_6))] := ⟨hP, hD⟩
    refine va_put (D := g) (ci := 7) (v := .ref ret_6) (ty := .array .int) (C := R_Terms) (T := F_Terms) (N := 13) hx hb hg ul_Terms t_Terms tk_Terms n_Terms hown hK hP hD hS 0 rfl rfl 0 (by decide) (hg _ wd_228) (fun _ h9 => h9) rfl (by decide +kernel) rfl rfl (Nat.le_of_ble_eq_true rfl) d_Terms_newNode_26 (fun H locs hP hD hS => ?_)
    obtain ⟨hP, hD⟩ : PD g A H [(a, .inr (7, [.ref ret_6, .ref a_values, .ref a_firstParts, .int a_nodes, .ref a_parts, .ref a_variableNames, .ref a_became, .int a_variables, .int a_variablesLack, .int a_symbols, .int a_nodesBefore, .int a_partsBefore, .int a_variablesBefore])), (a_values, .inl (cs 2, a_values_n, .inr (.inl a_values_f))), (a_firstParts, .inl (cs 0, a_firstParts_n, .inl a_firstParts_f)), (a_parts, .inr (1, [.ref a_parts_items, .int a_parts_size])), (a_shapes, .inl (cs 0, a_shapes_n, .inl a_shapes_f)), (ret_6, .inl (cs 0, ret_n_6, .inl ret_f_6))] := ⟨hP, hD⟩
    refine lv_aload_n hx hb d_Terms_newNode_29 rfl (lv_at hl 0 rfl) ?_
    refine lv_aload_n hx hb d_Terms_newNode_30 rfl (lv_at hl 0 rfl) ?_
    refine va_get (D := g) (ci := 7) (v := .ref a_values) (C := R_Terms) (T := F_Terms) (N := 13) hx hb hg ul_Terms hown hK hP 0 rfl rfl 1 (by decide) (hg _ wd_229) (fun _ h9 => h9) rfl d_Terms_newNode_31 ?_
    refine lv_iconst (v := 2) hx hb d_Terms_newNode_34 (by decide) ?_
    refine lv_aload_n hx hb d_Terms_newNode_35 rfl (lv_at hl 0 rfl) ?_
    refine va_get (D := g) (ci := 7) (v := .int a_nodes) (C := R_Terms) (T := F_Terms) (N := 13) hx hb hg ul_Terms hown hK hP 0 rfl rfl 3 (by decide) (hg _ wd_231) (fun _ h9 => h9) rfl d_Terms_newNode_36 ?_
    refine lv_imul hx hb d_Terms_newNode_39 ?_
    obtain ⟨⟨⟨ret_n_7, ret_f_7⟩, mk7, sk7⟩, hc7, hok⟩ := bd_some hok
    dsimp only at hok
    obtain ⟨m7, s7, hok, hmc7, hms7⟩ := al_some hok
    obtain ⟨hPc, hDc, hFc⟩ := cut0 (wc := [(a_values, .inl (cs 2, a_values_n, .inr (.inl a_values_f)))]) hP hD hS hA [1] (by decide) rfl
    refine va_callr (va_runS (As := [.ref a_values, .int (2 * a_nodes)]) (rest := [.ref a]) ⟨hx, hb, hml, hown, hg⟩ (c_Arrays_copyOf_aJI l g cs ka a_values H.size (2 * a_nodes) a_values_n a_values_f ret_n_7 ret_f_7 mk7 sk7 hc7) (va_cwS 2 hg (gw_S wd_261 wd_262 wd_154 wd_260) rfl rfl rfl (by decide +kernel) ⟨Nat.le_of_ble_eq_true rfl, Nat.le_of_ble_eq_true rfl⟩) ⟨gP_blind, gP_pre hPc hDc hK hgl hkn hkr hS hFc⟩ rfl rfl hl.1 rfl (lv_room (Nat.le_of_ble_eq_true rfl)) d_Terms_newNode_40 ⟨show 0 + mk6 + mk7 ≤ mc from by omega, show 0 + sk6 + sk7 ≤ ms from by omega⟩) hS (fun q _ h => hFc q h) hFc (fun u ra7 t H locs ht hvm hr7 hB hz1 hk1 hS => ?_)
    rw [ht] at hB
    obtain ⟨ret_7, hra7, hP1, hD1⟩ := hB
    subst hra7
    obtain ⟨hP, hD⟩ := jn_A hP hD [1] [0, 2, 3, 4, 5] rfl rfl (by decide) (by decide) hk1 hFc hP1 hD1
    obtain ⟨hP, hD⟩ : PD g A H [(a, .inr (7, [.ref ret_6, .ref a_values, .ref a_firstParts, .int a_nodes, .ref a_parts, .ref a_variableNames, .ref a_became, .int a_variables, .int a_variablesLack, .int a_symbols, .int a_nodesBefore, .int a_partsBefore, .int a_variablesBefore])), (a_firstParts, .inl (cs 0, a_firstParts_n, .inl a_firstParts_f)), (a_parts, .inr (1, [.ref a_parts_items, .int a_parts_size])), (a_shapes, .inl (cs 0, a_shapes_n, .inl a_shapes_f)), (ret_6, .inl (cs 0, ret_n_6, .inl ret_f_6)), (a_values, .inl (cs 2, a_values_n, .inr (.inl a_values_f))), (ret_7, .inl (cs 2, ret_n_7, .inr (.inl ret_f_7)))] := ⟨hP, hD⟩
    refine va_put (D := g) (ci := 7) (v := .ref ret_7) (ty := .array .long) (C := R_Terms) (T := F_Terms) (N := 13) hx hb hg ul_Terms t_Terms tk_Terms n_Terms hown hK hP hD hS 0 rfl rfl 1 (by decide) (hg _ wd_229) (fun _ h9 => h9) rfl (by decide +kernel) rfl rfl (Nat.le_of_ble_eq_true rfl) d_Terms_newNode_43 (fun H locs hP hD hS => ?_)
    obtain ⟨hP, hD⟩ : PD g A H [(a, .inr (7, [.ref ret_6, .ref ret_7, .ref a_firstParts, .int a_nodes, .ref a_parts, .ref a_variableNames, .ref a_became, .int a_variables, .int a_variablesLack, .int a_symbols, .int a_nodesBefore, .int a_partsBefore, .int a_variablesBefore])), (a_firstParts, .inl (cs 0, a_firstParts_n, .inl a_firstParts_f)), (a_parts, .inr (1, [.ref a_parts_items, .int a_parts_size])), (a_shapes, .inl (cs 0, a_shapes_n, .inl a_shapes_f)), (ret_6, .inl (cs 0, ret_n_6, .inl ret_f_6)), (a_values, .inl (cs 2, a_values_n, .inr (.inl a_values_f))), (ret_7, .inl (cs 2, ret_n_7, .inr (.inl ret_f_7)))] := ⟨hP, hD⟩
    refine lv_aload_n hx hb d_Terms_newNode_46 rfl (lv_at hl 0 rfl) ?_
    refine lv_aload_n hx hb d_Terms_newNode_47 rfl (lv_at hl 0 rfl) ?_
    refine va_get (D := g) (ci := 7) (v := .ref a_firstParts) (C := R_Terms) (T := F_Terms) (N := 13) hx hb hg ul_Terms hown hK hP 0 rfl rfl 2 (by decide) (hg _ wd_230) (fun _ h9 => h9) rfl d_Terms_newNode_48 ?_
    refine lv_iconst (v := 2) hx hb d_Terms_newNode_51 (by decide) ?_
    refine lv_aload_n hx hb d_Terms_newNode_52 rfl (lv_at hl 0 rfl) ?_
    refine va_get (D := g) (ci := 7) (v := .int a_nodes) (C := R_Terms) (T := F_Terms) (N := 13) hx hb hg ul_Terms hown hK hP 0 rfl rfl 3 (by decide) (hg _ wd_231) (fun _ h9 => h9) rfl d_Terms_newNode_53 ?_
    refine lv_imul hx hb d_Terms_newNode_56 ?_
    obtain ⟨⟨⟨ret_n_8, ret_f_8⟩, mk8, sk8⟩, hc8, hok⟩ := bd_some hok
    dsimp only at hok
    obtain ⟨m8, s8, hok, hmc8, hms8⟩ := al_some hok
    obtain ⟨hPc, hDc, hFc⟩ := cut0 (wc := [(a_firstParts, .inl (cs 0, a_firstParts_n, .inl a_firstParts_f))]) hP hD hS hA [1] (by decide) rfl
    refine va_callr (va_runS (As := [.ref a_firstParts, .int (2 * a_nodes)]) (rest := [.ref a]) ⟨hx, hb, hml, hown, hg⟩ (c_Arrays_copyOf_aII l g cs ka a_firstParts H.size (2 * a_nodes) a_firstParts_n a_firstParts_f ret_n_8 ret_f_8 mk8 sk8 hc8) (va_cwS 2 hg (gw_S wd_259 wd_156 wd_154 wd_153) rfl rfl rfl (by decide +kernel) ⟨Nat.le_of_ble_eq_true rfl, Nat.le_of_ble_eq_true rfl⟩) ⟨gP_blind, gP_pre hPc hDc hK hgl hkn hkr hS hFc⟩ rfl rfl hl.1 rfl (lv_room (Nat.le_of_ble_eq_true rfl)) d_Terms_newNode_57 ⟨show 0 + mk6 + mk7 + mk8 ≤ mc from by omega, show 0 + sk6 + sk7 + sk8 ≤ ms from by omega⟩) hS (fun q _ h => hFc q h) hFc (fun u ra8 t H locs ht hvm hr8 hB hz1 hk1 hS => ?_)
    rw [ht] at hB
    obtain ⟨ret_8, hra8, hP1, hD1⟩ := hB
    subst hra8
    obtain ⟨hP, hD⟩ := jn_A hP hD [1] [0, 2, 3, 4, 5, 6] rfl rfl (by decide) (by decide) hk1 hFc hP1 hD1
    obtain ⟨hP, hD⟩ : PD g A H [(a, .inr (7, [.ref ret_6, .ref ret_7, .ref a_firstParts, .int a_nodes, .ref a_parts, .ref a_variableNames, .ref a_became, .int a_variables, .int a_variablesLack, .int a_symbols, .int a_nodesBefore, .int a_partsBefore, .int a_variablesBefore])), (a_parts, .inr (1, [.ref a_parts_items, .int a_parts_size])), (a_shapes, .inl (cs 0, a_shapes_n, .inl a_shapes_f)), (ret_6, .inl (cs 0, ret_n_6, .inl ret_f_6)), (a_values, .inl (cs 2, a_values_n, .inr (.inl a_values_f))), (ret_7, .inl (cs 2, ret_n_7, .inr (.inl ret_f_7))), (a_firstParts, .inl (cs 0, a_firstParts_n, .inl a_firstParts_f)), (ret_8, .inl (cs 0, ret_n_8, .inl ret_f_8))] := ⟨hP, hD⟩
    refine va_put (D := g) (ci := 7) (v := .ref ret_8) (ty := .array .int) (C := R_Terms) (T := F_Terms) (N := 13) hx hb hg ul_Terms t_Terms tk_Terms n_Terms hown hK hP hD hS 0 rfl rfl 2 (by decide) (hg _ wd_230) (fun _ h9 => h9) rfl (by decide +kernel) rfl rfl (Nat.le_of_ble_eq_true rfl) d_Terms_newNode_60 (fun H locs hP hD hS => ?_)
    obtain ⟨hP, hD⟩ : PD g A H [(a, .inr (7, [.ref ret_6, .ref ret_7, .ref ret_8, .int a_nodes, .ref a_parts, .ref a_variableNames, .ref a_became, .int a_variables, .int a_variablesLack, .int a_symbols, .int a_nodesBefore, .int a_partsBefore, .int a_variablesBefore])), (a_parts, .inr (1, [.ref a_parts_items, .int a_parts_size])), (a_shapes, .inl (cs 0, a_shapes_n, .inl a_shapes_f)), (ret_6, .inl (cs 0, ret_n_6, .inl ret_f_6)), (a_values, .inl (cs 2, a_values_n, .inr (.inl a_values_f))), (ret_7, .inl (cs 2, ret_n_7, .inr (.inl ret_f_7))), (a_firstParts, .inl (cs 0, a_firstParts_n, .inl a_firstParts_f)), (ret_8, .inl (cs 0, ret_n_8, .inl ret_f_8))] := ⟨hP, hD⟩
    refine lv_aload_n hx hb d_Terms_newNode_63 rfl (lv_at hl 0 rfl) ?_
    refine va_get (D := g) (ci := 7) (v := .ref ret_6) (C := R_Terms) (T := F_Terms) (N := 13) hx hb hg ul_Terms hown hK hP 0 rfl rfl 0 (by decide) (hg _ wd_228) (fun _ h9 => h9) rfl d_Terms_newNode_64 ?_
    refine lv_aload_n hx hb d_Terms_newNode_67 rfl (lv_at hl 0 rfl) ?_
    refine va_get (D := g) (ci := 7) (v := .int a_nodes) (C := R_Terms) (T := F_Terms) (N := 13) hx hb hg ul_Terms hown hK hP 0 rfl rfl 3 (by decide) (hg _ wd_231) (fun _ h9 => h9) rfl d_Terms_newNode_68 ?_
    refine lv_iload_n hx hb d_Terms_newNode_71 rfl (lv_at hl 1 rfl) ?_
    obtain ⟨hi9, hok⟩ := ck_some hok
    refine va_iast hx hb hK hP hD hS 3 0 rfl rfl (ixb_in hi9) d_Terms_newNode_72 (fun H locs hP hD hS => ?_)
    obtain ⟨hP, hD⟩ : PD g A H [(a, .inr (7, [.ref ret_6, .ref ret_7, .ref ret_8, .int a_nodes, .ref a_parts, .ref a_variableNames, .ref a_became, .int a_variables, .int a_variablesLack, .int a_symbols, .int a_nodesBefore, .int a_partsBefore, .int a_variablesBefore])), (a_parts, .inr (1, [.ref a_parts_items, .int a_parts_size])), (a_shapes, .inl (cs 0, a_shapes_n, .inl a_shapes_f)), (ret_6, .inl (cs 0, ret_n_6, .inl (upd ret_f_6 a_nodes.toNatClampNeg shape))), (a_values, .inl (cs 2, a_values_n, .inr (.inl a_values_f))), (ret_7, .inl (cs 2, ret_n_7, .inr (.inl ret_f_7))), (a_firstParts, .inl (cs 0, a_firstParts_n, .inl a_firstParts_f)), (ret_8, .inl (cs 0, ret_n_8, .inl ret_f_8))] := ⟨hP, hD⟩
    refine lv_aload_n hx hb d_Terms_newNode_73 rfl (lv_at hl 0 rfl) ?_
    refine va_get (D := g) (ci := 7) (v := .ref ret_7) (C := R_Terms) (T := F_Terms) (N := 13) hx hb hg ul_Terms hown hK hP 0 rfl rfl 1 (by decide) (hg _ wd_229) (fun _ h9 => h9) rfl d_Terms_newNode_74 ?_
    refine lv_aload_n hx hb d_Terms_newNode_77 rfl (lv_at hl 0 rfl) ?_
    refine va_get (D := g) (ci := 7) (v := .int a_nodes) (C := R_Terms) (T := F_Terms) (N := 13) hx hb hg ul_Terms hown hK hP 0 rfl rfl 3 (by decide) (hg _ wd_231) (fun _ h9 => h9) rfl d_Terms_newNode_78 ?_
    refine lv_lload_n hx hb d_Terms_newNode_81 rfl (lv_at hl 2 rfl) ?_
    obtain ⟨hi10, hok⟩ := ck_some hok
    refine va_last hx hb hK hP hD hS 5 2 rfl rfl (ixb_in hi10) d_Terms_newNode_82 (fun H locs hP hD hS => ?_)
    obtain ⟨hP, hD⟩ : PD g A H [(a, .inr (7, [.ref ret_6, .ref ret_7, .ref ret_8, .int a_nodes, .ref a_parts, .ref a_variableNames, .ref a_became, .int a_variables, .int a_variablesLack, .int a_symbols, .int a_nodesBefore, .int a_partsBefore, .int a_variablesBefore])), (a_parts, .inr (1, [.ref a_parts_items, .int a_parts_size])), (a_shapes, .inl (cs 0, a_shapes_n, .inl a_shapes_f)), (ret_6, .inl (cs 0, ret_n_6, .inl (upd ret_f_6 a_nodes.toNatClampNeg shape))), (a_values, .inl (cs 2, a_values_n, .inr (.inl a_values_f))), (ret_7, .inl (cs 2, ret_n_7, .inr (.inl (vp_updL ret_f_7 a_nodes.toNatClampNeg value)))), (a_firstParts, .inl (cs 0, a_firstParts_n, .inl a_firstParts_f)), (ret_8, .inl (cs 0, ret_n_8, .inl ret_f_8))] := ⟨hP, hD⟩
    refine lv_aload_n hx hb d_Terms_newNode_83 rfl (lv_at hl 0 rfl) ?_
    refine va_get (D := g) (ci := 7) (v := .ref ret_8) (C := R_Terms) (T := F_Terms) (N := 13) hx hb hg ul_Terms hown hK hP 0 rfl rfl 2 (by decide) (hg _ wd_230) (fun _ h9 => h9) rfl d_Terms_newNode_84 ?_
    refine lv_aload_n hx hb d_Terms_newNode_87 rfl (lv_at hl 0 rfl) ?_
    refine va_get (D := g) (ci := 7) (v := .int a_nodes) (C := R_Terms) (T := F_Terms) (N := 13) hx hb hg ul_Terms hown hK hP 0 rfl rfl 3 (by decide) (hg _ wd_231) (fun _ h9 => h9) rfl d_Terms_newNode_88 ?_
    refine lv_aload_n hx hb d_Terms_newNode_91 rfl (lv_at hl 0 rfl) ?_
    refine va_get (D := g) (ci := 7) (v := .ref a_parts) (C := R_Terms) (T := F_Terms) (N := 13) hx hb hg ul_Terms hown hK hP 0 rfl rfl 4 (by decide) (hg _ wd_238) (fun _ h9 => h9) rfl d_Terms_newNode_92 ?_
    obtain ⟨r11, hc11, hok⟩ := bd_some hok
    obtain ⟨hPc, hDc, hFc⟩ := cut0 (wc := [(a_parts, .inr (1, [.ref a_parts_items, .int a_parts_size]))]) hP hD hS hA [1] (by decide) rfl
    refine va_calli (va_runV (As := []) (rest := [.int a_nodes, .ref ret_8]) ⟨hx, hb, hml, hown, hg⟩ (c_Ints_size l g cs ka a_parts_items a_parts H.size a_parts_size r11 hc11) (cwV (C := R_Ints) 0 hg (gw_V wd_248 wd_249 wd_250 wd_234 wd_247) rfl rfl rfl (by decide +kernel) ⟨Nat.le_of_ble_eq_true rfl, Nat.le_of_ble_eq_true rfl⟩) ⟨gP_blind, va_recv (q0 := 1) (ci := 1) (q := (R_Ints, F_Ints, 2)) hK hP rfl rfl, gP_pre hPc hDc hK hgl hkn hkr hS hFc⟩ rfl rfl hl.1 rfl (lv_room (Nat.le_of_ble_eq_true rfl)) d_Terms_newNode_95 ⟨show 0 + mk6 + mk7 + mk8 + 0 ≤ mc from by omega, show 0 + sk6 + sk7 + sk8 + 0 ≤ ms from by omega⟩) hS (fun q _ h => hFc q h) hFc (fun r11' u t H locs ht hvm hr11 hB hz1 hk1 hS => ?_)
    subst hr11
    rw [ht] at hB
    obtain ⟨hP1, hD1⟩ := hB
    obtain ⟨hP, hD⟩ := jn_A hP hD [1] [0, 2, 3, 4, 5, 6, 7] rfl rfl (by decide) (by decide) hk1 hFc hP1 hD1
    obtain ⟨hP, hD⟩ : PD g A H [(a, .inr (7, [.ref ret_6, .ref ret_7, .ref ret_8, .int a_nodes, .ref a_parts, .ref a_variableNames, .ref a_became, .int a_variables, .int a_variablesLack, .int a_symbols, .int a_nodesBefore, .int a_partsBefore, .int a_variablesBefore])), (a_shapes, .inl (cs 0, a_shapes_n, .inl a_shapes_f)), (ret_6, .inl (cs 0, ret_n_6, .inl (upd ret_f_6 a_nodes.toNatClampNeg shape))), (a_values, .inl (cs 2, a_values_n, .inr (.inl a_values_f))), (ret_7, .inl (cs 2, ret_n_7, .inr (.inl (vp_updL ret_f_7 a_nodes.toNatClampNeg value)))), (a_firstParts, .inl (cs 0, a_firstParts_n, .inl a_firstParts_f)), (ret_8, .inl (cs 0, ret_n_8, .inl ret_f_8)), (a_parts, .inr (1, [.ref a_parts_items, .int a_parts_size]))] := ⟨hP, hD⟩
    obtain ⟨hi12, hok⟩ := ck_some hok
    refine va_iast hx hb hK hP hD hS 6 0 rfl rfl (ixb_in hi12) d_Terms_newNode_98 (fun H locs hP hD hS => ?_)
    obtain ⟨hP, hD⟩ : PD g A H [(a, .inr (7, [.ref ret_6, .ref ret_7, .ref ret_8, .int a_nodes, .ref a_parts, .ref a_variableNames, .ref a_became, .int a_variables, .int a_variablesLack, .int a_symbols, .int a_nodesBefore, .int a_partsBefore, .int a_variablesBefore])), (a_shapes, .inl (cs 0, a_shapes_n, .inl a_shapes_f)), (ret_6, .inl (cs 0, ret_n_6, .inl (upd ret_f_6 a_nodes.toNatClampNeg shape))), (a_values, .inl (cs 2, a_values_n, .inr (.inl a_values_f))), (ret_7, .inl (cs 2, ret_n_7, .inr (.inl (vp_updL ret_f_7 a_nodes.toNatClampNeg value)))), (a_firstParts, .inl (cs 0, a_firstParts_n, .inl a_firstParts_f)), (ret_8, .inl (cs 0, ret_n_8, .inl (upd ret_f_8 a_nodes.toNatClampNeg r11))), (a_parts, .inr (1, [.ref a_parts_items, .int a_parts_size]))] := ⟨hP, hD⟩
    refine lv_aload_n hx hb d_Terms_newNode_99 rfl (lv_at hl 0 rfl) ?_
    refine lv_dup hx hb d_Terms_newNode_100 rfl ?_
    refine va_get (D := g) (ci := 7) (v := .int a_nodes) (C := R_Terms) (T := F_Terms) (N := 13) hx hb hg ul_Terms hown hK hP 0 rfl rfl 3 (by decide) (hg _ wd_231) (fun _ h9 => h9) rfl d_Terms_newNode_101 ?_
    refine lv_iconst (v := 1) hx hb d_Terms_newNode_104 (by decide) ?_
    refine lv_iadd hx hb d_Terms_newNode_105 ?_
    refine va_put (D := g) (ci := 7) (v := .int (a_nodes + 1)) (ty := .int) (C := R_Terms) (T := F_Terms) (N := 13) hx hb hg ul_Terms t_Terms tk_Terms n_Terms hown hK hP hD hS 0 rfl rfl 3 (by decide) (hg _ wd_231) (fun _ h9 => h9) rfl (by decide +kernel) rfl rfl (Nat.le_of_ble_eq_true rfl) d_Terms_newNode_106 (fun H locs hP hD hS => ?_)
    obtain ⟨hP, hD⟩ : PD g A H [(a, .inr (7, [.ref ret_6, .ref ret_7, .ref ret_8, .int (a_nodes + 1), .ref a_parts, .ref a_variableNames, .ref a_became, .int a_variables, .int a_variablesLack, .int a_symbols, .int a_nodesBefore, .int a_partsBefore, .int a_variablesBefore])), (a_shapes, .inl (cs 0, a_shapes_n, .inl a_shapes_f)), (ret_6, .inl (cs 0, ret_n_6, .inl (upd ret_f_6 a_nodes.toNatClampNeg shape))), (a_values, .inl (cs 2, a_values_n, .inr (.inl a_values_f))), (ret_7, .inl (cs 2, ret_n_7, .inr (.inl (vp_updL ret_f_7 a_nodes.toNatClampNeg value)))), (a_firstParts, .inl (cs 0, a_firstParts_n, .inl a_firstParts_f)), (ret_8, .inl (cs 0, ret_n_8, .inl (upd ret_f_8 a_nodes.toNatClampNeg r11))), (a_parts, .inr (1, [.ref a_parts_items, .int a_parts_size]))] := ⟨hP, hD⟩
    refine lv_aload_n hx hb d_Terms_newNode_109 rfl (lv_at hl 0 rfl) ?_
    refine va_get (D := g) (ci := 7) (v := .int (a_nodes + 1)) (C := R_Terms) (T := F_Terms) (N := 13) hx hb hg ul_Terms hown hK hP 0 rfl rfl 3 (by decide) (hg _ wd_231) (fun _ h9 => h9) rfl d_Terms_newNode_110 ?_
    refine lv_iconst (v := 1) hx hb d_Terms_newNode_113 (by decide) ?_
    refine lv_isub hx hb d_Terms_newNode_114 ?_
    obtain ⟨hq, hw⟩ := Prod.mk.inj (Option.some.inj hok)
    obtain ⟨hmc0, hms0⟩ := Prod.mk.inj hw
    obtain ⟨hq0, hq⟩ := Prod.mk.inj hq
    obtain ⟨hq1, hq⟩ := Prod.mk.inj hq
    obtain ⟨hq2, hq⟩ := Prod.mk.inj hq
    obtain ⟨hq3, hq⟩ := Prod.mk.inj hq
    obtain ⟨hq4, hq⟩ := Prod.mk.inj hq
    obtain ⟨hq5, hq⟩ := Prod.mk.inj hq
    obtain ⟨hq6, hq⟩ := Prod.mk.inj hq
    have hq7 := hq
    subst hq0
    subst hq1
    subst hq2
    subst hq3
    subst hq4
    subst hq5
    subst hq6
    subst hq7
    obtain ⟨hP9, hD9⟩ := sub2 (ws' := [(a, .inr (7, [.ref ret_6, .ref ret_7, .ref ret_8, .int (a_nodes + 1), .ref a_parts, .ref a_variableNames, .ref a_became, .int a_variables, .int a_variablesLack, .int a_symbols, .int a_nodesBefore, .int a_partsBefore, .int a_variablesBefore])), (ret_6, .inl (cs 0, ret_n_6, .inl (upd ret_f_6 a_nodes.toNatClampNeg shape))), (ret_7, .inl (cs 2, ret_n_7, .inr (.inl (vp_updL ret_f_7 a_nodes.toNatClampNeg value)))), (ret_8, .inl (cs 0, ret_n_8, .inl (upd ret_f_8 a_nodes.toNatClampNeg r11))), (a_parts, .inr (1, [.ref a_parts_items, .int a_parts_size]))]) hP hD [0, 2, 4, 6, 7] rfl (by decide) rfl
    refine W.widen (k := mc) (n := ms) (by omega) (by omega) ?_
    rw [hQ]
    exact W.iret (v := (a_nodes + 1) - 1) hx hb hr (fun t ht hW => ⟨⟨_, (), rfl, rfl, ret_6, ret_7, ret_8, by rw [ht]; exact hP9, hD9⟩, hS.F ht⟩) hS.2.2 d_Terms_newNode_115

theorem d_Terms_atom_0 : decode b_Terms_atom 0 = .ok (.aload_n 0, 1) := by decide +kernel
theorem d_Terms_atom_1 : decode b_Terms_atom 1 = .ok (.iconst 0, 1) := by decide +kernel
theorem d_Terms_atom_2 : decode b_Terms_atom 2 = .ok (.iload_n 1, 1) := by decide +kernel
theorem d_Terms_atom_3 : decode b_Terms_atom 3 = .ok (.i2l, 1) := by decide +kernel
theorem d_Terms_atom_4 : decode b_Terms_atom 4 = .ok (.invokevirtual 73, 3) := by decide +kernel
theorem d_Terms_atom_7 : decode b_Terms_atom 7 = .ok (.ireturn, 1) := by decide +kernel
def p_Terms_atom (name : Int32) (a_nodes : Int32) (a_variables : Int32) (a_variablesLack : Int32) (a_symbols : Int32) (a_nodesBefore : Int32) (a_partsBefore : Int32) (a_variablesBefore : Int32) (a_shapes_n : Nat) (a_shapes_f : Nat → Int32) (a_values_n : Nat) (a_values_f : Nat → Int64) (a_firstParts_n : Nat) (a_firstParts_f : Nat → Int32) (a_parts_size : Int32) : Option ((Int32 × Int32 × Nat × (Nat → Int32) × Nat × (Nat → Int64) × Nat × (Nat → Int32)) × Nat × Nat) := (p_Terms_newNode (0 : Int32) name.toInt64 a_nodes a_variables a_variablesLack a_symbols a_nodesBefore a_partsBefore a_variablesBefore a_shapes_n a_shapes_f a_values_n a_values_f a_firstParts_n a_firstParts_f a_parts_size).bind (fun ((r1, a_nodes_1, a_shapes_n_1, a_shapes_f_1, a_values_n_1, a_values_f_1, a_firstParts_n_1, a_firstParts_f_1), mk1, sk1) => al mk1 sk1 (some ((r1, a_nodes_1, a_shapes_n_1, a_shapes_f_1, a_values_n_1, a_values_f_1, a_firstParts_n_1, a_firstParts_f_1), 0, 0)))
set_option maxHeartbeats 4000000 in
set_option maxRecDepth 100000 in
theorem c_Terms_atom (l : Launch) (g : va_G) (cs : Nat → ClassId) (ka : Nat → Nat) (a_variableNames : Nat) (a_became : Nat) (a_parts_items : Nat) (a a_shapes a_values a_firstParts a_parts : Nat) (sz : Nat) (name : Int32) (a_nodes : Int32) (a_variables : Int32) (a_variablesLack : Int32) (a_symbols : Int32) (a_nodesBefore : Int32) (a_partsBefore : Int32) (a_variablesBefore : Int32) (a_shapes_n : Nat) (a_shapes_f : Nat → Int32) (a_values_n : Nat) (a_values_f : Nat → Int64) (a_firstParts_n : Nat) (a_firstParts_f : Nat → Int32) (a_parts_size : Int32) (r : Int32) (o_a_nodes : Int32) (o_a_shapes_n : Nat) (o_a_shapes_f : Nat → Int32) (o_a_values_n : Nat) (o_a_values_f : Nat → Int64) (o_a_firstParts_n : Nat) (o_a_firstParts_f : Nat → Int32) (mc ms : Nat) (hok : p_Terms_atom name a_nodes a_variables a_variablesLack a_symbols a_nodesBefore a_partsBefore a_variablesBefore a_shapes_n a_shapes_f a_values_n a_values_f a_firstParts_n a_firstParts_f a_parts_size = some ((r, o_a_nodes, o_a_shapes_n, o_a_shapes_f, o_a_values_n, o_a_values_f, o_a_firstParts_n, o_a_firstParts_f), mc, ms)) : Met l y_Terms_atom (.code y_Terms_atom b_Terms_atom 2 (some .int) :: GW) { frames := 3, cells := mc, slots := ms, locals := 145 } (va_Pc [.ref a, .int name] (gP g cs ka [(a, .inr (7, [.ref a_shapes, .ref a_values, .ref a_firstParts, .int a_nodes, .ref a_parts, .ref a_variableNames, .ref a_became, .int a_variables, .int a_variablesLack, .int a_symbols, .int a_nodesBefore, .int a_partsBefore, .int a_variablesBefore])), (a_shapes, .inl (cs 0, a_shapes_n, .inl a_shapes_f)), (a_values, .inl (cs 2, a_values_n, .inr (.inl a_values_f))), (a_firstParts, .inl (cs 0, a_firstParts_n, .inl a_firstParts_f)), (a_parts, .inr (1, [.ref a_parts_items, .int a_parts_size]))] sz)) (va_Qi (fun (r' : Int32) (_ : Unit) => r = r') (fun _ t => ∃ b_a_shapes b_a_values b_a_firstParts : Nat, va_P g classes [(a, .inr (7, [.ref b_a_shapes, .ref b_a_values, .ref b_a_firstParts, .int o_a_nodes, .ref a_parts, .ref a_variableNames, .ref a_became, .int a_variables, .int a_variablesLack, .int a_symbols, .int a_nodesBefore, .int a_partsBefore, .int a_variablesBefore])), (b_a_shapes, .inl (cs 0, o_a_shapes_n, .inl o_a_shapes_f)), (b_a_values, .inl (cs 2, o_a_values_n, .inr (.inl o_a_values_f))), (b_a_firstParts, .inl (cs 0, o_a_firstParts_n, .inl o_a_firstParts_f)), (a_parts, .inr (1, [.ref a_parts_items, .int a_parts_size]))] t.heap ∧ va_D (va_A [(a, .inr (7, [.ref a_shapes, .ref a_values, .ref a_firstParts, .int a_nodes, .ref a_parts, .ref a_variableNames, .ref a_became, .int a_variables, .int a_variablesLack, .int a_symbols, .int a_nodesBefore, .int a_partsBefore, .int a_variablesBefore])), (a_shapes, .inl (cs 0, a_shapes_n, .inl a_shapes_f)), (a_values, .inl (cs 2, a_values_n, .inr (.inl a_values_f))), (a_firstParts, .inl (cs 0, a_firstParts_n, .inl a_firstParts_f)), (a_parts, .inr (1, [.ref a_parts_items, .int a_parts_size]))] sz) [(a, .inr (7, [.ref b_a_shapes, .ref b_a_values, .ref b_a_firstParts, .int o_a_nodes, .ref a_parts, .ref a_variableNames, .ref a_became, .int a_variables, .int a_variablesLack, .int a_symbols, .int a_nodesBefore, .int a_partsBefore, .int a_variablesBefore])), (b_a_shapes, .inl (cs 0, o_a_shapes_n, .inl o_a_shapes_f)), (b_a_values, .inl (cs 2, o_a_values_n, .inr (.inl o_a_values_f))), (b_a_firstParts, .inl (cs 0, o_a_firstParts_n, .inl o_a_firstParts_f)), (a_parts, .inr (1, [.ref a_parts_items, .int a_parts_size]))]) (va_A [(a, .inr (7, [.ref a_shapes, .ref a_values, .ref a_firstParts, .int a_nodes, .ref a_parts, .ref a_variableNames, .ref a_became, .int a_variables, .int a_variablesLack, .int a_symbols, .int a_nodesBefore, .int a_partsBefore, .int a_variablesBefore])), (a_shapes, .inl (cs 0, a_shapes_n, .inl a_shapes_f)), (a_values, .inl (cs 2, a_values_n, .inr (.inl a_values_f))), (a_firstParts, .inl (cs 0, a_firstParts_n, .inl a_firstParts_f)), (a_parts, .inr (1, [.ref a_parts_items, .int a_parts_size]))] sz)) mc ms (va_A [(a, .inr (7, [.ref a_shapes, .ref a_values, .ref a_firstParts, .int a_nodes, .ref a_parts, .ref a_variableNames, .ref a_became, .int a_variables, .int a_variablesLack, .int a_symbols, .int a_nodesBefore, .int a_partsBefore, .int a_variablesBefore])), (a_shapes, .inl (cs 0, a_shapes_n, .inl a_shapes_f)), (a_values, .inl (cs 2, a_values_n, .inr (.inl a_values_f))), (a_firstParts, .inl (cs 0, a_firstParts_n, .inl a_firstParts_f)), (a_parts, .inr (1, [.ref a_parts_items, .int a_parts_size]))] sz) := by
  refine Met.ofW (cc := b_Terms_atom) (maxL := 2) (ret := (some .int)) (by decide) rfl ?_
  intro p e s m args below meth c s₁ B hml hv
  obtain ⟨rfl, hsz, hP, hK, hD0, hgl, hkn, hkr⟩ := hv
  have hx := B.exec
  have hb := B.bytes
  have hr := B.returns
  have hg : ∀ w ∈ GW, w.before ([.ref a, .int name] : List Value).toArray s = true := fun w hw => atoms_spec (ws := .code y_Terms_atom b_Terms_atom 2 (some .int) :: GW) B.pre w (List.mem_cons_of_mem _ hw)
  have hown : s.vm.findClass R_Terms = some m.cls := findClass_of_methodNamed B.named
  have hlocks := B.notSynchronized
  subst hsz
  have hD := hD0.self (sz := s.heap.size)
  generalize hAe : va_A [(a, .inr (7, [.ref a_shapes, .ref a_values, .ref a_firstParts, .int a_nodes, .ref a_parts, .ref a_variableNames, .ref a_became, .int a_variables, .int a_variablesLack, .int a_symbols, .int a_nodesBefore, .int a_partsBefore, .int a_variablesBefore])), (a_shapes, .inl (cs 0, a_shapes_n, .inl a_shapes_f)), (a_values, .inl (cs 2, a_values_n, .inr (.inl a_values_f))), (a_firstParts, .inl (cs 0, a_firstParts_n, .inl a_firstParts_f)), (a_parts, .inr (1, [.ref a_parts_items, .int a_parts_size]))] s.heap.size = A at hD hkn ⊢
  have hA : ∀ q : Nat, s.heap.size ≤ q → A q := fun q h => by rw [← hAe]; exact Or.inr h
  have hS : va_S A s.heap s.heap [] := va_S.rf
  have hP : va_P g classes [(a, .inr (7, [.ref a_shapes, .ref a_values, .ref a_firstParts, .int a_nodes, .ref a_parts, .ref a_variableNames, .ref a_became, .int a_variables, .int a_variablesLack, .int a_symbols, .int a_nodesBefore, .int a_partsBefore, .int a_variablesBefore])), (a_shapes, .inl (cs 0, a_shapes_n, .inl a_shapes_f)), (a_values, .inl (cs 2, a_values_n, .inr (.inl a_values_f))), (a_firstParts, .inl (cs 0, a_firstParts_n, .inl a_firstParts_f)), (a_parts, .inr (1, [.ref a_parts_items, .int a_parts_size]))] s.heap := hP
  have hl := lv_entry ([.ref a, .int name]) (n := 2) (Nat.le_of_ble_eq_true rfl)
  rw [lg_entry_eq]
  generalize (lg_sl ([.ref a, .int name]) ++ List.replicate (2 - (lg_sl ([.ref a, .int name])).length) Slot.unset).toArray = ls at hl ⊢
  have hl : lv_has ls 2 [(0, .ref a), (1, .int name)] := hl
  refine gq (fun Q hQ => ?_)
  obtain ⟨H, hH⟩ : ∃ H : Heap, H = s.heap := ⟨_, rfl⟩
  rw [← hH] at hP
  have hS : va_S A s.heap H [] := by rw [hH]; exact hS
  refine W.eqH hH ?_
  obtain ⟨locs, hlc⟩ : ∃ L : List Loc, L = [] := ⟨_, rfl⟩
  rw [← hlc] at hS ⊢
  unfold p_Terms_atom at hok
  refine lv_aload_n hx hb d_Terms_atom_0 rfl (lv_at hl 0 rfl) ?_
  refine lv_iconst (v := 0) hx hb d_Terms_atom_1 (by decide) ?_
  refine lv_iload_n hx hb d_Terms_atom_2 rfl (lv_at hl 1 rfl) ?_
  refine lv_i2l hx hb d_Terms_atom_3 rfl ?_
  obtain ⟨⟨⟨r1, a_nodes_1, a_shapes_n_1, a_shapes_f_1, a_values_n_1, a_values_f_1, a_firstParts_n_1, a_firstParts_f_1⟩, mk1, sk1⟩, hc1, hok⟩ := bd_some hok
  dsimp only at hok
  obtain ⟨m1, s1, hok, hmc1, hms1⟩ := al_some hok
  obtain ⟨hPc, hDc, hFc⟩ := cut0 (wc := [(a, .inr (7, [.ref a_shapes, .ref a_values, .ref a_firstParts, .int a_nodes, .ref a_parts, .ref a_variableNames, .ref a_became, .int a_variables, .int a_variablesLack, .int a_symbols, .int a_nodesBefore, .int a_partsBefore, .int a_variablesBefore])), (a_shapes, .inl (cs 0, a_shapes_n, .inl a_shapes_f)), (a_values, .inl (cs 2, a_values_n, .inr (.inl a_values_f))), (a_firstParts, .inl (cs 0, a_firstParts_n, .inl a_firstParts_f)), (a_parts, .inr (1, [.ref a_parts_items, .int a_parts_size]))]) hP hD hS hA [0, 1, 2, 3, 4] (by decide) rfl
  refine va_calli (va_runV (As := [.int 0, .long name.toInt64]) (rest := []) ⟨hx, hb, hml, hown, hg⟩ (c_Terms_newNode l g cs ka a_variableNames a_became a_parts_items a a_shapes a_values a_firstParts a_parts H.size (0 : Int32) name.toInt64 a_nodes a_variables a_variablesLack a_symbols a_nodesBefore a_partsBefore a_variablesBefore a_shapes_n a_shapes_f a_values_n a_values_f a_firstParts_n a_firstParts_f a_parts_size r1 a_nodes_1 a_shapes_n_1 a_shapes_f_1 a_values_n_1 a_values_f_1 a_firstParts_n_1 a_firstParts_f_1 mk1 sk1 hc1) (cwV (C := R_Terms) 2 hg (gw_V wd_265 wd_266 wd_267 wd_264 wd_263) rfl rfl rfl (by decide +kernel) ⟨Nat.le_of_ble_eq_true rfl, Nat.le_of_ble_eq_true rfl⟩) ⟨gP_blind, va_recv (q0 := 0) (ci := 7) (q := (R_Terms, F_Terms, 13)) hK hP rfl rfl, gP_pre hPc hDc hK hgl hkn hkr hS hFc⟩ rfl rfl hl.1 rfl (lv_room (Nat.le_of_ble_eq_true rfl)) d_Terms_atom_4 ⟨show 0 + mk1 ≤ mc from by omega, show 0 + sk1 ≤ ms from by omega⟩) hS (fun q _ h => hFc q h) hFc (fun r1' u t H locs ht hvm hr1 hB hz1 hk1 hS => ?_)
  subst hr1
  rw [ht] at hB
  obtain ⟨a_shapes_1, a_values_1, a_firstParts_1, hP1, hD1⟩ := hB
  obtain ⟨hP, hD⟩ := jn_A hP hD [0, 1, 2, 3, 4] [] rfl rfl (by decide) (by decide) hk1 hFc hP1 hD1
  obtain ⟨hP, hD⟩ : PD g A H [(a, .inr (7, [.ref a_shapes_1, .ref a_values_1, .ref a_firstParts_1, .int a_nodes_1, .ref a_parts, .ref a_variableNames, .ref a_became, .int a_variables, .int a_variablesLack, .int a_symbols, .int a_nodesBefore, .int a_partsBefore, .int a_variablesBefore])), (a_shapes_1, .inl (cs 0, a_shapes_n_1, .inl a_shapes_f_1)), (a_values_1, .inl (cs 2, a_values_n_1, .inr (.inl a_values_f_1))), (a_firstParts_1, .inl (cs 0, a_firstParts_n_1, .inl a_firstParts_f_1)), (a_parts, .inr (1, [.ref a_parts_items, .int a_parts_size]))] := ⟨hP, hD⟩
  obtain ⟨hq, hw⟩ := Prod.mk.inj (Option.some.inj hok)
  obtain ⟨hmc0, hms0⟩ := Prod.mk.inj hw
  obtain ⟨hq0, hq⟩ := Prod.mk.inj hq
  obtain ⟨hq1, hq⟩ := Prod.mk.inj hq
  obtain ⟨hq2, hq⟩ := Prod.mk.inj hq
  obtain ⟨hq3, hq⟩ := Prod.mk.inj hq
  obtain ⟨hq4, hq⟩ := Prod.mk.inj hq
  obtain ⟨hq5, hq⟩ := Prod.mk.inj hq
  obtain ⟨hq6, hq⟩ := Prod.mk.inj hq
  have hq7 := hq
  subst hq0
  subst hq1
  subst hq2
  subst hq3
  subst hq4
  subst hq5
  subst hq6
  subst hq7
  obtain ⟨hP9, hD9⟩ := sub2 (ws' := [(a, .inr (7, [.ref a_shapes_1, .ref a_values_1, .ref a_firstParts_1, .int a_nodes_1, .ref a_parts, .ref a_variableNames, .ref a_became, .int a_variables, .int a_variablesLack, .int a_symbols, .int a_nodesBefore, .int a_partsBefore, .int a_variablesBefore])), (a_shapes_1, .inl (cs 0, a_shapes_n_1, .inl a_shapes_f_1)), (a_values_1, .inl (cs 2, a_values_n_1, .inr (.inl a_values_f_1))), (a_firstParts_1, .inl (cs 0, a_firstParts_n_1, .inl a_firstParts_f_1)), (a_parts, .inr (1, [.ref a_parts_items, .int a_parts_size]))]) hP hD [0, 1, 2, 3, 4] rfl (by decide) rfl
  refine W.widen (k := mc) (n := ms) (by omega) (by omega) ?_
  rw [hQ]
  exact W.iret (v := r1) hx hb hr (fun t ht hW => ⟨⟨_, (), rfl, rfl, a_shapes_1, a_values_1, a_firstParts_1, by rw [ht]; exact hP9, hD9⟩, hS.F ht⟩) hS.2.2 d_Terms_atom_7

theorem d_Terms_integer_0 : decode b_Terms_integer 0 = .ok (.aload_n 0, 1) := by decide +kernel
theorem d_Terms_integer_1 : decode b_Terms_integer 1 = .ok (.iconst (-1), 1) := by decide +kernel
theorem d_Terms_integer_2 : decode b_Terms_integer 2 = .ok (.lload_n 1, 1) := by decide +kernel
theorem d_Terms_integer_3 : decode b_Terms_integer 3 = .ok (.invokevirtual 73, 3) := by decide +kernel
theorem d_Terms_integer_6 : decode b_Terms_integer 6 = .ok (.ireturn, 1) := by decide +kernel
def p_Terms_integer (number : Int64) (a_nodes : Int32) (a_variables : Int32) (a_variablesLack : Int32) (a_symbols : Int32) (a_nodesBefore : Int32) (a_partsBefore : Int32) (a_variablesBefore : Int32) (a_shapes_n : Nat) (a_shapes_f : Nat → Int32) (a_values_n : Nat) (a_values_f : Nat → Int64) (a_firstParts_n : Nat) (a_firstParts_f : Nat → Int32) (a_parts_size : Int32) : Option ((Int32 × Int32 × Nat × (Nat → Int32) × Nat × (Nat → Int64) × Nat × (Nat → Int32)) × Nat × Nat) := (p_Terms_newNode ((-1) : Int32) number a_nodes a_variables a_variablesLack a_symbols a_nodesBefore a_partsBefore a_variablesBefore a_shapes_n a_shapes_f a_values_n a_values_f a_firstParts_n a_firstParts_f a_parts_size).bind (fun ((r1, a_nodes_1, a_shapes_n_1, a_shapes_f_1, a_values_n_1, a_values_f_1, a_firstParts_n_1, a_firstParts_f_1), mk1, sk1) => al mk1 sk1 (some ((r1, a_nodes_1, a_shapes_n_1, a_shapes_f_1, a_values_n_1, a_values_f_1, a_firstParts_n_1, a_firstParts_f_1), 0, 0)))
set_option maxHeartbeats 4000000 in
set_option maxRecDepth 100000 in
theorem c_Terms_integer (l : Launch) (g : va_G) (cs : Nat → ClassId) (ka : Nat → Nat) (a_variableNames : Nat) (a_became : Nat) (a_parts_items : Nat) (a a_shapes a_values a_firstParts a_parts : Nat) (sz : Nat) (number : Int64) (a_nodes : Int32) (a_variables : Int32) (a_variablesLack : Int32) (a_symbols : Int32) (a_nodesBefore : Int32) (a_partsBefore : Int32) (a_variablesBefore : Int32) (a_shapes_n : Nat) (a_shapes_f : Nat → Int32) (a_values_n : Nat) (a_values_f : Nat → Int64) (a_firstParts_n : Nat) (a_firstParts_f : Nat → Int32) (a_parts_size : Int32) (r : Int32) (o_a_nodes : Int32) (o_a_shapes_n : Nat) (o_a_shapes_f : Nat → Int32) (o_a_values_n : Nat) (o_a_values_f : Nat → Int64) (o_a_firstParts_n : Nat) (o_a_firstParts_f : Nat → Int32) (mc ms : Nat) (hok : p_Terms_integer number a_nodes a_variables a_variablesLack a_symbols a_nodesBefore a_partsBefore a_variablesBefore a_shapes_n a_shapes_f a_values_n a_values_f a_firstParts_n a_firstParts_f a_parts_size = some ((r, o_a_nodes, o_a_shapes_n, o_a_shapes_f, o_a_values_n, o_a_values_f, o_a_firstParts_n, o_a_firstParts_f), mc, ms)) : Met l y_Terms_integer (.code y_Terms_integer b_Terms_integer 3 (some .int) :: GW) { frames := 3, cells := mc, slots := ms, locals := 145 } (va_Pc [.ref a, .long number] (gP g cs ka [(a, .inr (7, [.ref a_shapes, .ref a_values, .ref a_firstParts, .int a_nodes, .ref a_parts, .ref a_variableNames, .ref a_became, .int a_variables, .int a_variablesLack, .int a_symbols, .int a_nodesBefore, .int a_partsBefore, .int a_variablesBefore])), (a_shapes, .inl (cs 0, a_shapes_n, .inl a_shapes_f)), (a_values, .inl (cs 2, a_values_n, .inr (.inl a_values_f))), (a_firstParts, .inl (cs 0, a_firstParts_n, .inl a_firstParts_f)), (a_parts, .inr (1, [.ref a_parts_items, .int a_parts_size]))] sz)) (va_Qi (fun (r' : Int32) (_ : Unit) => r = r') (fun _ t => ∃ b_a_shapes b_a_values b_a_firstParts : Nat, va_P g classes [(a, .inr (7, [.ref b_a_shapes, .ref b_a_values, .ref b_a_firstParts, .int o_a_nodes, .ref a_parts, .ref a_variableNames, .ref a_became, .int a_variables, .int a_variablesLack, .int a_symbols, .int a_nodesBefore, .int a_partsBefore, .int a_variablesBefore])), (b_a_shapes, .inl (cs 0, o_a_shapes_n, .inl o_a_shapes_f)), (b_a_values, .inl (cs 2, o_a_values_n, .inr (.inl o_a_values_f))), (b_a_firstParts, .inl (cs 0, o_a_firstParts_n, .inl o_a_firstParts_f)), (a_parts, .inr (1, [.ref a_parts_items, .int a_parts_size]))] t.heap ∧ va_D (va_A [(a, .inr (7, [.ref a_shapes, .ref a_values, .ref a_firstParts, .int a_nodes, .ref a_parts, .ref a_variableNames, .ref a_became, .int a_variables, .int a_variablesLack, .int a_symbols, .int a_nodesBefore, .int a_partsBefore, .int a_variablesBefore])), (a_shapes, .inl (cs 0, a_shapes_n, .inl a_shapes_f)), (a_values, .inl (cs 2, a_values_n, .inr (.inl a_values_f))), (a_firstParts, .inl (cs 0, a_firstParts_n, .inl a_firstParts_f)), (a_parts, .inr (1, [.ref a_parts_items, .int a_parts_size]))] sz) [(a, .inr (7, [.ref b_a_shapes, .ref b_a_values, .ref b_a_firstParts, .int o_a_nodes, .ref a_parts, .ref a_variableNames, .ref a_became, .int a_variables, .int a_variablesLack, .int a_symbols, .int a_nodesBefore, .int a_partsBefore, .int a_variablesBefore])), (b_a_shapes, .inl (cs 0, o_a_shapes_n, .inl o_a_shapes_f)), (b_a_values, .inl (cs 2, o_a_values_n, .inr (.inl o_a_values_f))), (b_a_firstParts, .inl (cs 0, o_a_firstParts_n, .inl o_a_firstParts_f)), (a_parts, .inr (1, [.ref a_parts_items, .int a_parts_size]))]) (va_A [(a, .inr (7, [.ref a_shapes, .ref a_values, .ref a_firstParts, .int a_nodes, .ref a_parts, .ref a_variableNames, .ref a_became, .int a_variables, .int a_variablesLack, .int a_symbols, .int a_nodesBefore, .int a_partsBefore, .int a_variablesBefore])), (a_shapes, .inl (cs 0, a_shapes_n, .inl a_shapes_f)), (a_values, .inl (cs 2, a_values_n, .inr (.inl a_values_f))), (a_firstParts, .inl (cs 0, a_firstParts_n, .inl a_firstParts_f)), (a_parts, .inr (1, [.ref a_parts_items, .int a_parts_size]))] sz)) mc ms (va_A [(a, .inr (7, [.ref a_shapes, .ref a_values, .ref a_firstParts, .int a_nodes, .ref a_parts, .ref a_variableNames, .ref a_became, .int a_variables, .int a_variablesLack, .int a_symbols, .int a_nodesBefore, .int a_partsBefore, .int a_variablesBefore])), (a_shapes, .inl (cs 0, a_shapes_n, .inl a_shapes_f)), (a_values, .inl (cs 2, a_values_n, .inr (.inl a_values_f))), (a_firstParts, .inl (cs 0, a_firstParts_n, .inl a_firstParts_f)), (a_parts, .inr (1, [.ref a_parts_items, .int a_parts_size]))] sz) := by
  refine Met.ofW (cc := b_Terms_integer) (maxL := 3) (ret := (some .int)) (by decide) rfl ?_
  intro p e s m args below meth c s₁ B hml hv
  obtain ⟨rfl, hsz, hP, hK, hD0, hgl, hkn, hkr⟩ := hv
  have hx := B.exec
  have hb := B.bytes
  have hr := B.returns
  have hg : ∀ w ∈ GW, w.before ([.ref a, .long number] : List Value).toArray s = true := fun w hw => atoms_spec (ws := .code y_Terms_integer b_Terms_integer 3 (some .int) :: GW) B.pre w (List.mem_cons_of_mem _ hw)
  have hown : s.vm.findClass R_Terms = some m.cls := findClass_of_methodNamed B.named
  have hlocks := B.notSynchronized
  subst hsz
  have hD := hD0.self (sz := s.heap.size)
  generalize hAe : va_A [(a, .inr (7, [.ref a_shapes, .ref a_values, .ref a_firstParts, .int a_nodes, .ref a_parts, .ref a_variableNames, .ref a_became, .int a_variables, .int a_variablesLack, .int a_symbols, .int a_nodesBefore, .int a_partsBefore, .int a_variablesBefore])), (a_shapes, .inl (cs 0, a_shapes_n, .inl a_shapes_f)), (a_values, .inl (cs 2, a_values_n, .inr (.inl a_values_f))), (a_firstParts, .inl (cs 0, a_firstParts_n, .inl a_firstParts_f)), (a_parts, .inr (1, [.ref a_parts_items, .int a_parts_size]))] s.heap.size = A at hD hkn ⊢
  have hA : ∀ q : Nat, s.heap.size ≤ q → A q := fun q h => by rw [← hAe]; exact Or.inr h
  have hS : va_S A s.heap s.heap [] := va_S.rf
  have hP : va_P g classes [(a, .inr (7, [.ref a_shapes, .ref a_values, .ref a_firstParts, .int a_nodes, .ref a_parts, .ref a_variableNames, .ref a_became, .int a_variables, .int a_variablesLack, .int a_symbols, .int a_nodesBefore, .int a_partsBefore, .int a_variablesBefore])), (a_shapes, .inl (cs 0, a_shapes_n, .inl a_shapes_f)), (a_values, .inl (cs 2, a_values_n, .inr (.inl a_values_f))), (a_firstParts, .inl (cs 0, a_firstParts_n, .inl a_firstParts_f)), (a_parts, .inr (1, [.ref a_parts_items, .int a_parts_size]))] s.heap := hP
  have hl := lv_entry ([.ref a, .long number]) (n := 3) (Nat.le_of_ble_eq_true rfl)
  rw [lg_entry_eq]
  generalize (lg_sl ([.ref a, .long number]) ++ List.replicate (3 - (lg_sl ([.ref a, .long number])).length) Slot.unset).toArray = ls at hl ⊢
  have hl : lv_has ls 3 [(0, .ref a), (1, .long number)] := hl
  refine gq (fun Q hQ => ?_)
  obtain ⟨H, hH⟩ : ∃ H : Heap, H = s.heap := ⟨_, rfl⟩
  rw [← hH] at hP
  have hS : va_S A s.heap H [] := by rw [hH]; exact hS
  refine W.eqH hH ?_
  obtain ⟨locs, hlc⟩ : ∃ L : List Loc, L = [] := ⟨_, rfl⟩
  rw [← hlc] at hS ⊢
  unfold p_Terms_integer at hok
  refine lv_aload_n hx hb d_Terms_integer_0 rfl (lv_at hl 0 rfl) ?_
  refine lv_iconst (v := (-1)) hx hb d_Terms_integer_1 (by decide) ?_
  refine lv_lload_n hx hb d_Terms_integer_2 rfl (lv_at hl 1 rfl) ?_
  obtain ⟨⟨⟨r1, a_nodes_1, a_shapes_n_1, a_shapes_f_1, a_values_n_1, a_values_f_1, a_firstParts_n_1, a_firstParts_f_1⟩, mk1, sk1⟩, hc1, hok⟩ := bd_some hok
  dsimp only at hok
  obtain ⟨m1, s1, hok, hmc1, hms1⟩ := al_some hok
  obtain ⟨hPc, hDc, hFc⟩ := cut0 (wc := [(a, .inr (7, [.ref a_shapes, .ref a_values, .ref a_firstParts, .int a_nodes, .ref a_parts, .ref a_variableNames, .ref a_became, .int a_variables, .int a_variablesLack, .int a_symbols, .int a_nodesBefore, .int a_partsBefore, .int a_variablesBefore])), (a_shapes, .inl (cs 0, a_shapes_n, .inl a_shapes_f)), (a_values, .inl (cs 2, a_values_n, .inr (.inl a_values_f))), (a_firstParts, .inl (cs 0, a_firstParts_n, .inl a_firstParts_f)), (a_parts, .inr (1, [.ref a_parts_items, .int a_parts_size]))]) hP hD hS hA [0, 1, 2, 3, 4] (by decide) rfl
  refine va_calli (va_runV (As := [.int (-1), .long number]) (rest := []) ⟨hx, hb, hml, hown, hg⟩ (c_Terms_newNode l g cs ka a_variableNames a_became a_parts_items a a_shapes a_values a_firstParts a_parts H.size ((-1) : Int32) number a_nodes a_variables a_variablesLack a_symbols a_nodesBefore a_partsBefore a_variablesBefore a_shapes_n a_shapes_f a_values_n a_values_f a_firstParts_n a_firstParts_f a_parts_size r1 a_nodes_1 a_shapes_n_1 a_shapes_f_1 a_values_n_1 a_values_f_1 a_firstParts_n_1 a_firstParts_f_1 mk1 sk1 hc1) (cwV (C := R_Terms) 2 hg (gw_V wd_265 wd_266 wd_267 wd_264 wd_263) rfl rfl rfl (by decide +kernel) ⟨Nat.le_of_ble_eq_true rfl, Nat.le_of_ble_eq_true rfl⟩) ⟨gP_blind, va_recv (q0 := 0) (ci := 7) (q := (R_Terms, F_Terms, 13)) hK hP rfl rfl, gP_pre hPc hDc hK hgl hkn hkr hS hFc⟩ rfl rfl hl.1 rfl (lv_room (Nat.le_of_ble_eq_true rfl)) d_Terms_integer_3 ⟨show 0 + mk1 ≤ mc from by omega, show 0 + sk1 ≤ ms from by omega⟩) hS (fun q _ h => hFc q h) hFc (fun r1' u t H locs ht hvm hr1 hB hz1 hk1 hS => ?_)
  subst hr1
  rw [ht] at hB
  obtain ⟨a_shapes_1, a_values_1, a_firstParts_1, hP1, hD1⟩ := hB
  obtain ⟨hP, hD⟩ := jn_A hP hD [0, 1, 2, 3, 4] [] rfl rfl (by decide) (by decide) hk1 hFc hP1 hD1
  obtain ⟨hP, hD⟩ : PD g A H [(a, .inr (7, [.ref a_shapes_1, .ref a_values_1, .ref a_firstParts_1, .int a_nodes_1, .ref a_parts, .ref a_variableNames, .ref a_became, .int a_variables, .int a_variablesLack, .int a_symbols, .int a_nodesBefore, .int a_partsBefore, .int a_variablesBefore])), (a_shapes_1, .inl (cs 0, a_shapes_n_1, .inl a_shapes_f_1)), (a_values_1, .inl (cs 2, a_values_n_1, .inr (.inl a_values_f_1))), (a_firstParts_1, .inl (cs 0, a_firstParts_n_1, .inl a_firstParts_f_1)), (a_parts, .inr (1, [.ref a_parts_items, .int a_parts_size]))] := ⟨hP, hD⟩
  obtain ⟨hq, hw⟩ := Prod.mk.inj (Option.some.inj hok)
  obtain ⟨hmc0, hms0⟩ := Prod.mk.inj hw
  obtain ⟨hq0, hq⟩ := Prod.mk.inj hq
  obtain ⟨hq1, hq⟩ := Prod.mk.inj hq
  obtain ⟨hq2, hq⟩ := Prod.mk.inj hq
  obtain ⟨hq3, hq⟩ := Prod.mk.inj hq
  obtain ⟨hq4, hq⟩ := Prod.mk.inj hq
  obtain ⟨hq5, hq⟩ := Prod.mk.inj hq
  obtain ⟨hq6, hq⟩ := Prod.mk.inj hq
  have hq7 := hq
  subst hq0
  subst hq1
  subst hq2
  subst hq3
  subst hq4
  subst hq5
  subst hq6
  subst hq7
  obtain ⟨hP9, hD9⟩ := sub2 (ws' := [(a, .inr (7, [.ref a_shapes_1, .ref a_values_1, .ref a_firstParts_1, .int a_nodes_1, .ref a_parts, .ref a_variableNames, .ref a_became, .int a_variables, .int a_variablesLack, .int a_symbols, .int a_nodesBefore, .int a_partsBefore, .int a_variablesBefore])), (a_shapes_1, .inl (cs 0, a_shapes_n_1, .inl a_shapes_f_1)), (a_values_1, .inl (cs 2, a_values_n_1, .inr (.inl a_values_f_1))), (a_firstParts_1, .inl (cs 0, a_firstParts_n_1, .inl a_firstParts_f_1)), (a_parts, .inr (1, [.ref a_parts_items, .int a_parts_size]))]) hP hD [0, 1, 2, 3, 4] rfl (by decide) rfl
  refine W.widen (k := mc) (n := ms) (by omega) (by omega) ?_
  rw [hQ]
  exact W.iret (v := r1) hx hb hr (fun t ht hW => ⟨⟨_, (), rfl, rfl, a_shapes_1, a_values_1, a_firstParts_1, by rw [ht]; exact hP9, hD9⟩, hS.F ht⟩) hS.2.2 d_Terms_integer_6

theorem d_Terms_compound_0 : decode b_Terms_compound 0 = .ok (.aload_n 0, 1) := by decide +kernel
theorem d_Terms_compound_1 : decode b_Terms_compound 1 = .ok (.iload_n 3, 1) := by decide +kernel
theorem d_Terms_compound_2 : decode b_Terms_compound 2 = .ok (.iload_n 1, 1) := by decide +kernel
theorem d_Terms_compound_3 : decode b_Terms_compound 3 = .ok (.i2l, 1) := by decide +kernel
theorem d_Terms_compound_4 : decode b_Terms_compound 4 = .ok (.invokevirtual 73, 3) := by decide +kernel
theorem d_Terms_compound_7 : decode b_Terms_compound 7 = .ok (.istore 4, 2) := by decide +kernel
theorem d_Terms_compound_9 : decode b_Terms_compound 9 = .ok (.aload_n 2, 1) := by decide +kernel
theorem d_Terms_compound_10 : decode b_Terms_compound 10 = .ok (.invokevirtual 58, 3) := by decide +kernel
theorem d_Terms_compound_13 : decode b_Terms_compound 13 = .ok (.iload_n 3, 1) := by decide +kernel
theorem d_Terms_compound_14 : decode b_Terms_compound 14 = .ok (.isub, 1) := by decide +kernel
theorem d_Terms_compound_15 : decode b_Terms_compound 15 = .ok (.istore 5, 2) := by decide +kernel
theorem d_Terms_compound_17 : decode b_Terms_compound 17 = .ok (.iload 5, 2) := by decide +kernel
theorem d_Terms_compound_19 : decode b_Terms_compound 19 = .ok (.aload_n 2, 1) := by decide +kernel
theorem d_Terms_compound_20 : decode b_Terms_compound 20 = .ok (.invokevirtual 58, 3) := by decide +kernel
theorem d_Terms_compound_23 : decode b_Terms_compound 23 = .ok (.if_icmp .ge 22, 3) := by decide +kernel
theorem d_Terms_compound_26 : decode b_Terms_compound 26 = .ok (.aload_n 0, 1) := by decide +kernel
theorem d_Terms_compound_27 : decode b_Terms_compound 27 = .ok (.getfield 27, 3) := by decide +kernel
theorem d_Terms_compound_30 : decode b_Terms_compound 30 = .ok (.aload_n 2, 1) := by decide +kernel
theorem d_Terms_compound_31 : decode b_Terms_compound 31 = .ok (.iload 5, 2) := by decide +kernel
theorem d_Terms_compound_33 : decode b_Terms_compound 33 = .ok (.invokevirtual 77, 3) := by decide +kernel
theorem d_Terms_compound_36 : decode b_Terms_compound 36 = .ok (.invokevirtual 81, 3) := by decide +kernel
theorem d_Terms_compound_39 : decode b_Terms_compound 39 = .ok (.iinc 5 1, 3) := by decide +kernel
theorem d_Terms_compound_42 : decode b_Terms_compound 42 = .ok (.goto (-25), 3) := by decide +kernel
theorem d_Terms_compound_45 : decode b_Terms_compound 45 = .ok (.iload 4, 2) := by decide +kernel
theorem d_Terms_compound_47 : decode b_Terms_compound 47 = .ok (.ireturn, 1) := by decide +kernel
def p_Terms_compound_17 (n : Nat) (stack_size : Int32) (stack_items_n : Nat) (stack_items_f : Nat → Int32) (r1 : Int32) (a_nodes_1 : Int32) (a_shapes_n_1 : Nat) (a_shapes_f_1 : Nat → Int32) (a_values_n_1 : Nat) (a_values_f_1 : Nat → Int64) (a_firstParts_n_1 : Nat) (a_firstParts_f_1 : Nat → Int32) (kf3 : Nat) (x5_3 : Int32) (a_parts_size_3 : Int32) (a_parts_items_3n : Nat) (a_parts_items_3f : Nat → Int32) : Option ((Int32 × Int32 × Nat × (Nat → Int32) × Nat × (Nat → Int64) × Nat × (Nat → Int32) × Int32 × Nat × (Nat → Int32)) × Nat × Nat) := match kf3 with
  | 0 => none
  | kf3 + 1 => (p_Ints_size stack_size).bind (fun r4 => if r4 ≤ x5_3 then (some ((r1, a_nodes_1, a_shapes_n_1, a_shapes_f_1, a_values_n_1, a_values_f_1, a_firstParts_n_1, a_firstParts_f_1, a_parts_size_3, a_parts_items_3n, a_parts_items_3f), 0, 0)) else ((p_Ints_at x5_3 stack_size stack_items_n stack_items_f).bind (fun r6 => (p_Ints_push r6 a_parts_size_3 a_parts_items_3n a_parts_items_3f).bind (fun ((a_size_7, a_items_n_7, a_items_f_7), mk7, sk7) => al mk7 sk7 (p_Terms_compound_17 n stack_size stack_items_n stack_items_f r1 a_nodes_1 a_shapes_n_1 a_shapes_f_1 a_values_n_1 a_values_f_1 a_firstParts_n_1 a_firstParts_f_1 kf3 (x5_3 + 1) a_size_7 a_items_n_7 a_items_f_7)))))
def p_Terms_compound (n : Nat) (name : Int32) (howMany : Int32) (a_nodes : Int32) (a_variables : Int32) (a_variablesLack : Int32) (a_symbols : Int32) (a_nodesBefore : Int32) (a_partsBefore : Int32) (a_variablesBefore : Int32) (a_shapes_n : Nat) (a_shapes_f : Nat → Int32) (a_values_n : Nat) (a_values_f : Nat → Int64) (a_firstParts_n : Nat) (a_firstParts_f : Nat → Int32) (a_parts_size : Int32) (a_parts_items_n : Nat) (a_parts_items_f : Nat → Int32) (stack_size : Int32) (stack_items_n : Nat) (stack_items_f : Nat → Int32) : Option ((Int32 × Int32 × Nat × (Nat → Int32) × Nat × (Nat → Int64) × Nat × (Nat → Int32) × Int32 × Nat × (Nat → Int32)) × Nat × Nat) := (p_Terms_newNode howMany name.toInt64 a_nodes a_variables a_variablesLack a_symbols a_nodesBefore a_partsBefore a_variablesBefore a_shapes_n a_shapes_f a_values_n a_values_f a_firstParts_n a_firstParts_f a_parts_size).bind (fun ((r1, a_nodes_1, a_shapes_n_1, a_shapes_f_1, a_values_n_1, a_values_f_1, a_firstParts_n_1, a_firstParts_f_1), mk1, sk1) => al mk1 sk1 ((p_Ints_size stack_size).bind (fun r2 => p_Terms_compound_17 n stack_size stack_items_n stack_items_f r1 a_nodes_1 a_shapes_n_1 a_shapes_f_1 a_values_n_1 a_values_f_1 a_firstParts_n_1 a_firstParts_f_1 n (r2 - howMany) a_parts_size a_parts_items_n a_parts_items_f)))
set_option maxHeartbeats 4000000 in
set_option maxRecDepth 100000 in
theorem c_Terms_compound (l : Launch) (g : va_G) (cs : Nat → ClassId) (ka : Nat → Nat) (a_variableNames : Nat) (a_became : Nat) (a a_shapes a_values a_firstParts a_parts a_parts_items stack stack_items : Nat) (sz : Nat) (n : Nat) (name : Int32) (howMany : Int32) (a_nodes : Int32) (a_variables : Int32) (a_variablesLack : Int32) (a_symbols : Int32) (a_nodesBefore : Int32) (a_partsBefore : Int32) (a_variablesBefore : Int32) (a_shapes_n : Nat) (a_shapes_f : Nat → Int32) (a_values_n : Nat) (a_values_f : Nat → Int64) (a_firstParts_n : Nat) (a_firstParts_f : Nat → Int32) (a_parts_size : Int32) (a_parts_items_n : Nat) (a_parts_items_f : Nat → Int32) (stack_size : Int32) (stack_items_n : Nat) (stack_items_f : Nat → Int32) (r : Int32) (o_a_nodes : Int32) (o_a_shapes_n : Nat) (o_a_shapes_f : Nat → Int32) (o_a_values_n : Nat) (o_a_values_f : Nat → Int64) (o_a_firstParts_n : Nat) (o_a_firstParts_f : Nat → Int32) (o_a_parts_size : Int32) (o_a_parts_items_n : Nat) (o_a_parts_items_f : Nat → Int32) (mc ms : Nat) (hok : p_Terms_compound n name howMany a_nodes a_variables a_variablesLack a_symbols a_nodesBefore a_partsBefore a_variablesBefore a_shapes_n a_shapes_f a_values_n a_values_f a_firstParts_n a_firstParts_f a_parts_size a_parts_items_n a_parts_items_f stack_size stack_items_n stack_items_f = some ((r, o_a_nodes, o_a_shapes_n, o_a_shapes_f, o_a_values_n, o_a_values_f, o_a_firstParts_n, o_a_firstParts_f, o_a_parts_size, o_a_parts_items_n, o_a_parts_items_f), mc, ms)) : Met l y_Terms_compound (.code y_Terms_compound b_Terms_compound 6 (some .int) :: GW) { frames := 3, cells := mc, slots := ms, locals := 145 } (va_Pc [.ref a, .int name, .ref stack, .int howMany] (gP g cs ka [(a, .inr (7, [.ref a_shapes, .ref a_values, .ref a_firstParts, .int a_nodes, .ref a_parts, .ref a_variableNames, .ref a_became, .int a_variables, .int a_variablesLack, .int a_symbols, .int a_nodesBefore, .int a_partsBefore, .int a_variablesBefore])), (a_shapes, .inl (cs 0, a_shapes_n, .inl a_shapes_f)), (a_values, .inl (cs 2, a_values_n, .inr (.inl a_values_f))), (a_firstParts, .inl (cs 0, a_firstParts_n, .inl a_firstParts_f)), (a_parts, .inr (1, [.ref a_parts_items, .int a_parts_size])), (a_parts_items, .inl (cs 0, a_parts_items_n, .inl a_parts_items_f)), (stack, .inr (1, [.ref stack_items, .int stack_size])), (stack_items, .inl (cs 0, stack_items_n, .inl stack_items_f))] sz)) (va_Qi (fun (r' : Int32) (_ : Unit) => r = r') (fun _ t => ∃ b_a_shapes b_a_values b_a_firstParts b_a_parts_items : Nat, va_P g classes [(a, .inr (7, [.ref b_a_shapes, .ref b_a_values, .ref b_a_firstParts, .int o_a_nodes, .ref a_parts, .ref a_variableNames, .ref a_became, .int a_variables, .int a_variablesLack, .int a_symbols, .int a_nodesBefore, .int a_partsBefore, .int a_variablesBefore])), (b_a_shapes, .inl (cs 0, o_a_shapes_n, .inl o_a_shapes_f)), (b_a_values, .inl (cs 2, o_a_values_n, .inr (.inl o_a_values_f))), (b_a_firstParts, .inl (cs 0, o_a_firstParts_n, .inl o_a_firstParts_f)), (a_parts, .inr (1, [.ref b_a_parts_items, .int o_a_parts_size])), (b_a_parts_items, .inl (cs 0, o_a_parts_items_n, .inl o_a_parts_items_f)), (stack, .inr (1, [.ref stack_items, .int stack_size])), (stack_items, .inl (cs 0, stack_items_n, .inl stack_items_f))] t.heap ∧ va_D (va_A [(a, .inr (7, [.ref a_shapes, .ref a_values, .ref a_firstParts, .int a_nodes, .ref a_parts, .ref a_variableNames, .ref a_became, .int a_variables, .int a_variablesLack, .int a_symbols, .int a_nodesBefore, .int a_partsBefore, .int a_variablesBefore])), (a_shapes, .inl (cs 0, a_shapes_n, .inl a_shapes_f)), (a_values, .inl (cs 2, a_values_n, .inr (.inl a_values_f))), (a_firstParts, .inl (cs 0, a_firstParts_n, .inl a_firstParts_f)), (a_parts, .inr (1, [.ref a_parts_items, .int a_parts_size])), (a_parts_items, .inl (cs 0, a_parts_items_n, .inl a_parts_items_f)), (stack, .inr (1, [.ref stack_items, .int stack_size])), (stack_items, .inl (cs 0, stack_items_n, .inl stack_items_f))] sz) [(a, .inr (7, [.ref b_a_shapes, .ref b_a_values, .ref b_a_firstParts, .int o_a_nodes, .ref a_parts, .ref a_variableNames, .ref a_became, .int a_variables, .int a_variablesLack, .int a_symbols, .int a_nodesBefore, .int a_partsBefore, .int a_variablesBefore])), (b_a_shapes, .inl (cs 0, o_a_shapes_n, .inl o_a_shapes_f)), (b_a_values, .inl (cs 2, o_a_values_n, .inr (.inl o_a_values_f))), (b_a_firstParts, .inl (cs 0, o_a_firstParts_n, .inl o_a_firstParts_f)), (a_parts, .inr (1, [.ref b_a_parts_items, .int o_a_parts_size])), (b_a_parts_items, .inl (cs 0, o_a_parts_items_n, .inl o_a_parts_items_f)), (stack, .inr (1, [.ref stack_items, .int stack_size])), (stack_items, .inl (cs 0, stack_items_n, .inl stack_items_f))]) (va_A [(a, .inr (7, [.ref a_shapes, .ref a_values, .ref a_firstParts, .int a_nodes, .ref a_parts, .ref a_variableNames, .ref a_became, .int a_variables, .int a_variablesLack, .int a_symbols, .int a_nodesBefore, .int a_partsBefore, .int a_variablesBefore])), (a_shapes, .inl (cs 0, a_shapes_n, .inl a_shapes_f)), (a_values, .inl (cs 2, a_values_n, .inr (.inl a_values_f))), (a_firstParts, .inl (cs 0, a_firstParts_n, .inl a_firstParts_f)), (a_parts, .inr (1, [.ref a_parts_items, .int a_parts_size])), (a_parts_items, .inl (cs 0, a_parts_items_n, .inl a_parts_items_f)), (stack, .inr (1, [.ref stack_items, .int stack_size])), (stack_items, .inl (cs 0, stack_items_n, .inl stack_items_f))] sz)) mc ms (va_A [(a, .inr (7, [.ref a_shapes, .ref a_values, .ref a_firstParts, .int a_nodes, .ref a_parts, .ref a_variableNames, .ref a_became, .int a_variables, .int a_variablesLack, .int a_symbols, .int a_nodesBefore, .int a_partsBefore, .int a_variablesBefore])), (a_shapes, .inl (cs 0, a_shapes_n, .inl a_shapes_f)), (a_values, .inl (cs 2, a_values_n, .inr (.inl a_values_f))), (a_firstParts, .inl (cs 0, a_firstParts_n, .inl a_firstParts_f)), (a_parts, .inr (1, [.ref a_parts_items, .int a_parts_size])), (a_parts_items, .inl (cs 0, a_parts_items_n, .inl a_parts_items_f)), (stack, .inr (1, [.ref stack_items, .int stack_size])), (stack_items, .inl (cs 0, stack_items_n, .inl stack_items_f))] sz) := by
  refine Met.ofW (cc := b_Terms_compound) (maxL := 6) (ret := (some .int)) (by decide) rfl ?_
  intro p e s m args below meth c s₁ B hml hv
  obtain ⟨rfl, hsz, hP, hK, hD0, hgl, hkn, hkr⟩ := hv
  have hx := B.exec
  have hb := B.bytes
  have hr := B.returns
  have hg : ∀ w ∈ GW, w.before ([.ref a, .int name, .ref stack, .int howMany] : List Value).toArray s = true := fun w hw => atoms_spec (ws := .code y_Terms_compound b_Terms_compound 6 (some .int) :: GW) B.pre w (List.mem_cons_of_mem _ hw)
  have hown : s.vm.findClass R_Terms = some m.cls := findClass_of_methodNamed B.named
  have hlocks := B.notSynchronized
  subst hsz
  have hD := hD0.self (sz := s.heap.size)
  generalize hAe : va_A [(a, .inr (7, [.ref a_shapes, .ref a_values, .ref a_firstParts, .int a_nodes, .ref a_parts, .ref a_variableNames, .ref a_became, .int a_variables, .int a_variablesLack, .int a_symbols, .int a_nodesBefore, .int a_partsBefore, .int a_variablesBefore])), (a_shapes, .inl (cs 0, a_shapes_n, .inl a_shapes_f)), (a_values, .inl (cs 2, a_values_n, .inr (.inl a_values_f))), (a_firstParts, .inl (cs 0, a_firstParts_n, .inl a_firstParts_f)), (a_parts, .inr (1, [.ref a_parts_items, .int a_parts_size])), (a_parts_items, .inl (cs 0, a_parts_items_n, .inl a_parts_items_f)), (stack, .inr (1, [.ref stack_items, .int stack_size])), (stack_items, .inl (cs 0, stack_items_n, .inl stack_items_f))] s.heap.size = A at hD hkn ⊢
  have hA : ∀ q : Nat, s.heap.size ≤ q → A q := fun q h => by rw [← hAe]; exact Or.inr h
  have hS : va_S A s.heap s.heap [] := va_S.rf
  have hP : va_P g classes [(a, .inr (7, [.ref a_shapes, .ref a_values, .ref a_firstParts, .int a_nodes, .ref a_parts, .ref a_variableNames, .ref a_became, .int a_variables, .int a_variablesLack, .int a_symbols, .int a_nodesBefore, .int a_partsBefore, .int a_variablesBefore])), (a_shapes, .inl (cs 0, a_shapes_n, .inl a_shapes_f)), (a_values, .inl (cs 2, a_values_n, .inr (.inl a_values_f))), (a_firstParts, .inl (cs 0, a_firstParts_n, .inl a_firstParts_f)), (a_parts, .inr (1, [.ref a_parts_items, .int a_parts_size])), (a_parts_items, .inl (cs 0, a_parts_items_n, .inl a_parts_items_f)), (stack, .inr (1, [.ref stack_items, .int stack_size])), (stack_items, .inl (cs 0, stack_items_n, .inl stack_items_f))] s.heap := hP
  have hl := lv_entry ([.ref a, .int name, .ref stack, .int howMany]) (n := 6) (Nat.le_of_ble_eq_true rfl)
  rw [lg_entry_eq]
  generalize (lg_sl ([.ref a, .int name, .ref stack, .int howMany]) ++ List.replicate (6 - (lg_sl ([.ref a, .int name, .ref stack, .int howMany])).length) Slot.unset).toArray = ls at hl ⊢
  have hl : lv_has ls 6 [(0, .ref a), (1, .int name), (2, .ref stack), (3, .int howMany)] := hl
  refine gq (fun Q hQ => ?_)
  obtain ⟨H, hH⟩ : ∃ H : Heap, H = s.heap := ⟨_, rfl⟩
  rw [← hH] at hP
  have hS : va_S A s.heap H [] := by rw [hH]; exact hS
  refine W.eqH hH ?_
  obtain ⟨locs, hlc⟩ : ∃ L : List Loc, L = [] := ⟨_, rfl⟩
  rw [← hlc] at hS ⊢
  unfold p_Terms_compound at hok
  refine lv_aload_n hx hb d_Terms_compound_0 rfl (lv_at hl 0 rfl) ?_
  refine lv_iload_n hx hb d_Terms_compound_1 rfl (lv_at hl 3 rfl) ?_
  refine lv_iload_n hx hb d_Terms_compound_2 rfl (lv_at hl 1 rfl) ?_
  refine lv_i2l hx hb d_Terms_compound_3 rfl ?_
  obtain ⟨⟨⟨r1, a_nodes_1, a_shapes_n_1, a_shapes_f_1, a_values_n_1, a_values_f_1, a_firstParts_n_1, a_firstParts_f_1⟩, mk1, sk1⟩, hc1, hok⟩ := bd_some hok
  dsimp only at hok
  obtain ⟨m1, s1, hok, hmc1, hms1⟩ := al_some hok
  obtain ⟨hPc, hDc, hFc⟩ := cut0 (wc := [(a, .inr (7, [.ref a_shapes, .ref a_values, .ref a_firstParts, .int a_nodes, .ref a_parts, .ref a_variableNames, .ref a_became, .int a_variables, .int a_variablesLack, .int a_symbols, .int a_nodesBefore, .int a_partsBefore, .int a_variablesBefore])), (a_shapes, .inl (cs 0, a_shapes_n, .inl a_shapes_f)), (a_values, .inl (cs 2, a_values_n, .inr (.inl a_values_f))), (a_firstParts, .inl (cs 0, a_firstParts_n, .inl a_firstParts_f)), (a_parts, .inr (1, [.ref a_parts_items, .int a_parts_size]))]) hP hD hS hA [0, 1, 2, 3, 4] (by decide) rfl
  refine va_calli (va_runV (As := [.int howMany, .long name.toInt64]) (rest := []) ⟨hx, hb, hml, hown, hg⟩ (c_Terms_newNode l g cs ka a_variableNames a_became a_parts_items a a_shapes a_values a_firstParts a_parts H.size howMany name.toInt64 a_nodes a_variables a_variablesLack a_symbols a_nodesBefore a_partsBefore a_variablesBefore a_shapes_n a_shapes_f a_values_n a_values_f a_firstParts_n a_firstParts_f a_parts_size r1 a_nodes_1 a_shapes_n_1 a_shapes_f_1 a_values_n_1 a_values_f_1 a_firstParts_n_1 a_firstParts_f_1 mk1 sk1 hc1) (cwV (C := R_Terms) 2 hg (gw_V wd_265 wd_266 wd_267 wd_264 wd_263) rfl rfl rfl (by decide +kernel) ⟨Nat.le_of_ble_eq_true rfl, Nat.le_of_ble_eq_true rfl⟩) ⟨gP_blind, va_recv (q0 := 0) (ci := 7) (q := (R_Terms, F_Terms, 13)) hK hP rfl rfl, gP_pre hPc hDc hK hgl hkn hkr hS hFc⟩ rfl rfl hl.1 rfl (lv_room (Nat.le_of_ble_eq_true rfl)) d_Terms_compound_4 ⟨show 0 + mk1 ≤ mc from by omega, show 0 + sk1 ≤ ms from by omega⟩) hS (fun q _ h => hFc q h) hFc (fun r1' u t H locs ht hvm hr1 hB hz1 hk1 hS => ?_)
  subst hr1
  rw [ht] at hB
  obtain ⟨a_shapes_1, a_values_1, a_firstParts_1, hP1, hD1⟩ := hB
  obtain ⟨hP, hD⟩ := jn_A hP hD [0, 1, 2, 3, 4] [5, 6, 7] rfl rfl (by decide) (by decide) hk1 hFc hP1 hD1
  obtain ⟨hP, hD⟩ : PD g A H [(a_parts_items, .inl (cs 0, a_parts_items_n, .inl a_parts_items_f)), (stack, .inr (1, [.ref stack_items, .int stack_size])), (stack_items, .inl (cs 0, stack_items_n, .inl stack_items_f)), (a, .inr (7, [.ref a_shapes_1, .ref a_values_1, .ref a_firstParts_1, .int a_nodes_1, .ref a_parts, .ref a_variableNames, .ref a_became, .int a_variables, .int a_variablesLack, .int a_symbols, .int a_nodesBefore, .int a_partsBefore, .int a_variablesBefore])), (a_shapes_1, .inl (cs 0, a_shapes_n_1, .inl a_shapes_f_1)), (a_values_1, .inl (cs 2, a_values_n_1, .inr (.inl a_values_f_1))), (a_firstParts_1, .inl (cs 0, a_firstParts_n_1, .inl a_firstParts_f_1)), (a_parts, .inr (1, [.ref a_parts_items, .int a_parts_size]))] := ⟨hP, hD⟩
  refine lv_istore hx hb d_Terms_compound_7 hl (by decide) rfl (fun ls hl => ?_)
  have hl : lv_has ls 6 [(4, .int r1), (0, .ref a), (1, .int name), (2, .ref stack), (3, .int howMany)] := hl
  refine lv_aload_n hx hb d_Terms_compound_9 rfl (lv_at hl 3 rfl) ?_
  obtain ⟨r2, hc2, hok⟩ := bd_some hok
  obtain ⟨hPc, hDc, hFc⟩ := cut0 (wc := [(stack, .inr (1, [.ref stack_items, .int stack_size]))]) hP hD hS hA [1] (by decide) rfl
  refine va_calli (va_runV (As := []) (rest := []) ⟨hx, hb, hml, hown, hg⟩ (c_Ints_size l g cs ka stack_items stack H.size stack_size r2 hc2) (cwV (C := R_Ints) 0 hg (gw_V wd_248 wd_249 wd_250 wd_234 wd_247) rfl rfl rfl (by decide +kernel) ⟨Nat.le_of_ble_eq_true rfl, Nat.le_of_ble_eq_true rfl⟩) ⟨gP_blind, va_recv (q0 := 1) (ci := 1) (q := (R_Ints, F_Ints, 2)) hK hP rfl rfl, gP_pre hPc hDc hK hgl hkn hkr hS hFc⟩ rfl rfl hl.1 rfl (lv_room (Nat.le_of_ble_eq_true rfl)) d_Terms_compound_10 ⟨show 0 + mk1 + 0 ≤ mc from by omega, show 0 + sk1 + 0 ≤ ms from by omega⟩) hS (fun q _ h => hFc q h) hFc (fun r2' u t H locs ht hvm hr2 hB hz1 hk1 hS => ?_)
  subst hr2
  rw [ht] at hB
  obtain ⟨hP1, hD1⟩ := hB
  obtain ⟨hP, hD⟩ := jn_A hP hD [1] [0, 2, 3, 4, 5, 6, 7] rfl rfl (by decide) (by decide) hk1 hFc hP1 hD1
  obtain ⟨hP, hD⟩ : PD g A H [(a_parts_items, .inl (cs 0, a_parts_items_n, .inl a_parts_items_f)), (stack_items, .inl (cs 0, stack_items_n, .inl stack_items_f)), (a, .inr (7, [.ref a_shapes_1, .ref a_values_1, .ref a_firstParts_1, .int a_nodes_1, .ref a_parts, .ref a_variableNames, .ref a_became, .int a_variables, .int a_variablesLack, .int a_symbols, .int a_nodesBefore, .int a_partsBefore, .int a_variablesBefore])), (a_shapes_1, .inl (cs 0, a_shapes_n_1, .inl a_shapes_f_1)), (a_values_1, .inl (cs 2, a_values_n_1, .inr (.inl a_values_f_1))), (a_firstParts_1, .inl (cs 0, a_firstParts_n_1, .inl a_firstParts_f_1)), (a_parts, .inr (1, [.ref a_parts_items, .int a_parts_size])), (stack, .inr (1, [.ref stack_items, .int stack_size]))] := ⟨hP, hD⟩
  refine lv_iload_n hx hb d_Terms_compound_13 rfl (lv_at hl 4 rfl) ?_
  refine lv_isub hx hb d_Terms_compound_14 ?_
  refine lv_istore hx hb d_Terms_compound_15 hl (by decide) rfl (fun ls hl => ?_)
  have hl : lv_has ls 6 [(5, .int (r2 - howMany)), (4, .int r1), (0, .ref a), (1, .int name), (2, .ref stack), (3, .int howMany)] := hl
  have J3 : ∀ (kf3 : Nat) (H : Heap) (locs : List Loc) (ls : Array Slot) (cells3 slots3 mr3 sr3 : Nat) (a_parts_items_3 : Nat) (x5_3 : Int32) (a_parts_size_3 : Int32) (a_parts_items_3n : Nat) (a_parts_items_3f : Nat → Int32), lv_has ls 6 [(5, .int x5_3), (4, .int r1), (0, .ref a), (1, .int name), (2, .ref stack), (3, .int howMany)] → PD g A H [(a_parts_items_3, .inl (cs 0, a_parts_items_3n, .inl a_parts_items_3f)), (stack_items, .inl (cs 0, stack_items_n, .inl stack_items_f)), (a, .inr (7, [.ref a_shapes_1, .ref a_values_1, .ref a_firstParts_1, .int a_nodes_1, .ref a_parts, .ref a_variableNames, .ref a_became, .int a_variables, .int a_variablesLack, .int a_symbols, .int a_nodesBefore, .int a_partsBefore, .int a_variablesBefore])), (a_shapes_1, .inl (cs 0, a_shapes_n_1, .inl a_shapes_f_1)), (a_values_1, .inl (cs 2, a_values_n_1, .inr (.inl a_values_f_1))), (a_firstParts_1, .inl (cs 0, a_firstParts_n_1, .inl a_firstParts_f_1)), (a_parts, .inr (1, [.ref a_parts_items_3, .int a_parts_size_3])), (stack, .inr (1, [.ref stack_items, .int stack_size]))] → va_S A s.heap H locs → cells3 + mr3 = mc → slots3 + sr3 = ms → p_Terms_compound_17 n stack_size stack_items_n stack_items_f r1 a_nodes_1 a_shapes_n_1 a_shapes_f_1 a_values_n_1 a_values_f_1 a_firstParts_n_1 a_firstParts_f_1 kf3 x5_3 a_parts_size_3 a_parts_items_3n a_parts_items_3f = some ((r, o_a_nodes, o_a_shapes_n, o_a_shapes_f, o_a_values_n, o_a_values_f, o_a_firstParts_n, o_a_firstParts_f, o_a_parts_size, o_a_parts_items_n, o_a_parts_items_f), mr3, sr3) → W p l e (headSpec (.code y_Terms_compound b_Terms_compound 6 (some .int) :: GW) { frames := 3, cells := mc, slots := ms, locals := 145 }).room s m ([.ref a, .int name, .ref stack, .int howMany] : List Value).toArray below meth c H locs cells3 slots3 Q (F0 m 17 ls []) := by
    intro kf3
    induction kf3 with
    | zero => intro H locs ls cells3 slots3 mr3 sr3 a_parts_items_3 x5_3 a_parts_size_3 a_parts_items_3n a_parts_items_3f hl ⟨hP, hD⟩ hS hmr3 hsr3 hok; rw [p_Terms_compound_17] at hok; cases hok
    | succ kf3 ih3 =>
      intro H locs ls cells3 slots3 mr3 sr3 a_parts_items_3 x5_3 a_parts_size_3 a_parts_items_3n a_parts_items_3f hl ⟨hP, hD⟩ hS hmr3 hsr3 hok
      rw [p_Terms_compound_17] at hok
      refine lv_iload hx hb d_Terms_compound_17 (lv_at hl 0 rfl) ?_
      refine lv_aload_n hx hb d_Terms_compound_19 rfl (lv_at hl 4 rfl) ?_
      obtain ⟨r4, hc4, hok⟩ := bd_some hok
      obtain ⟨hPc, hDc, hFc⟩ := cut0 (wc := [(stack, .inr (1, [.ref stack_items, .int stack_size]))]) hP hD hS hA [7] (by decide) rfl
      refine va_calli (va_runV (As := []) (rest := [.int x5_3]) ⟨hx, hb, hml, hown, hg⟩ (c_Ints_size l g cs ka stack_items stack H.size stack_size r4 hc4) (cwV (C := R_Ints) 0 hg (gw_V wd_248 wd_249 wd_250 wd_234 wd_247) rfl rfl rfl (by decide +kernel) ⟨Nat.le_of_ble_eq_true rfl, Nat.le_of_ble_eq_true rfl⟩) ⟨gP_blind, va_recv (q0 := 7) (ci := 1) (q := (R_Ints, F_Ints, 2)) hK hP rfl rfl, gP_pre hPc hDc hK hgl hkn hkr hS hFc⟩ rfl rfl hl.1 rfl (lv_room (Nat.le_of_ble_eq_true rfl)) d_Terms_compound_20 ⟨show cells3 + 0 ≤ mc from by omega, show slots3 + 0 ≤ ms from by omega⟩) hS (fun q _ h => hFc q h) hFc (fun r4' u t H locs ht hvm hr4 hB hz1 hk1 hS => ?_)
      subst hr4
      rw [ht] at hB
      obtain ⟨hP1, hD1⟩ := hB
      obtain ⟨hP, hD⟩ := jn_A hP hD [7] [0, 1, 2, 3, 4, 5, 6] rfl rfl (by decide) (by decide) hk1 hFc hP1 hD1
      obtain ⟨hP, hD⟩ : PD g A H [(a_parts_items_3, .inl (cs 0, a_parts_items_3n, .inl a_parts_items_3f)), (stack_items, .inl (cs 0, stack_items_n, .inl stack_items_f)), (a, .inr (7, [.ref a_shapes_1, .ref a_values_1, .ref a_firstParts_1, .int a_nodes_1, .ref a_parts, .ref a_variableNames, .ref a_became, .int a_variables, .int a_variablesLack, .int a_symbols, .int a_nodesBefore, .int a_partsBefore, .int a_variablesBefore])), (a_shapes_1, .inl (cs 0, a_shapes_n_1, .inl a_shapes_f_1)), (a_values_1, .inl (cs 2, a_values_n_1, .inr (.inl a_values_f_1))), (a_firstParts_1, .inl (cs 0, a_firstParts_n_1, .inl a_firstParts_f_1)), (a_parts, .inr (1, [.ref a_parts_items_3, .int a_parts_size_3])), (stack, .inr (1, [.ref stack_items, .int stack_size]))] := ⟨hP, hD⟩
      refine lv_icmp_ge hx hb d_Terms_compound_23 rfl (fun h5 => ?_) (fun h5 => ?_)
      · rw [if_pos h5] at hok
        refine lv_iload hx hb d_Terms_compound_45 (lv_at hl 1 rfl) ?_
        obtain ⟨hq, hw⟩ := Prod.mk.inj (Option.some.inj hok)
        obtain ⟨hmc0, hms0⟩ := Prod.mk.inj hw
        obtain ⟨hq0, hq⟩ := Prod.mk.inj hq
        obtain ⟨hq1, hq⟩ := Prod.mk.inj hq
        obtain ⟨hq2, hq⟩ := Prod.mk.inj hq
        obtain ⟨hq3, hq⟩ := Prod.mk.inj hq
        obtain ⟨hq4, hq⟩ := Prod.mk.inj hq
        obtain ⟨hq5, hq⟩ := Prod.mk.inj hq
        obtain ⟨hq6, hq⟩ := Prod.mk.inj hq
        obtain ⟨hq7, hq⟩ := Prod.mk.inj hq
        obtain ⟨hq8, hq⟩ := Prod.mk.inj hq
        obtain ⟨hq9, hq⟩ := Prod.mk.inj hq
        have hq10 := hq
        subst hq0
        subst hq1
        subst hq2
        subst hq3
        subst hq4
        subst hq5
        subst hq6
        subst hq7
        subst hq8
        subst hq9
        subst hq10
        obtain ⟨hP9, hD9⟩ := sub2 (ws' := [(a, .inr (7, [.ref a_shapes_1, .ref a_values_1, .ref a_firstParts_1, .int a_nodes_1, .ref a_parts, .ref a_variableNames, .ref a_became, .int a_variables, .int a_variablesLack, .int a_symbols, .int a_nodesBefore, .int a_partsBefore, .int a_variablesBefore])), (a_shapes_1, .inl (cs 0, a_shapes_n_1, .inl a_shapes_f_1)), (a_values_1, .inl (cs 2, a_values_n_1, .inr (.inl a_values_f_1))), (a_firstParts_1, .inl (cs 0, a_firstParts_n_1, .inl a_firstParts_f_1)), (a_parts, .inr (1, [.ref a_parts_items_3, .int a_parts_size_3])), (a_parts_items_3, .inl (cs 0, a_parts_items_3n, .inl a_parts_items_3f)), (stack, .inr (1, [.ref stack_items, .int stack_size])), (stack_items, .inl (cs 0, stack_items_n, .inl stack_items_f))]) hP hD [2, 3, 4, 5, 6, 0, 7, 1] rfl (by decide) rfl
        refine W.widen (k := mc) (n := ms) (by omega) (by omega) ?_
        rw [hQ]
        exact W.iret (v := r1) hx hb hr (fun t ht hW => ⟨⟨_, (), rfl, rfl, a_shapes_1, a_values_1, a_firstParts_1, a_parts_items_3, by rw [ht]; exact hP9, hD9⟩, hS.F ht⟩) hS.2.2 d_Terms_compound_47
      · rw [if_neg h5] at hok
        refine lv_aload_n hx hb d_Terms_compound_26 rfl (lv_at hl 2 rfl) ?_
        refine va_get (D := g) (ci := 7) (v := .ref a_parts) (C := R_Terms) (T := F_Terms) (N := 13) hx hb hg ul_Terms hown hK hP 2 rfl rfl 4 (by decide) (hg _ wd_238) (fun _ h9 => h9) rfl d_Terms_compound_27 ?_
        refine lv_aload_n hx hb d_Terms_compound_30 rfl (lv_at hl 4 rfl) ?_
        refine lv_iload hx hb d_Terms_compound_31 (lv_at hl 0 rfl) ?_
        obtain ⟨r6, hc6, hok⟩ := bd_some hok
        obtain ⟨hPc, hDc, hFc⟩ := cut0 (wc := [(stack, .inr (1, [.ref stack_items, .int stack_size])), (stack_items, .inl (cs 0, stack_items_n, .inl stack_items_f))]) hP hD hS hA [7, 1] (by decide) rfl
        refine va_calli (va_runV (As := [.int x5_3]) (rest := [.ref a_parts]) ⟨hx, hb, hml, hown, hg⟩ (c_Ints_at l g cs ka stack stack_items H.size x5_3 stack_size stack_items_n stack_items_f r6 hc6) (cwV (C := R_Ints) 1 hg (gw_V wd_269 wd_270 wd_271 wd_234 wd_268) rfl rfl rfl (by decide +kernel) ⟨Nat.le_of_ble_eq_true rfl, Nat.le_of_ble_eq_true rfl⟩) ⟨gP_blind, va_recv (q0 := 7) (ci := 1) (q := (R_Ints, F_Ints, 2)) hK hP rfl rfl, gP_pre hPc hDc hK hgl hkn hkr hS hFc⟩ rfl rfl hl.1 rfl (lv_room (Nat.le_of_ble_eq_true rfl)) d_Terms_compound_33 ⟨show cells3 + 0 + 0 ≤ mc from by omega, show slots3 + 0 + 0 ≤ ms from by omega⟩) hS (fun q _ h => hFc q h) hFc (fun r6' u t H locs ht hvm hr6 hB hz1 hk1 hS => ?_)
        subst hr6
        rw [ht] at hB
        obtain ⟨hP1, hD1⟩ := hB
        obtain ⟨hP, hD⟩ := jn_A hP hD [7, 1] [0, 2, 3, 4, 5, 6] rfl rfl (by decide) (by decide) hk1 hFc hP1 hD1
        obtain ⟨hP, hD⟩ : PD g A H [(a_parts_items_3, .inl (cs 0, a_parts_items_3n, .inl a_parts_items_3f)), (a, .inr (7, [.ref a_shapes_1, .ref a_values_1, .ref a_firstParts_1, .int a_nodes_1, .ref a_parts, .ref a_variableNames, .ref a_became, .int a_variables, .int a_variablesLack, .int a_symbols, .int a_nodesBefore, .int a_partsBefore, .int a_variablesBefore])), (a_shapes_1, .inl (cs 0, a_shapes_n_1, .inl a_shapes_f_1)), (a_values_1, .inl (cs 2, a_values_n_1, .inr (.inl a_values_f_1))), (a_firstParts_1, .inl (cs 0, a_firstParts_n_1, .inl a_firstParts_f_1)), (a_parts, .inr (1, [.ref a_parts_items_3, .int a_parts_size_3])), (stack, .inr (1, [.ref stack_items, .int stack_size])), (stack_items, .inl (cs 0, stack_items_n, .inl stack_items_f))] := ⟨hP, hD⟩
        obtain ⟨⟨⟨a_size_7, a_items_n_7, a_items_f_7⟩, mk7, sk7⟩, hc7, hok⟩ := bd_some hok
        dsimp only at hok
        obtain ⟨m7, s7, hok, hmc7, hms7⟩ := al_some hok
        obtain ⟨hPc, hDc, hFc⟩ := cut0 (wc := [(a_parts, .inr (1, [.ref a_parts_items_3, .int a_parts_size_3])), (a_parts_items_3, .inl (cs 0, a_parts_items_3n, .inl a_parts_items_3f))]) hP hD hS hA [5, 0] (by decide) rfl
        refine va_callv (va_runV (As := [.int r6]) (rest := []) ⟨hx, hb, hml, hown, hg⟩ (c_Ints_push l g cs ka a_parts a_parts_items_3 H.size r6 a_parts_size_3 a_parts_items_3n a_parts_items_3f a_size_7 a_items_n_7 a_items_f_7 mk7 sk7 hc7) (cwV (C := R_Ints) 1 hg (gw_V wd_273 wd_274 wd_275 wd_234 wd_272) rfl rfl rfl (by decide +kernel) ⟨Nat.le_of_ble_eq_true rfl, Nat.le_of_ble_eq_true rfl⟩) ⟨gP_blind, va_recv (q0 := 5) (ci := 1) (q := (R_Ints, F_Ints, 2)) hK hP rfl rfl, gP_pre hPc hDc hK hgl hkn hkr hS hFc⟩ rfl rfl hl.1 rfl (lv_room (Nat.le_of_ble_eq_true rfl)) d_Terms_compound_36 ⟨show cells3 + 0 + 0 + mk7 ≤ mc from by omega, show slots3 + 0 + 0 + sk7 ≤ ms from by omega⟩) hS (fun q _ h => hFc q h) hFc (fun u t H locs ht hvm hr7 hB hz1 hk1 hS => ?_)
        rw [ht] at hB
        obtain ⟨a_items_7, hP1, hD1⟩ := hB
        obtain ⟨hP, hD⟩ := jn_A hP hD [5, 0] [1, 2, 3, 4, 6, 7] rfl rfl (by decide) (by decide) hk1 hFc hP1 hD1
        obtain ⟨hP, hD⟩ : PD g A H [(a, .inr (7, [.ref a_shapes_1, .ref a_values_1, .ref a_firstParts_1, .int a_nodes_1, .ref a_parts, .ref a_variableNames, .ref a_became, .int a_variables, .int a_variablesLack, .int a_symbols, .int a_nodesBefore, .int a_partsBefore, .int a_variablesBefore])), (a_shapes_1, .inl (cs 0, a_shapes_n_1, .inl a_shapes_f_1)), (a_values_1, .inl (cs 2, a_values_n_1, .inr (.inl a_values_f_1))), (a_firstParts_1, .inl (cs 0, a_firstParts_n_1, .inl a_firstParts_f_1)), (stack, .inr (1, [.ref stack_items, .int stack_size])), (stack_items, .inl (cs 0, stack_items_n, .inl stack_items_f)), (a_parts, .inr (1, [.ref a_items_7, .int a_size_7])), (a_items_7, .inl (cs 0, a_items_n_7, .inl a_items_f_7))] := ⟨hP, hD⟩
        refine lv_iinc (k := 0) (v := x5_3 + 1) hx hb d_Terms_compound_39 hl rfl rfl (by decide) rfl (fun ls hl => ?_)
        have hl : lv_has ls 6 [(5, .int (x5_3 + 1)), (4, .int r1), (0, .ref a), (1, .int name), (2, .ref stack), (3, .int howMany)] := hl
        refine lv_goto hx hb d_Terms_compound_42 rfl ?_
        exact ih3 _ _ _ _ _ _ _ a_items_7 (x5_3 + 1) a_size_7 a_items_n_7 a_items_f_7 (lv_sub hl [0, 1, 2, 3, 4, 5] rfl) (sub3 hP hD [7, 5, 0, 1, 2, 3, 6, 4] (by decide)) hS (by omega) (by omega) hok
  exact J3 n H locs ls _ _ _ _ a_parts_items (r2 - howMany) a_parts_size a_parts_items_n a_parts_items_f hl ⟨hP, hD⟩ hS (by omega) (by omega) hok

theorem d_Terms_variable_0 : decode b_Terms_variable 0 = .ok (.iconst 0, 1) := by decide +kernel
theorem d_Terms_variable_1 : decode b_Terms_variable 1 = .ok (.istore_n 2, 1) := by decide +kernel
theorem d_Terms_variable_2 : decode b_Terms_variable 2 = .ok (.iload_n 2, 1) := by decide +kernel
theorem d_Terms_variable_3 : decode b_Terms_variable 3 = .ok (.aload_n 0, 1) := by decide +kernel
theorem d_Terms_variable_4 : decode b_Terms_variable 4 = .ok (.getfield 37, 3) := by decide +kernel
theorem d_Terms_variable_7 : decode b_Terms_variable 7 = .ok (.if_icmp .ge 26, 3) := by decide +kernel
theorem d_Terms_variable_10 : decode b_Terms_variable 10 = .ok (.iload_n 1, 1) := by decide +kernel
theorem d_Terms_variable_11 : decode b_Terms_variable 11 = .ok (.iconst (-1), 1) := by decide +kernel
theorem d_Terms_variable_12 : decode b_Terms_variable 12 = .ok (.if_icmp .eq 21, 3) := by decide +kernel
theorem d_Terms_variable_15 : decode b_Terms_variable 15 = .ok (.aload_n 0, 1) := by decide +kernel
theorem d_Terms_variable_16 : decode b_Terms_variable 16 = .ok (.getfield 31, 3) := by decide +kernel
theorem d_Terms_variable_19 : decode b_Terms_variable 19 = .ok (.iload_n 2, 1) := by decide +kernel
theorem d_Terms_variable_20 : decode b_Terms_variable 20 = .ok (.iaload, 1) := by decide +kernel
theorem d_Terms_variable_21 : decode b_Terms_variable 21 = .ok (.iload_n 1, 1) := by decide +kernel
theorem d_Terms_variable_22 : decode b_Terms_variable 22 = .ok (.if_icmp .ne 5, 3) := by decide +kernel
theorem d_Terms_variable_25 : decode b_Terms_variable 25 = .ok (.iload_n 2, 1) := by decide +kernel
theorem d_Terms_variable_26 : decode b_Terms_variable 26 = .ok (.ireturn, 1) := by decide +kernel
theorem d_Terms_variable_27 : decode b_Terms_variable 27 = .ok (.iinc 2 1, 3) := by decide +kernel
theorem d_Terms_variable_30 : decode b_Terms_variable 30 = .ok (.goto (-28), 3) := by decide +kernel
theorem d_Terms_variable_33 : decode b_Terms_variable 33 = .ok (.aload_n 0, 1) := by decide +kernel
theorem d_Terms_variable_34 : decode b_Terms_variable 34 = .ok (.getfield 37, 3) := by decide +kernel
theorem d_Terms_variable_37 : decode b_Terms_variable 37 = .ok (.sipush 200, 3) := by decide +kernel
theorem d_Terms_variable_40 : decode b_Terms_variable 40 = .ok (.if_icmp .ne 12, 3) := by decide +kernel
theorem d_Terms_variable_43 : decode b_Terms_variable 43 = .ok (.aload_n 0, 1) := by decide +kernel
theorem d_Terms_variable_44 : decode b_Terms_variable 44 = .ok (.iconst 1, 1) := by decide +kernel
theorem d_Terms_variable_45 : decode b_Terms_variable 45 = .ok (.putfield 40, 3) := by decide +kernel
theorem d_Terms_variable_48 : decode b_Terms_variable 48 = .ok (.sipush 200, 3) := by decide +kernel
theorem d_Terms_variable_51 : decode b_Terms_variable 51 = .ok (.ireturn, 1) := by decide +kernel
theorem d_Terms_variable_52 : decode b_Terms_variable 52 = .ok (.aload_n 0, 1) := by decide +kernel
theorem d_Terms_variable_53 : decode b_Terms_variable 53 = .ok (.getfield 31, 3) := by decide +kernel
theorem d_Terms_variable_56 : decode b_Terms_variable 56 = .ok (.aload_n 0, 1) := by decide +kernel
theorem d_Terms_variable_57 : decode b_Terms_variable 57 = .ok (.getfield 37, 3) := by decide +kernel
theorem d_Terms_variable_60 : decode b_Terms_variable 60 = .ok (.iload_n 1, 1) := by decide +kernel
theorem d_Terms_variable_61 : decode b_Terms_variable 61 = .ok (.iastore, 1) := by decide +kernel
theorem d_Terms_variable_62 : decode b_Terms_variable 62 = .ok (.aload_n 0, 1) := by decide +kernel
theorem d_Terms_variable_63 : decode b_Terms_variable 63 = .ok (.dup, 1) := by decide +kernel
theorem d_Terms_variable_64 : decode b_Terms_variable 64 = .ok (.getfield 37, 3) := by decide +kernel
theorem d_Terms_variable_67 : decode b_Terms_variable 67 = .ok (.iconst 1, 1) := by decide +kernel
theorem d_Terms_variable_68 : decode b_Terms_variable 68 = .ok (.iadd, 1) := by decide +kernel
theorem d_Terms_variable_69 : decode b_Terms_variable 69 = .ok (.putfield 37, 3) := by decide +kernel
theorem d_Terms_variable_72 : decode b_Terms_variable 72 = .ok (.aload_n 0, 1) := by decide +kernel
theorem d_Terms_variable_73 : decode b_Terms_variable 73 = .ok (.getfield 37, 3) := by decide +kernel
theorem d_Terms_variable_76 : decode b_Terms_variable 76 = .ok (.iconst 1, 1) := by decide +kernel
theorem d_Terms_variable_77 : decode b_Terms_variable 77 = .ok (.isub, 1) := by decide +kernel
theorem d_Terms_variable_78 : decode b_Terms_variable 78 = .ok (.ireturn, 1) := by decide +kernel
def p_Terms_variable_2 (n : Nat) (name : Int32) (a_variables : Int32) (a_variablesLack : Int32) (a_variableNames_n : Nat) (a_variableNames_f : Nat → Int32) (kf1 : Nat) (x2_1 : Int32) : Option (Int32 × Int32 × Int32 × (Nat → Int32)) := match kf1 with
  | 0 => none
  | kf1 + 1 => if a_variables ≤ x2_1 then (if a_variables = 200 then (some ((200 : Int32), a_variables, (1 : Int32), a_variableNames_f)) else (ck (ixb a_variables a_variableNames_n) (some ((a_variables + 1) - 1, a_variables + 1, a_variablesLack, upd a_variableNames_f a_variables.toNatClampNeg name)))) else (if name = (-1) then (if a_variables = 200 then (some ((200 : Int32), a_variables, (1 : Int32), a_variableNames_f)) else (ck (ixb a_variables a_variableNames_n) (some ((a_variables + 1) - 1, a_variables + 1, a_variablesLack, upd a_variableNames_f a_variables.toNatClampNeg name)))) else (ck (ixb x2_1 a_variableNames_n) (if (a_variableNames_f x2_1.toNatClampNeg) = name then (some (x2_1, a_variables, a_variablesLack, a_variableNames_f)) else (p_Terms_variable_2 n name a_variables a_variablesLack a_variableNames_n a_variableNames_f kf1 (x2_1 + 1)))))
def p_Terms_variable (n : Nat) (name : Int32) (a_nodes : Int32) (a_variables : Int32) (a_variablesLack : Int32) (a_symbols : Int32) (a_nodesBefore : Int32) (a_partsBefore : Int32) (a_variablesBefore : Int32) (a_variableNames_n : Nat) (a_variableNames_f : Nat → Int32) : Option (Int32 × Int32 × Int32 × (Nat → Int32)) := p_Terms_variable_2 n name a_variables a_variablesLack a_variableNames_n a_variableNames_f n (0 : Int32)
set_option maxHeartbeats 4000000 in
set_option maxRecDepth 100000 in
theorem c_Terms_variable (l : Launch) (g : va_G) (cs : Nat → ClassId) (ka : Nat → Nat) (a_shapes : Nat) (a_values : Nat) (a_firstParts : Nat) (a_parts : Nat) (a_became : Nat) (a a_variableNames : Nat) (sz : Nat) (n : Nat) (name : Int32) (a_nodes : Int32) (a_variables : Int32) (a_variablesLack : Int32) (a_symbols : Int32) (a_nodesBefore : Int32) (a_partsBefore : Int32) (a_variablesBefore : Int32) (a_variableNames_n : Nat) (a_variableNames_f : Nat → Int32) (r : Int32) (o_a_variables : Int32) (o_a_variablesLack : Int32) (o_a_variableNames_f : Nat → Int32) (hok : p_Terms_variable n name a_nodes a_variables a_variablesLack a_symbols a_nodesBefore a_partsBefore a_variablesBefore a_variableNames_n a_variableNames_f = some (r, o_a_variables, o_a_variablesLack, o_a_variableNames_f)) : Met l y_Terms_variable (.code y_Terms_variable b_Terms_variable 3 (some .int) :: GW) { frames := 0, cells := 0, slots := 0, locals := 0 } (va_Pc [.ref a, .int name] (gP g cs ka [(a, .inr (7, [.ref a_shapes, .ref a_values, .ref a_firstParts, .int a_nodes, .ref a_parts, .ref a_variableNames, .ref a_became, .int a_variables, .int a_variablesLack, .int a_symbols, .int a_nodesBefore, .int a_partsBefore, .int a_variablesBefore])), (a_variableNames, .inl (cs 0, a_variableNames_n, .inl a_variableNames_f))] sz)) (va_Qi (fun (r' : Int32) (_ : Unit) => r = r') (fun _ t => va_P g classes [(a, .inr (7, [.ref a_shapes, .ref a_values, .ref a_firstParts, .int a_nodes, .ref a_parts, .ref a_variableNames, .ref a_became, .int o_a_variables, .int o_a_variablesLack, .int a_symbols, .int a_nodesBefore, .int a_partsBefore, .int a_variablesBefore])), (a_variableNames, .inl (cs 0, a_variableNames_n, .inl o_a_variableNames_f))] t.heap ∧ va_D (va_A [(a, .inr (7, [.ref a_shapes, .ref a_values, .ref a_firstParts, .int a_nodes, .ref a_parts, .ref a_variableNames, .ref a_became, .int a_variables, .int a_variablesLack, .int a_symbols, .int a_nodesBefore, .int a_partsBefore, .int a_variablesBefore])), (a_variableNames, .inl (cs 0, a_variableNames_n, .inl a_variableNames_f))] sz) [(a, .inr (7, [.ref a_shapes, .ref a_values, .ref a_firstParts, .int a_nodes, .ref a_parts, .ref a_variableNames, .ref a_became, .int o_a_variables, .int o_a_variablesLack, .int a_symbols, .int a_nodesBefore, .int a_partsBefore, .int a_variablesBefore])), (a_variableNames, .inl (cs 0, a_variableNames_n, .inl o_a_variableNames_f))]) (va_A [(a, .inr (7, [.ref a_shapes, .ref a_values, .ref a_firstParts, .int a_nodes, .ref a_parts, .ref a_variableNames, .ref a_became, .int a_variables, .int a_variablesLack, .int a_symbols, .int a_nodesBefore, .int a_partsBefore, .int a_variablesBefore])), (a_variableNames, .inl (cs 0, a_variableNames_n, .inl a_variableNames_f))] sz)) 0 0 (va_A [(a, .inr (7, [.ref a_shapes, .ref a_values, .ref a_firstParts, .int a_nodes, .ref a_parts, .ref a_variableNames, .ref a_became, .int a_variables, .int a_variablesLack, .int a_symbols, .int a_nodesBefore, .int a_partsBefore, .int a_variablesBefore])), (a_variableNames, .inl (cs 0, a_variableNames_n, .inl a_variableNames_f))] sz) := by
  refine Met.ofW (cc := b_Terms_variable) (maxL := 3) (ret := (some .int)) (by decide) rfl ?_
  intro p e s m args below meth c s₁ B hml hv
  obtain ⟨rfl, hsz, hP, hK, hD0, hgl, hkn, hkr⟩ := hv
  have hx := B.exec
  have hb := B.bytes
  have hr := B.returns
  have hg : ∀ w ∈ GW, w.before ([.ref a, .int name] : List Value).toArray s = true := fun w hw => atoms_spec (ws := .code y_Terms_variable b_Terms_variable 3 (some .int) :: GW) B.pre w (List.mem_cons_of_mem _ hw)
  have hown : s.vm.findClass R_Terms = some m.cls := findClass_of_methodNamed B.named
  have hlocks := B.notSynchronized
  subst hsz
  have hD := hD0.self (sz := s.heap.size)
  generalize hAe : va_A [(a, .inr (7, [.ref a_shapes, .ref a_values, .ref a_firstParts, .int a_nodes, .ref a_parts, .ref a_variableNames, .ref a_became, .int a_variables, .int a_variablesLack, .int a_symbols, .int a_nodesBefore, .int a_partsBefore, .int a_variablesBefore])), (a_variableNames, .inl (cs 0, a_variableNames_n, .inl a_variableNames_f))] s.heap.size = A at hD hkn ⊢
  have hA : ∀ q : Nat, s.heap.size ≤ q → A q := fun q h => by rw [← hAe]; exact Or.inr h
  have hS : va_S A s.heap s.heap [] := va_S.rf
  have hP : va_P g classes [(a, .inr (7, [.ref a_shapes, .ref a_values, .ref a_firstParts, .int a_nodes, .ref a_parts, .ref a_variableNames, .ref a_became, .int a_variables, .int a_variablesLack, .int a_symbols, .int a_nodesBefore, .int a_partsBefore, .int a_variablesBefore])), (a_variableNames, .inl (cs 0, a_variableNames_n, .inl a_variableNames_f))] s.heap := hP
  have hl := lv_entry ([.ref a, .int name]) (n := 3) (Nat.le_of_ble_eq_true rfl)
  rw [lg_entry_eq]
  generalize (lg_sl ([.ref a, .int name]) ++ List.replicate (3 - (lg_sl ([.ref a, .int name])).length) Slot.unset).toArray = ls at hl ⊢
  have hl : lv_has ls 3 [(0, .ref a), (1, .int name)] := hl
  refine gq (fun Q hQ => ?_)
  obtain ⟨H, hH⟩ : ∃ H : Heap, H = s.heap := ⟨_, rfl⟩
  rw [← hH] at hP
  have hS : va_S A s.heap H [] := by rw [hH]; exact hS
  refine W.eqH hH ?_
  obtain ⟨locs, hlc⟩ : ∃ L : List Loc, L = [] := ⟨_, rfl⟩
  rw [← hlc] at hS ⊢
  unfold p_Terms_variable at hok
  refine lv_iconst (v := 0) hx hb d_Terms_variable_0 (by decide) ?_
  refine lv_istore_n hx hb d_Terms_variable_1 rfl hl (by decide) rfl (fun ls hl => ?_)
  have hl : lv_has ls 3 [(2, .int 0), (0, .ref a), (1, .int name)] := hl
  have J1 : ∀ (kf1 : Nat) (H : Heap) (locs : List Loc) (ls : Array Slot) (x2_1 : Int32), lv_has ls 3 [(2, .int x2_1), (0, .ref a), (1, .int name)] → PD g A H [(a, .inr (7, [.ref a_shapes, .ref a_values, .ref a_firstParts, .int a_nodes, .ref a_parts, .ref a_variableNames, .ref a_became, .int a_variables, .int a_variablesLack, .int a_symbols, .int a_nodesBefore, .int a_partsBefore, .int a_variablesBefore])), (a_variableNames, .inl (cs 0, a_variableNames_n, .inl a_variableNames_f))] → va_S A s.heap H locs → p_Terms_variable_2 n name a_variables a_variablesLack a_variableNames_n a_variableNames_f kf1 x2_1 = some (r, o_a_variables, o_a_variablesLack, o_a_variableNames_f) → W p l e (headSpec (.code y_Terms_variable b_Terms_variable 3 (some .int) :: GW) { frames := 0, cells := 0, slots := 0, locals := 0 }).room s m ([.ref a, .int name] : List Value).toArray below meth c H locs 0 0 Q (F0 m 2 ls []) := by
    intro kf1
    induction kf1 with
    | zero => intro H locs ls x2_1 hl ⟨hP, hD⟩ hS hok; rw [p_Terms_variable_2] at hok; cases hok
    | succ kf1 ih1 =>
      intro H locs ls x2_1 hl ⟨hP, hD⟩ hS hok
      rw [p_Terms_variable_2] at hok
      refine lv_iload_n hx hb d_Terms_variable_2 rfl (lv_at hl 0 rfl) ?_
      refine lv_aload_n hx hb d_Terms_variable_3 rfl (lv_at hl 1 rfl) ?_
      refine va_get (D := g) (ci := 7) (v := .int a_variables) (C := R_Terms) (T := F_Terms) (N := 13) hx hb hg ul_Terms hown hK hP 0 rfl rfl 7 (by decide) (hg _ wd_241) (fun _ h9 => h9) rfl d_Terms_variable_4 ?_
      refine lv_icmp_ge hx hb d_Terms_variable_7 rfl (fun h2 => ?_) (fun h2 => ?_)
      · rw [if_pos h2] at hok
        refine lv_aload_n hx hb d_Terms_variable_33 rfl (lv_at hl 1 rfl) ?_
        refine va_get (D := g) (ci := 7) (v := .int a_variables) (C := R_Terms) (T := F_Terms) (N := 13) hx hb hg ul_Terms hown hK hP 0 rfl rfl 7 (by decide) (hg _ wd_241) (fun _ h9 => h9) rfl d_Terms_variable_34 ?_
        refine lv_sipush (v := 200) hx hb d_Terms_variable_37 (by decide) ?_
        refine lv_icmp_ne hx hb d_Terms_variable_40 rfl (fun h3 => ?_) (fun h3 => ?_)
        · rw [if_neg h3] at hok
          refine lv_aload_n hx hb d_Terms_variable_52 rfl (lv_at hl 1 rfl) ?_
          refine va_get (D := g) (ci := 7) (v := .ref a_variableNames) (C := R_Terms) (T := F_Terms) (N := 13) hx hb hg ul_Terms hown hK hP 0 rfl rfl 5 (by decide) (hg _ wd_239) (fun _ h9 => h9) rfl d_Terms_variable_53 ?_
          refine lv_aload_n hx hb d_Terms_variable_56 rfl (lv_at hl 1 rfl) ?_
          refine va_get (D := g) (ci := 7) (v := .int a_variables) (C := R_Terms) (T := F_Terms) (N := 13) hx hb hg ul_Terms hown hK hP 0 rfl rfl 7 (by decide) (hg _ wd_241) (fun _ h9 => h9) rfl d_Terms_variable_57 ?_
          refine lv_iload_n hx hb d_Terms_variable_60 rfl (lv_at hl 2 rfl) ?_
          obtain ⟨hi4, hok⟩ := ck_some hok
          refine va_iast hx hb hK hP hD hS 1 0 rfl rfl (ixb_in hi4) d_Terms_variable_61 (fun H locs hP hD hS => ?_)
          obtain ⟨hP, hD⟩ : PD g A H [(a, .inr (7, [.ref a_shapes, .ref a_values, .ref a_firstParts, .int a_nodes, .ref a_parts, .ref a_variableNames, .ref a_became, .int a_variables, .int a_variablesLack, .int a_symbols, .int a_nodesBefore, .int a_partsBefore, .int a_variablesBefore])), (a_variableNames, .inl (cs 0, a_variableNames_n, .inl (upd a_variableNames_f a_variables.toNatClampNeg name)))] := ⟨hP, hD⟩
          refine lv_aload_n hx hb d_Terms_variable_62 rfl (lv_at hl 1 rfl) ?_
          refine lv_dup hx hb d_Terms_variable_63 rfl ?_
          refine va_get (D := g) (ci := 7) (v := .int a_variables) (C := R_Terms) (T := F_Terms) (N := 13) hx hb hg ul_Terms hown hK hP 0 rfl rfl 7 (by decide) (hg _ wd_241) (fun _ h9 => h9) rfl d_Terms_variable_64 ?_
          refine lv_iconst (v := 1) hx hb d_Terms_variable_67 (by decide) ?_
          refine lv_iadd hx hb d_Terms_variable_68 ?_
          refine va_put (D := g) (ci := 7) (v := .int (a_variables + 1)) (ty := .int) (C := R_Terms) (T := F_Terms) (N := 13) hx hb hg ul_Terms t_Terms tk_Terms n_Terms hown hK hP hD hS 0 rfl rfl 7 (by decide) (hg _ wd_241) (fun _ h9 => h9) rfl (by decide +kernel) rfl rfl (Nat.le_of_ble_eq_true rfl) d_Terms_variable_69 (fun H locs hP hD hS => ?_)
          obtain ⟨hP, hD⟩ : PD g A H [(a, .inr (7, [.ref a_shapes, .ref a_values, .ref a_firstParts, .int a_nodes, .ref a_parts, .ref a_variableNames, .ref a_became, .int (a_variables + 1), .int a_variablesLack, .int a_symbols, .int a_nodesBefore, .int a_partsBefore, .int a_variablesBefore])), (a_variableNames, .inl (cs 0, a_variableNames_n, .inl (upd a_variableNames_f a_variables.toNatClampNeg name)))] := ⟨hP, hD⟩
          refine lv_aload_n hx hb d_Terms_variable_72 rfl (lv_at hl 1 rfl) ?_
          refine va_get (D := g) (ci := 7) (v := .int (a_variables + 1)) (C := R_Terms) (T := F_Terms) (N := 13) hx hb hg ul_Terms hown hK hP 0 rfl rfl 7 (by decide) (hg _ wd_241) (fun _ h9 => h9) rfl d_Terms_variable_73 ?_
          refine lv_iconst (v := 1) hx hb d_Terms_variable_76 (by decide) ?_
          refine lv_isub hx hb d_Terms_variable_77 ?_
          have hq := Option.some.inj hok
          obtain ⟨hq0, hq⟩ := Prod.mk.inj hq
          obtain ⟨hq1, hq⟩ := Prod.mk.inj hq
          obtain ⟨hq2, hq⟩ := Prod.mk.inj hq
          have hq3 := hq
          subst hq0
          subst hq1
          subst hq2
          subst hq3
          obtain ⟨hP9, hD9⟩ := sub2 (ws' := [(a, .inr (7, [.ref a_shapes, .ref a_values, .ref a_firstParts, .int a_nodes, .ref a_parts, .ref a_variableNames, .ref a_became, .int (a_variables + 1), .int a_variablesLack, .int a_symbols, .int a_nodesBefore, .int a_partsBefore, .int a_variablesBefore])), (a_variableNames, .inl (cs 0, a_variableNames_n, .inl (upd a_variableNames_f a_variables.toNatClampNeg name)))]) hP hD [0, 1] rfl (by decide) rfl
          rw [hQ]
          exact W.iret (v := (a_variables + 1) - 1) hx hb hr (fun t ht hW => ⟨⟨_, (), rfl, rfl, by rw [ht]; exact hP9, hD9⟩, hS.F ht⟩) hS.2.2 d_Terms_variable_78
        · rw [if_pos h3] at hok
          refine lv_aload_n hx hb d_Terms_variable_43 rfl (lv_at hl 1 rfl) ?_
          refine lv_iconst (v := 1) hx hb d_Terms_variable_44 (by decide) ?_
          refine va_put (D := g) (ci := 7) (v := .int 1) (ty := .boolean) (C := R_Terms) (T := F_Terms) (N := 13) hx hb hg ul_Terms t_Terms tk_Terms n_Terms hown hK hP hD hS 0 rfl rfl 8 (by decide) (hg _ wd_242) (fun _ h9 => h9) rfl (by decide +kernel) rfl rfl (Nat.le_of_ble_eq_true rfl) d_Terms_variable_45 (fun H locs hP hD hS => ?_)
          obtain ⟨hP, hD⟩ : PD g A H [(a, .inr (7, [.ref a_shapes, .ref a_values, .ref a_firstParts, .int a_nodes, .ref a_parts, .ref a_variableNames, .ref a_became, .int a_variables, .int 1, .int a_symbols, .int a_nodesBefore, .int a_partsBefore, .int a_variablesBefore])), (a_variableNames, .inl (cs 0, a_variableNames_n, .inl a_variableNames_f))] := ⟨hP, hD⟩
          refine lv_sipush (v := 200) hx hb d_Terms_variable_48 (by decide) ?_
          have hq := Option.some.inj hok
          obtain ⟨hq0, hq⟩ := Prod.mk.inj hq
          obtain ⟨hq1, hq⟩ := Prod.mk.inj hq
          obtain ⟨hq2, hq⟩ := Prod.mk.inj hq
          have hq3 := hq
          subst hq0
          subst hq1
          subst hq2
          subst hq3
          obtain ⟨hP9, hD9⟩ := sub2 (ws' := [(a, .inr (7, [.ref a_shapes, .ref a_values, .ref a_firstParts, .int a_nodes, .ref a_parts, .ref a_variableNames, .ref a_became, .int a_variables, .int 1, .int a_symbols, .int a_nodesBefore, .int a_partsBefore, .int a_variablesBefore])), (a_variableNames, .inl (cs 0, a_variableNames_n, .inl a_variableNames_f))]) hP hD [0, 1] rfl (by decide) rfl
          rw [hQ]
          exact W.iret (v := 200) hx hb hr (fun t ht hW => ⟨⟨_, (), rfl, rfl, by rw [ht]; exact hP9, hD9⟩, hS.F ht⟩) hS.2.2 d_Terms_variable_51
      · rw [if_neg h2] at hok
        refine lv_iload_n hx hb d_Terms_variable_10 rfl (lv_at hl 2 rfl) ?_
        refine lv_iconst (v := (-1)) hx hb d_Terms_variable_11 (by decide) ?_
        refine lv_icmp_eq hx hb d_Terms_variable_12 rfl (fun h5 => ?_) (fun h5 => ?_)
        · rw [if_pos h5] at hok
          refine lv_aload_n hx hb d_Terms_variable_33 rfl (lv_at hl 1 rfl) ?_
          refine va_get (D := g) (ci := 7) (v := .int a_variables) (C := R_Terms) (T := F_Terms) (N := 13) hx hb hg ul_Terms hown hK hP 0 rfl rfl 7 (by decide) (hg _ wd_241) (fun _ h9 => h9) rfl d_Terms_variable_34 ?_
          refine lv_sipush (v := 200) hx hb d_Terms_variable_37 (by decide) ?_
          refine lv_icmp_ne hx hb d_Terms_variable_40 rfl (fun h6 => ?_) (fun h6 => ?_)
          · rw [if_neg h6] at hok
            refine lv_aload_n hx hb d_Terms_variable_52 rfl (lv_at hl 1 rfl) ?_
            refine va_get (D := g) (ci := 7) (v := .ref a_variableNames) (C := R_Terms) (T := F_Terms) (N := 13) hx hb hg ul_Terms hown hK hP 0 rfl rfl 5 (by decide) (hg _ wd_239) (fun _ h9 => h9) rfl d_Terms_variable_53 ?_
            refine lv_aload_n hx hb d_Terms_variable_56 rfl (lv_at hl 1 rfl) ?_
            refine va_get (D := g) (ci := 7) (v := .int a_variables) (C := R_Terms) (T := F_Terms) (N := 13) hx hb hg ul_Terms hown hK hP 0 rfl rfl 7 (by decide) (hg _ wd_241) (fun _ h9 => h9) rfl d_Terms_variable_57 ?_
            refine lv_iload_n hx hb d_Terms_variable_60 rfl (lv_at hl 2 rfl) ?_
            obtain ⟨hi7, hok⟩ := ck_some hok
            refine va_iast hx hb hK hP hD hS 1 0 rfl rfl (ixb_in hi7) d_Terms_variable_61 (fun H locs hP hD hS => ?_)
            obtain ⟨hP, hD⟩ : PD g A H [(a, .inr (7, [.ref a_shapes, .ref a_values, .ref a_firstParts, .int a_nodes, .ref a_parts, .ref a_variableNames, .ref a_became, .int a_variables, .int a_variablesLack, .int a_symbols, .int a_nodesBefore, .int a_partsBefore, .int a_variablesBefore])), (a_variableNames, .inl (cs 0, a_variableNames_n, .inl (upd a_variableNames_f a_variables.toNatClampNeg name)))] := ⟨hP, hD⟩
            refine lv_aload_n hx hb d_Terms_variable_62 rfl (lv_at hl 1 rfl) ?_
            refine lv_dup hx hb d_Terms_variable_63 rfl ?_
            refine va_get (D := g) (ci := 7) (v := .int a_variables) (C := R_Terms) (T := F_Terms) (N := 13) hx hb hg ul_Terms hown hK hP 0 rfl rfl 7 (by decide) (hg _ wd_241) (fun _ h9 => h9) rfl d_Terms_variable_64 ?_
            refine lv_iconst (v := 1) hx hb d_Terms_variable_67 (by decide) ?_
            refine lv_iadd hx hb d_Terms_variable_68 ?_
            refine va_put (D := g) (ci := 7) (v := .int (a_variables + 1)) (ty := .int) (C := R_Terms) (T := F_Terms) (N := 13) hx hb hg ul_Terms t_Terms tk_Terms n_Terms hown hK hP hD hS 0 rfl rfl 7 (by decide) (hg _ wd_241) (fun _ h9 => h9) rfl (by decide +kernel) rfl rfl (Nat.le_of_ble_eq_true rfl) d_Terms_variable_69 (fun H locs hP hD hS => ?_)
            obtain ⟨hP, hD⟩ : PD g A H [(a, .inr (7, [.ref a_shapes, .ref a_values, .ref a_firstParts, .int a_nodes, .ref a_parts, .ref a_variableNames, .ref a_became, .int (a_variables + 1), .int a_variablesLack, .int a_symbols, .int a_nodesBefore, .int a_partsBefore, .int a_variablesBefore])), (a_variableNames, .inl (cs 0, a_variableNames_n, .inl (upd a_variableNames_f a_variables.toNatClampNeg name)))] := ⟨hP, hD⟩
            refine lv_aload_n hx hb d_Terms_variable_72 rfl (lv_at hl 1 rfl) ?_
            refine va_get (D := g) (ci := 7) (v := .int (a_variables + 1)) (C := R_Terms) (T := F_Terms) (N := 13) hx hb hg ul_Terms hown hK hP 0 rfl rfl 7 (by decide) (hg _ wd_241) (fun _ h9 => h9) rfl d_Terms_variable_73 ?_
            refine lv_iconst (v := 1) hx hb d_Terms_variable_76 (by decide) ?_
            refine lv_isub hx hb d_Terms_variable_77 ?_
            have hq := Option.some.inj hok
            obtain ⟨hq0, hq⟩ := Prod.mk.inj hq
            obtain ⟨hq1, hq⟩ := Prod.mk.inj hq
            obtain ⟨hq2, hq⟩ := Prod.mk.inj hq
            have hq3 := hq
            subst hq0
            subst hq1
            subst hq2
            subst hq3
            obtain ⟨hP9, hD9⟩ := sub2 (ws' := [(a, .inr (7, [.ref a_shapes, .ref a_values, .ref a_firstParts, .int a_nodes, .ref a_parts, .ref a_variableNames, .ref a_became, .int (a_variables + 1), .int a_variablesLack, .int a_symbols, .int a_nodesBefore, .int a_partsBefore, .int a_variablesBefore])), (a_variableNames, .inl (cs 0, a_variableNames_n, .inl (upd a_variableNames_f a_variables.toNatClampNeg name)))]) hP hD [0, 1] rfl (by decide) rfl
            rw [hQ]
            exact W.iret (v := (a_variables + 1) - 1) hx hb hr (fun t ht hW => ⟨⟨_, (), rfl, rfl, by rw [ht]; exact hP9, hD9⟩, hS.F ht⟩) hS.2.2 d_Terms_variable_78
          · rw [if_pos h6] at hok
            refine lv_aload_n hx hb d_Terms_variable_43 rfl (lv_at hl 1 rfl) ?_
            refine lv_iconst (v := 1) hx hb d_Terms_variable_44 (by decide) ?_
            refine va_put (D := g) (ci := 7) (v := .int 1) (ty := .boolean) (C := R_Terms) (T := F_Terms) (N := 13) hx hb hg ul_Terms t_Terms tk_Terms n_Terms hown hK hP hD hS 0 rfl rfl 8 (by decide) (hg _ wd_242) (fun _ h9 => h9) rfl (by decide +kernel) rfl rfl (Nat.le_of_ble_eq_true rfl) d_Terms_variable_45 (fun H locs hP hD hS => ?_)
            obtain ⟨hP, hD⟩ : PD g A H [(a, .inr (7, [.ref a_shapes, .ref a_values, .ref a_firstParts, .int a_nodes, .ref a_parts, .ref a_variableNames, .ref a_became, .int a_variables, .int 1, .int a_symbols, .int a_nodesBefore, .int a_partsBefore, .int a_variablesBefore])), (a_variableNames, .inl (cs 0, a_variableNames_n, .inl a_variableNames_f))] := ⟨hP, hD⟩
            refine lv_sipush (v := 200) hx hb d_Terms_variable_48 (by decide) ?_
            have hq := Option.some.inj hok
            obtain ⟨hq0, hq⟩ := Prod.mk.inj hq
            obtain ⟨hq1, hq⟩ := Prod.mk.inj hq
            obtain ⟨hq2, hq⟩ := Prod.mk.inj hq
            have hq3 := hq
            subst hq0
            subst hq1
            subst hq2
            subst hq3
            obtain ⟨hP9, hD9⟩ := sub2 (ws' := [(a, .inr (7, [.ref a_shapes, .ref a_values, .ref a_firstParts, .int a_nodes, .ref a_parts, .ref a_variableNames, .ref a_became, .int a_variables, .int 1, .int a_symbols, .int a_nodesBefore, .int a_partsBefore, .int a_variablesBefore])), (a_variableNames, .inl (cs 0, a_variableNames_n, .inl a_variableNames_f))]) hP hD [0, 1] rfl (by decide) rfl
            rw [hQ]
            exact W.iret (v := 200) hx hb hr (fun t ht hW => ⟨⟨_, (), rfl, rfl, by rw [ht]; exact hP9, hD9⟩, hS.F ht⟩) hS.2.2 d_Terms_variable_51
        · rw [if_neg h5] at hok
          refine lv_aload_n hx hb d_Terms_variable_15 rfl (lv_at hl 1 rfl) ?_
          refine va_get (D := g) (ci := 7) (v := .ref a_variableNames) (C := R_Terms) (T := F_Terms) (N := 13) hx hb hg ul_Terms hown hK hP 0 rfl rfl 5 (by decide) (hg _ wd_239) (fun _ h9 => h9) rfl d_Terms_variable_16 ?_
          refine lv_iload_n hx hb d_Terms_variable_19 rfl (lv_at hl 0 rfl) ?_
          obtain ⟨hi8, hok⟩ := ck_some hok
          refine va_iald hx hb hK hP 1 0 rfl rfl (ixb_in hi8) d_Terms_variable_20 ?_
          refine lv_iload_n hx hb d_Terms_variable_21 rfl (lv_at hl 2 rfl) ?_
          refine lv_icmp_ne hx hb d_Terms_variable_22 rfl (fun h9 => ?_) (fun h9 => ?_)
          · rw [if_neg h9] at hok
            refine lv_iinc (k := 0) (v := x2_1 + 1) hx hb d_Terms_variable_27 hl rfl rfl (by decide) rfl (fun ls hl => ?_)
            have hl : lv_has ls 3 [(2, .int (x2_1 + 1)), (0, .ref a), (1, .int name)] := hl
            refine lv_goto hx hb d_Terms_variable_30 rfl ?_
            exact ih1 _ _ _ (x2_1 + 1) (lv_sub hl [0, 1, 2] rfl) (sub3 hP hD [0, 1] (by decide)) hS hok
          · rw [if_pos h9] at hok
            refine lv_iload_n hx hb d_Terms_variable_25 rfl (lv_at hl 0 rfl) ?_
            have hq := Option.some.inj hok
            obtain ⟨hq0, hq⟩ := Prod.mk.inj hq
            obtain ⟨hq1, hq⟩ := Prod.mk.inj hq
            obtain ⟨hq2, hq⟩ := Prod.mk.inj hq
            have hq3 := hq
            subst hq0
            subst hq1
            subst hq2
            subst hq3
            obtain ⟨hP9, hD9⟩ := sub2 (ws' := [(a, .inr (7, [.ref a_shapes, .ref a_values, .ref a_firstParts, .int a_nodes, .ref a_parts, .ref a_variableNames, .ref a_became, .int a_variables, .int a_variablesLack, .int a_symbols, .int a_nodesBefore, .int a_partsBefore, .int a_variablesBefore])), (a_variableNames, .inl (cs 0, a_variableNames_n, .inl a_variableNames_f))]) hP hD [0, 1] rfl (by decide) rfl
            rw [hQ]
            exact W.iret (v := x2_1) hx hb hr (fun t ht hW => ⟨⟨_, (), rfl, rfl, by rw [ht]; exact hP9, hD9⟩, hS.F ht⟩) hS.2.2 d_Terms_variable_26
  exact J1 n H locs ls (0 : Int32) hl ⟨hP, hD⟩ hS hok

theorem d_Terms_isVariable_0 : decode b_Terms_isVariable 0 = .ok (.aload_n 0, 1) := by decide +kernel
theorem d_Terms_isVariable_1 : decode b_Terms_isVariable 1 = .ok (.getfield 9, 3) := by decide +kernel
theorem d_Terms_isVariable_4 : decode b_Terms_isVariable 4 = .ok (.iload_n 1, 1) := by decide +kernel
theorem d_Terms_isVariable_5 : decode b_Terms_isVariable 5 = .ok (.iaload, 1) := by decide +kernel
theorem d_Terms_isVariable_6 : decode b_Terms_isVariable 6 = .ok (.bipush (-2), 2) := by decide +kernel
theorem d_Terms_isVariable_8 : decode b_Terms_isVariable 8 = .ok (.if_icmp .ne 7, 3) := by decide +kernel
theorem d_Terms_isVariable_11 : decode b_Terms_isVariable 11 = .ok (.iconst 1, 1) := by decide +kernel
theorem d_Terms_isVariable_12 : decode b_Terms_isVariable 12 = .ok (.goto 4, 3) := by decide +kernel
theorem d_Terms_isVariable_15 : decode b_Terms_isVariable 15 = .ok (.iconst 0, 1) := by decide +kernel
theorem d_Terms_isVariable_16 : decode b_Terms_isVariable 16 = .ok (.ireturn, 1) := by decide +kernel
def p_Terms_isVariable (node : Int32) (a_nodes : Int32) (a_variables : Int32) (a_variablesLack : Int32) (a_symbols : Int32) (a_nodesBefore : Int32) (a_partsBefore : Int32) (a_variablesBefore : Int32) (a_shapes_n : Nat) (a_shapes_f : Nat → Int32) : Option Int32 := ck (ixb node a_shapes_n) (if (a_shapes_f node.toNatClampNeg) = (-2) then (some (1 : Int32)) else (some (0 : Int32)))
set_option maxHeartbeats 4000000 in
set_option maxRecDepth 100000 in
theorem c_Terms_isVariable (l : Launch) (g : va_G) (cs : Nat → ClassId) (ka : Nat → Nat) (a_values : Nat) (a_firstParts : Nat) (a_parts : Nat) (a_variableNames : Nat) (a_became : Nat) (a a_shapes : Nat) (sz : Nat) (node : Int32) (a_nodes : Int32) (a_variables : Int32) (a_variablesLack : Int32) (a_symbols : Int32) (a_nodesBefore : Int32) (a_partsBefore : Int32) (a_variablesBefore : Int32) (a_shapes_n : Nat) (a_shapes_f : Nat → Int32) (r : Int32) (hok : p_Terms_isVariable node a_nodes a_variables a_variablesLack a_symbols a_nodesBefore a_partsBefore a_variablesBefore a_shapes_n a_shapes_f = some r) : Met l y_Terms_isVariable (.code y_Terms_isVariable b_Terms_isVariable 2 (some .boolean) :: GW) { frames := 0, cells := 0, slots := 0, locals := 0 } (va_Pc [.ref a, .int node] (gP g cs ka [(a, .inr (7, [.ref a_shapes, .ref a_values, .ref a_firstParts, .int a_nodes, .ref a_parts, .ref a_variableNames, .ref a_became, .int a_variables, .int a_variablesLack, .int a_symbols, .int a_nodesBefore, .int a_partsBefore, .int a_variablesBefore])), (a_shapes, .inl (cs 0, a_shapes_n, .inl a_shapes_f))] sz)) (va_Qi (fun (r' : Int32) (_ : Unit) => r = r') (fun _ t => va_P g classes [(a, .inr (7, [.ref a_shapes, .ref a_values, .ref a_firstParts, .int a_nodes, .ref a_parts, .ref a_variableNames, .ref a_became, .int a_variables, .int a_variablesLack, .int a_symbols, .int a_nodesBefore, .int a_partsBefore, .int a_variablesBefore])), (a_shapes, .inl (cs 0, a_shapes_n, .inl a_shapes_f))] t.heap ∧ va_D (va_A [(a, .inr (7, [.ref a_shapes, .ref a_values, .ref a_firstParts, .int a_nodes, .ref a_parts, .ref a_variableNames, .ref a_became, .int a_variables, .int a_variablesLack, .int a_symbols, .int a_nodesBefore, .int a_partsBefore, .int a_variablesBefore])), (a_shapes, .inl (cs 0, a_shapes_n, .inl a_shapes_f))] sz) [(a, .inr (7, [.ref a_shapes, .ref a_values, .ref a_firstParts, .int a_nodes, .ref a_parts, .ref a_variableNames, .ref a_became, .int a_variables, .int a_variablesLack, .int a_symbols, .int a_nodesBefore, .int a_partsBefore, .int a_variablesBefore])), (a_shapes, .inl (cs 0, a_shapes_n, .inl a_shapes_f))]) (va_A [(a, .inr (7, [.ref a_shapes, .ref a_values, .ref a_firstParts, .int a_nodes, .ref a_parts, .ref a_variableNames, .ref a_became, .int a_variables, .int a_variablesLack, .int a_symbols, .int a_nodesBefore, .int a_partsBefore, .int a_variablesBefore])), (a_shapes, .inl (cs 0, a_shapes_n, .inl a_shapes_f))] sz)) 0 0 (va_A [(a, .inr (7, [.ref a_shapes, .ref a_values, .ref a_firstParts, .int a_nodes, .ref a_parts, .ref a_variableNames, .ref a_became, .int a_variables, .int a_variablesLack, .int a_symbols, .int a_nodesBefore, .int a_partsBefore, .int a_variablesBefore])), (a_shapes, .inl (cs 0, a_shapes_n, .inl a_shapes_f))] sz) := by
  refine Met.ofW (cc := b_Terms_isVariable) (maxL := 2) (ret := (some .boolean)) (by decide) rfl ?_
  intro p e s m args below meth c s₁ B hml hv
  obtain ⟨rfl, hsz, hP, hK, hD0, hgl, hkn, hkr⟩ := hv
  have hx := B.exec
  have hb := B.bytes
  have hr := B.returns
  have hg : ∀ w ∈ GW, w.before ([.ref a, .int node] : List Value).toArray s = true := fun w hw => atoms_spec (ws := .code y_Terms_isVariable b_Terms_isVariable 2 (some .boolean) :: GW) B.pre w (List.mem_cons_of_mem _ hw)
  have hown : s.vm.findClass R_Terms = some m.cls := findClass_of_methodNamed B.named
  have hlocks := B.notSynchronized
  subst hsz
  have hD := hD0.self (sz := s.heap.size)
  generalize hAe : va_A [(a, .inr (7, [.ref a_shapes, .ref a_values, .ref a_firstParts, .int a_nodes, .ref a_parts, .ref a_variableNames, .ref a_became, .int a_variables, .int a_variablesLack, .int a_symbols, .int a_nodesBefore, .int a_partsBefore, .int a_variablesBefore])), (a_shapes, .inl (cs 0, a_shapes_n, .inl a_shapes_f))] s.heap.size = A at hD hkn ⊢
  have hA : ∀ q : Nat, s.heap.size ≤ q → A q := fun q h => by rw [← hAe]; exact Or.inr h
  have hS : va_S A s.heap s.heap [] := va_S.rf
  have hP : va_P g classes [(a, .inr (7, [.ref a_shapes, .ref a_values, .ref a_firstParts, .int a_nodes, .ref a_parts, .ref a_variableNames, .ref a_became, .int a_variables, .int a_variablesLack, .int a_symbols, .int a_nodesBefore, .int a_partsBefore, .int a_variablesBefore])), (a_shapes, .inl (cs 0, a_shapes_n, .inl a_shapes_f))] s.heap := hP
  have hl := lv_entry ([.ref a, .int node]) (n := 2) (Nat.le_of_ble_eq_true rfl)
  rw [lg_entry_eq]
  generalize (lg_sl ([.ref a, .int node]) ++ List.replicate (2 - (lg_sl ([.ref a, .int node])).length) Slot.unset).toArray = ls at hl ⊢
  have hl : lv_has ls 2 [(0, .ref a), (1, .int node)] := hl
  refine gq (fun Q hQ => ?_)
  obtain ⟨H, hH⟩ : ∃ H : Heap, H = s.heap := ⟨_, rfl⟩
  rw [← hH] at hP
  have hS : va_S A s.heap H [] := by rw [hH]; exact hS
  refine W.eqH hH ?_
  obtain ⟨locs, hlc⟩ : ∃ L : List Loc, L = [] := ⟨_, rfl⟩
  rw [← hlc] at hS ⊢
  unfold p_Terms_isVariable at hok
  refine lv_aload_n hx hb d_Terms_isVariable_0 rfl (lv_at hl 0 rfl) ?_
  refine va_get (D := g) (ci := 7) (v := .ref a_shapes) (C := R_Terms) (T := F_Terms) (N := 13) hx hb hg ul_Terms hown hK hP 0 rfl rfl 0 (by decide) (hg _ wd_228) (fun _ h9 => h9) rfl d_Terms_isVariable_1 ?_
  refine lv_iload_n hx hb d_Terms_isVariable_4 rfl (lv_at hl 1 rfl) ?_
  obtain ⟨hi1, hok⟩ := ck_some hok
  refine va_iald hx hb hK hP 1 0 rfl rfl (ixb_in hi1) d_Terms_isVariable_5 ?_
  refine lv_bipush (v := (-2)) hx hb d_Terms_isVariable_6 (by decide) ?_
  refine lv_icmp_ne hx hb d_Terms_isVariable_8 rfl (fun h2 => ?_) (fun h2 => ?_)
  · rw [if_neg h2] at hok
    refine lv_iconst (v := 0) hx hb d_Terms_isVariable_15 (by decide) ?_
    have hq := Option.some.inj hok
    have hq0 := hq
    subst hq0
    obtain ⟨hP9, hD9⟩ := sub2 (ws' := [(a, .inr (7, [.ref a_shapes, .ref a_values, .ref a_firstParts, .int a_nodes, .ref a_parts, .ref a_variableNames, .ref a_became, .int a_variables, .int a_variablesLack, .int a_symbols, .int a_nodesBefore, .int a_partsBefore, .int a_variablesBefore])), (a_shapes, .inl (cs 0, a_shapes_n, .inl a_shapes_f))]) hP hD [0, 1] rfl (by decide) rfl
    rw [hQ]
    exact W.zret (v := 0) hx hb hr rfl (fun t ht hW => ⟨⟨_, (), rfl, rfl, by rw [ht]; exact hP9, hD9⟩, hS.F ht⟩) hS.2.2 d_Terms_isVariable_16
  · rw [if_pos h2] at hok
    refine lv_iconst (v := 1) hx hb d_Terms_isVariable_11 (by decide) ?_
    refine lv_goto hx hb d_Terms_isVariable_12 rfl ?_
    have hq := Option.some.inj hok
    have hq0 := hq
    subst hq0
    obtain ⟨hP9, hD9⟩ := sub2 (ws' := [(a, .inr (7, [.ref a_shapes, .ref a_values, .ref a_firstParts, .int a_nodes, .ref a_parts, .ref a_variableNames, .ref a_became, .int a_variables, .int a_variablesLack, .int a_symbols, .int a_nodesBefore, .int a_partsBefore, .int a_variablesBefore])), (a_shapes, .inl (cs 0, a_shapes_n, .inl a_shapes_f))]) hP hD [0, 1] rfl (by decide) rfl
    rw [hQ]
    exact W.zret (v := 1) hx hb hr rfl (fun t ht hW => ⟨⟨_, (), rfl, rfl, by rw [ht]; exact hP9, hD9⟩, hS.F ht⟩) hS.2.2 d_Terms_isVariable_16

theorem d_Terms_isInteger_0 : decode b_Terms_isInteger 0 = .ok (.aload_n 0, 1) := by decide +kernel
theorem d_Terms_isInteger_1 : decode b_Terms_isInteger 1 = .ok (.getfield 9, 3) := by decide +kernel
theorem d_Terms_isInteger_4 : decode b_Terms_isInteger 4 = .ok (.iload_n 1, 1) := by decide +kernel
theorem d_Terms_isInteger_5 : decode b_Terms_isInteger 5 = .ok (.iaload, 1) := by decide +kernel
theorem d_Terms_isInteger_6 : decode b_Terms_isInteger 6 = .ok (.iconst (-1), 1) := by decide +kernel
theorem d_Terms_isInteger_7 : decode b_Terms_isInteger 7 = .ok (.if_icmp .ne 7, 3) := by decide +kernel
theorem d_Terms_isInteger_10 : decode b_Terms_isInteger 10 = .ok (.iconst 1, 1) := by decide +kernel
theorem d_Terms_isInteger_11 : decode b_Terms_isInteger 11 = .ok (.goto 4, 3) := by decide +kernel
theorem d_Terms_isInteger_14 : decode b_Terms_isInteger 14 = .ok (.iconst 0, 1) := by decide +kernel
theorem d_Terms_isInteger_15 : decode b_Terms_isInteger 15 = .ok (.ireturn, 1) := by decide +kernel
def p_Terms_isInteger (node : Int32) (a_nodes : Int32) (a_variables : Int32) (a_variablesLack : Int32) (a_symbols : Int32) (a_nodesBefore : Int32) (a_partsBefore : Int32) (a_variablesBefore : Int32) (a_shapes_n : Nat) (a_shapes_f : Nat → Int32) : Option Int32 := ck (ixb node a_shapes_n) (if (a_shapes_f node.toNatClampNeg) = (-1) then (some (1 : Int32)) else (some (0 : Int32)))
set_option maxHeartbeats 4000000 in
set_option maxRecDepth 100000 in
theorem c_Terms_isInteger (l : Launch) (g : va_G) (cs : Nat → ClassId) (ka : Nat → Nat) (a_values : Nat) (a_firstParts : Nat) (a_parts : Nat) (a_variableNames : Nat) (a_became : Nat) (a a_shapes : Nat) (sz : Nat) (node : Int32) (a_nodes : Int32) (a_variables : Int32) (a_variablesLack : Int32) (a_symbols : Int32) (a_nodesBefore : Int32) (a_partsBefore : Int32) (a_variablesBefore : Int32) (a_shapes_n : Nat) (a_shapes_f : Nat → Int32) (r : Int32) (hok : p_Terms_isInteger node a_nodes a_variables a_variablesLack a_symbols a_nodesBefore a_partsBefore a_variablesBefore a_shapes_n a_shapes_f = some r) : Met l y_Terms_isInteger (.code y_Terms_isInteger b_Terms_isInteger 2 (some .boolean) :: GW) { frames := 0, cells := 0, slots := 0, locals := 0 } (va_Pc [.ref a, .int node] (gP g cs ka [(a, .inr (7, [.ref a_shapes, .ref a_values, .ref a_firstParts, .int a_nodes, .ref a_parts, .ref a_variableNames, .ref a_became, .int a_variables, .int a_variablesLack, .int a_symbols, .int a_nodesBefore, .int a_partsBefore, .int a_variablesBefore])), (a_shapes, .inl (cs 0, a_shapes_n, .inl a_shapes_f))] sz)) (va_Qi (fun (r' : Int32) (_ : Unit) => r = r') (fun _ t => va_P g classes [(a, .inr (7, [.ref a_shapes, .ref a_values, .ref a_firstParts, .int a_nodes, .ref a_parts, .ref a_variableNames, .ref a_became, .int a_variables, .int a_variablesLack, .int a_symbols, .int a_nodesBefore, .int a_partsBefore, .int a_variablesBefore])), (a_shapes, .inl (cs 0, a_shapes_n, .inl a_shapes_f))] t.heap ∧ va_D (va_A [(a, .inr (7, [.ref a_shapes, .ref a_values, .ref a_firstParts, .int a_nodes, .ref a_parts, .ref a_variableNames, .ref a_became, .int a_variables, .int a_variablesLack, .int a_symbols, .int a_nodesBefore, .int a_partsBefore, .int a_variablesBefore])), (a_shapes, .inl (cs 0, a_shapes_n, .inl a_shapes_f))] sz) [(a, .inr (7, [.ref a_shapes, .ref a_values, .ref a_firstParts, .int a_nodes, .ref a_parts, .ref a_variableNames, .ref a_became, .int a_variables, .int a_variablesLack, .int a_symbols, .int a_nodesBefore, .int a_partsBefore, .int a_variablesBefore])), (a_shapes, .inl (cs 0, a_shapes_n, .inl a_shapes_f))]) (va_A [(a, .inr (7, [.ref a_shapes, .ref a_values, .ref a_firstParts, .int a_nodes, .ref a_parts, .ref a_variableNames, .ref a_became, .int a_variables, .int a_variablesLack, .int a_symbols, .int a_nodesBefore, .int a_partsBefore, .int a_variablesBefore])), (a_shapes, .inl (cs 0, a_shapes_n, .inl a_shapes_f))] sz)) 0 0 (va_A [(a, .inr (7, [.ref a_shapes, .ref a_values, .ref a_firstParts, .int a_nodes, .ref a_parts, .ref a_variableNames, .ref a_became, .int a_variables, .int a_variablesLack, .int a_symbols, .int a_nodesBefore, .int a_partsBefore, .int a_variablesBefore])), (a_shapes, .inl (cs 0, a_shapes_n, .inl a_shapes_f))] sz) := by
  refine Met.ofW (cc := b_Terms_isInteger) (maxL := 2) (ret := (some .boolean)) (by decide) rfl ?_
  intro p e s m args below meth c s₁ B hml hv
  obtain ⟨rfl, hsz, hP, hK, hD0, hgl, hkn, hkr⟩ := hv
  have hx := B.exec
  have hb := B.bytes
  have hr := B.returns
  have hg : ∀ w ∈ GW, w.before ([.ref a, .int node] : List Value).toArray s = true := fun w hw => atoms_spec (ws := .code y_Terms_isInteger b_Terms_isInteger 2 (some .boolean) :: GW) B.pre w (List.mem_cons_of_mem _ hw)
  have hown : s.vm.findClass R_Terms = some m.cls := findClass_of_methodNamed B.named
  have hlocks := B.notSynchronized
  subst hsz
  have hD := hD0.self (sz := s.heap.size)
  generalize hAe : va_A [(a, .inr (7, [.ref a_shapes, .ref a_values, .ref a_firstParts, .int a_nodes, .ref a_parts, .ref a_variableNames, .ref a_became, .int a_variables, .int a_variablesLack, .int a_symbols, .int a_nodesBefore, .int a_partsBefore, .int a_variablesBefore])), (a_shapes, .inl (cs 0, a_shapes_n, .inl a_shapes_f))] s.heap.size = A at hD hkn ⊢
  have hA : ∀ q : Nat, s.heap.size ≤ q → A q := fun q h => by rw [← hAe]; exact Or.inr h
  have hS : va_S A s.heap s.heap [] := va_S.rf
  have hP : va_P g classes [(a, .inr (7, [.ref a_shapes, .ref a_values, .ref a_firstParts, .int a_nodes, .ref a_parts, .ref a_variableNames, .ref a_became, .int a_variables, .int a_variablesLack, .int a_symbols, .int a_nodesBefore, .int a_partsBefore, .int a_variablesBefore])), (a_shapes, .inl (cs 0, a_shapes_n, .inl a_shapes_f))] s.heap := hP
  have hl := lv_entry ([.ref a, .int node]) (n := 2) (Nat.le_of_ble_eq_true rfl)
  rw [lg_entry_eq]
  generalize (lg_sl ([.ref a, .int node]) ++ List.replicate (2 - (lg_sl ([.ref a, .int node])).length) Slot.unset).toArray = ls at hl ⊢
  have hl : lv_has ls 2 [(0, .ref a), (1, .int node)] := hl
  refine gq (fun Q hQ => ?_)
  obtain ⟨H, hH⟩ : ∃ H : Heap, H = s.heap := ⟨_, rfl⟩
  rw [← hH] at hP
  have hS : va_S A s.heap H [] := by rw [hH]; exact hS
  refine W.eqH hH ?_
  obtain ⟨locs, hlc⟩ : ∃ L : List Loc, L = [] := ⟨_, rfl⟩
  rw [← hlc] at hS ⊢
  unfold p_Terms_isInteger at hok
  refine lv_aload_n hx hb d_Terms_isInteger_0 rfl (lv_at hl 0 rfl) ?_
  refine va_get (D := g) (ci := 7) (v := .ref a_shapes) (C := R_Terms) (T := F_Terms) (N := 13) hx hb hg ul_Terms hown hK hP 0 rfl rfl 0 (by decide) (hg _ wd_228) (fun _ h9 => h9) rfl d_Terms_isInteger_1 ?_
  refine lv_iload_n hx hb d_Terms_isInteger_4 rfl (lv_at hl 1 rfl) ?_
  obtain ⟨hi1, hok⟩ := ck_some hok
  refine va_iald hx hb hK hP 1 0 rfl rfl (ixb_in hi1) d_Terms_isInteger_5 ?_
  refine lv_iconst (v := (-1)) hx hb d_Terms_isInteger_6 (by decide) ?_
  refine lv_icmp_ne hx hb d_Terms_isInteger_7 rfl (fun h2 => ?_) (fun h2 => ?_)
  · rw [if_neg h2] at hok
    refine lv_iconst (v := 0) hx hb d_Terms_isInteger_14 (by decide) ?_
    have hq := Option.some.inj hok
    have hq0 := hq
    subst hq0
    obtain ⟨hP9, hD9⟩ := sub2 (ws' := [(a, .inr (7, [.ref a_shapes, .ref a_values, .ref a_firstParts, .int a_nodes, .ref a_parts, .ref a_variableNames, .ref a_became, .int a_variables, .int a_variablesLack, .int a_symbols, .int a_nodesBefore, .int a_partsBefore, .int a_variablesBefore])), (a_shapes, .inl (cs 0, a_shapes_n, .inl a_shapes_f))]) hP hD [0, 1] rfl (by decide) rfl
    rw [hQ]
    exact W.zret (v := 0) hx hb hr rfl (fun t ht hW => ⟨⟨_, (), rfl, rfl, by rw [ht]; exact hP9, hD9⟩, hS.F ht⟩) hS.2.2 d_Terms_isInteger_15
  · rw [if_pos h2] at hok
    refine lv_iconst (v := 1) hx hb d_Terms_isInteger_10 (by decide) ?_
    refine lv_goto hx hb d_Terms_isInteger_11 rfl ?_
    have hq := Option.some.inj hok
    have hq0 := hq
    subst hq0
    obtain ⟨hP9, hD9⟩ := sub2 (ws' := [(a, .inr (7, [.ref a_shapes, .ref a_values, .ref a_firstParts, .int a_nodes, .ref a_parts, .ref a_variableNames, .ref a_became, .int a_variables, .int a_variablesLack, .int a_symbols, .int a_nodesBefore, .int a_partsBefore, .int a_variablesBefore])), (a_shapes, .inl (cs 0, a_shapes_n, .inl a_shapes_f))]) hP hD [0, 1] rfl (by decide) rfl
    rw [hQ]
    exact W.zret (v := 1) hx hb hr rfl (fun t ht hW => ⟨⟨_, (), rfl, rfl, by rw [ht]; exact hP9, hD9⟩, hS.F ht⟩) hS.2.2 d_Terms_isInteger_15

theorem d_Terms_isEmptyList_0 : decode b_Terms_isEmptyList 0 = .ok (.aload_n 0, 1) := by decide +kernel
theorem d_Terms_isEmptyList_1 : decode b_Terms_isEmptyList 1 = .ok (.getfield 9, 3) := by decide +kernel
theorem d_Terms_isEmptyList_4 : decode b_Terms_isEmptyList 4 = .ok (.iload_n 1, 1) := by decide +kernel
theorem d_Terms_isEmptyList_5 : decode b_Terms_isEmptyList 5 = .ok (.iaload, 1) := by decide +kernel
theorem d_Terms_isEmptyList_6 : decode b_Terms_isEmptyList 6 = .ok (.ifCond .ne 18, 3) := by decide +kernel
theorem d_Terms_isEmptyList_9 : decode b_Terms_isEmptyList 9 = .ok (.aload_n 0, 1) := by decide +kernel
theorem d_Terms_isEmptyList_10 : decode b_Terms_isEmptyList 10 = .ok (.getfield 13, 3) := by decide +kernel
theorem d_Terms_isEmptyList_13 : decode b_Terms_isEmptyList 13 = .ok (.iload_n 1, 1) := by decide +kernel
theorem d_Terms_isEmptyList_14 : decode b_Terms_isEmptyList 14 = .ok (.laload, 1) := by decide +kernel
theorem d_Terms_isEmptyList_15 : decode b_Terms_isEmptyList 15 = .ok (.lconst 0, 1) := by decide +kernel
theorem d_Terms_isEmptyList_16 : decode b_Terms_isEmptyList 16 = .ok (.lcmp, 1) := by decide +kernel
theorem d_Terms_isEmptyList_17 : decode b_Terms_isEmptyList 17 = .ok (.ifCond .ne 7, 3) := by decide +kernel
theorem d_Terms_isEmptyList_20 : decode b_Terms_isEmptyList 20 = .ok (.iconst 1, 1) := by decide +kernel
theorem d_Terms_isEmptyList_21 : decode b_Terms_isEmptyList 21 = .ok (.goto 4, 3) := by decide +kernel
theorem d_Terms_isEmptyList_24 : decode b_Terms_isEmptyList 24 = .ok (.iconst 0, 1) := by decide +kernel
theorem d_Terms_isEmptyList_25 : decode b_Terms_isEmptyList 25 = .ok (.ireturn, 1) := by decide +kernel
def p_Terms_isEmptyList (node : Int32) (a_nodes : Int32) (a_variables : Int32) (a_variablesLack : Int32) (a_symbols : Int32) (a_nodesBefore : Int32) (a_partsBefore : Int32) (a_variablesBefore : Int32) (a_shapes_n : Nat) (a_shapes_f : Nat → Int32) (a_values_n : Nat) (a_values_f : Nat → Int64) : Option Int32 := ck (ixb node a_shapes_n) (if (a_shapes_f node.toNatClampNeg) = 0 then (ck (ixb node a_values_n) (if (lg_cmp (a_values_f node.toNatClampNeg) 0) = 0 then (some (1 : Int32)) else (some (0 : Int32)))) else (some (0 : Int32)))
set_option maxHeartbeats 4000000 in
set_option maxRecDepth 100000 in
theorem c_Terms_isEmptyList (l : Launch) (g : va_G) (cs : Nat → ClassId) (ka : Nat → Nat) (a_firstParts : Nat) (a_parts : Nat) (a_variableNames : Nat) (a_became : Nat) (a a_shapes a_values : Nat) (sz : Nat) (node : Int32) (a_nodes : Int32) (a_variables : Int32) (a_variablesLack : Int32) (a_symbols : Int32) (a_nodesBefore : Int32) (a_partsBefore : Int32) (a_variablesBefore : Int32) (a_shapes_n : Nat) (a_shapes_f : Nat → Int32) (a_values_n : Nat) (a_values_f : Nat → Int64) (r : Int32) (hok : p_Terms_isEmptyList node a_nodes a_variables a_variablesLack a_symbols a_nodesBefore a_partsBefore a_variablesBefore a_shapes_n a_shapes_f a_values_n a_values_f = some r) : Met l y_Terms_isEmptyList (.code y_Terms_isEmptyList b_Terms_isEmptyList 2 (some .boolean) :: GW) { frames := 0, cells := 0, slots := 0, locals := 0 } (va_Pc [.ref a, .int node] (gP g cs ka [(a, .inr (7, [.ref a_shapes, .ref a_values, .ref a_firstParts, .int a_nodes, .ref a_parts, .ref a_variableNames, .ref a_became, .int a_variables, .int a_variablesLack, .int a_symbols, .int a_nodesBefore, .int a_partsBefore, .int a_variablesBefore])), (a_shapes, .inl (cs 0, a_shapes_n, .inl a_shapes_f)), (a_values, .inl (cs 2, a_values_n, .inr (.inl a_values_f)))] sz)) (va_Qi (fun (r' : Int32) (_ : Unit) => r = r') (fun _ t => va_P g classes [(a, .inr (7, [.ref a_shapes, .ref a_values, .ref a_firstParts, .int a_nodes, .ref a_parts, .ref a_variableNames, .ref a_became, .int a_variables, .int a_variablesLack, .int a_symbols, .int a_nodesBefore, .int a_partsBefore, .int a_variablesBefore])), (a_shapes, .inl (cs 0, a_shapes_n, .inl a_shapes_f)), (a_values, .inl (cs 2, a_values_n, .inr (.inl a_values_f)))] t.heap ∧ va_D (va_A [(a, .inr (7, [.ref a_shapes, .ref a_values, .ref a_firstParts, .int a_nodes, .ref a_parts, .ref a_variableNames, .ref a_became, .int a_variables, .int a_variablesLack, .int a_symbols, .int a_nodesBefore, .int a_partsBefore, .int a_variablesBefore])), (a_shapes, .inl (cs 0, a_shapes_n, .inl a_shapes_f)), (a_values, .inl (cs 2, a_values_n, .inr (.inl a_values_f)))] sz) [(a, .inr (7, [.ref a_shapes, .ref a_values, .ref a_firstParts, .int a_nodes, .ref a_parts, .ref a_variableNames, .ref a_became, .int a_variables, .int a_variablesLack, .int a_symbols, .int a_nodesBefore, .int a_partsBefore, .int a_variablesBefore])), (a_shapes, .inl (cs 0, a_shapes_n, .inl a_shapes_f)), (a_values, .inl (cs 2, a_values_n, .inr (.inl a_values_f)))]) (va_A [(a, .inr (7, [.ref a_shapes, .ref a_values, .ref a_firstParts, .int a_nodes, .ref a_parts, .ref a_variableNames, .ref a_became, .int a_variables, .int a_variablesLack, .int a_symbols, .int a_nodesBefore, .int a_partsBefore, .int a_variablesBefore])), (a_shapes, .inl (cs 0, a_shapes_n, .inl a_shapes_f)), (a_values, .inl (cs 2, a_values_n, .inr (.inl a_values_f)))] sz)) 0 0 (va_A [(a, .inr (7, [.ref a_shapes, .ref a_values, .ref a_firstParts, .int a_nodes, .ref a_parts, .ref a_variableNames, .ref a_became, .int a_variables, .int a_variablesLack, .int a_symbols, .int a_nodesBefore, .int a_partsBefore, .int a_variablesBefore])), (a_shapes, .inl (cs 0, a_shapes_n, .inl a_shapes_f)), (a_values, .inl (cs 2, a_values_n, .inr (.inl a_values_f)))] sz) := by
  refine Met.ofW (cc := b_Terms_isEmptyList) (maxL := 2) (ret := (some .boolean)) (by decide) rfl ?_
  intro p e s m args below meth c s₁ B hml hv
  obtain ⟨rfl, hsz, hP, hK, hD0, hgl, hkn, hkr⟩ := hv
  have hx := B.exec
  have hb := B.bytes
  have hr := B.returns
  have hg : ∀ w ∈ GW, w.before ([.ref a, .int node] : List Value).toArray s = true := fun w hw => atoms_spec (ws := .code y_Terms_isEmptyList b_Terms_isEmptyList 2 (some .boolean) :: GW) B.pre w (List.mem_cons_of_mem _ hw)
  have hown : s.vm.findClass R_Terms = some m.cls := findClass_of_methodNamed B.named
  have hlocks := B.notSynchronized
  subst hsz
  have hD := hD0.self (sz := s.heap.size)
  generalize hAe : va_A [(a, .inr (7, [.ref a_shapes, .ref a_values, .ref a_firstParts, .int a_nodes, .ref a_parts, .ref a_variableNames, .ref a_became, .int a_variables, .int a_variablesLack, .int a_symbols, .int a_nodesBefore, .int a_partsBefore, .int a_variablesBefore])), (a_shapes, .inl (cs 0, a_shapes_n, .inl a_shapes_f)), (a_values, .inl (cs 2, a_values_n, .inr (.inl a_values_f)))] s.heap.size = A at hD hkn ⊢
  have hA : ∀ q : Nat, s.heap.size ≤ q → A q := fun q h => by rw [← hAe]; exact Or.inr h
  have hS : va_S A s.heap s.heap [] := va_S.rf
  have hP : va_P g classes [(a, .inr (7, [.ref a_shapes, .ref a_values, .ref a_firstParts, .int a_nodes, .ref a_parts, .ref a_variableNames, .ref a_became, .int a_variables, .int a_variablesLack, .int a_symbols, .int a_nodesBefore, .int a_partsBefore, .int a_variablesBefore])), (a_shapes, .inl (cs 0, a_shapes_n, .inl a_shapes_f)), (a_values, .inl (cs 2, a_values_n, .inr (.inl a_values_f)))] s.heap := hP
  have hl := lv_entry ([.ref a, .int node]) (n := 2) (Nat.le_of_ble_eq_true rfl)
  rw [lg_entry_eq]
  generalize (lg_sl ([.ref a, .int node]) ++ List.replicate (2 - (lg_sl ([.ref a, .int node])).length) Slot.unset).toArray = ls at hl ⊢
  have hl : lv_has ls 2 [(0, .ref a), (1, .int node)] := hl
  refine gq (fun Q hQ => ?_)
  obtain ⟨H, hH⟩ : ∃ H : Heap, H = s.heap := ⟨_, rfl⟩
  rw [← hH] at hP
  have hS : va_S A s.heap H [] := by rw [hH]; exact hS
  refine W.eqH hH ?_
  obtain ⟨locs, hlc⟩ : ∃ L : List Loc, L = [] := ⟨_, rfl⟩
  rw [← hlc] at hS ⊢
  unfold p_Terms_isEmptyList at hok
  refine lv_aload_n hx hb d_Terms_isEmptyList_0 rfl (lv_at hl 0 rfl) ?_
  refine va_get (D := g) (ci := 7) (v := .ref a_shapes) (C := R_Terms) (T := F_Terms) (N := 13) hx hb hg ul_Terms hown hK hP 0 rfl rfl 0 (by decide) (hg _ wd_228) (fun _ h9 => h9) rfl d_Terms_isEmptyList_1 ?_
  refine lv_iload_n hx hb d_Terms_isEmptyList_4 rfl (lv_at hl 1 rfl) ?_
  obtain ⟨hi1, hok⟩ := ck_some hok
  refine va_iald hx hb hK hP 1 0 rfl rfl (ixb_in hi1) d_Terms_isEmptyList_5 ?_
  refine lv_if_ne hx hb d_Terms_isEmptyList_6 rfl (fun h2 => ?_) (fun h2 => ?_)
  · rw [if_neg h2] at hok
    refine lv_iconst (v := 0) hx hb d_Terms_isEmptyList_24 (by decide) ?_
    have hq := Option.some.inj hok
    have hq0 := hq
    subst hq0
    obtain ⟨hP9, hD9⟩ := sub2 (ws' := [(a, .inr (7, [.ref a_shapes, .ref a_values, .ref a_firstParts, .int a_nodes, .ref a_parts, .ref a_variableNames, .ref a_became, .int a_variables, .int a_variablesLack, .int a_symbols, .int a_nodesBefore, .int a_partsBefore, .int a_variablesBefore])), (a_shapes, .inl (cs 0, a_shapes_n, .inl a_shapes_f)), (a_values, .inl (cs 2, a_values_n, .inr (.inl a_values_f)))]) hP hD [0, 1, 2] rfl (by decide) rfl
    rw [hQ]
    exact W.zret (v := 0) hx hb hr rfl (fun t ht hW => ⟨⟨_, (), rfl, rfl, by rw [ht]; exact hP9, hD9⟩, hS.F ht⟩) hS.2.2 d_Terms_isEmptyList_25
  · rw [if_pos h2] at hok
    refine lv_aload_n hx hb d_Terms_isEmptyList_9 rfl (lv_at hl 0 rfl) ?_
    refine va_get (D := g) (ci := 7) (v := .ref a_values) (C := R_Terms) (T := F_Terms) (N := 13) hx hb hg ul_Terms hown hK hP 0 rfl rfl 1 (by decide) (hg _ wd_229) (fun _ h9 => h9) rfl d_Terms_isEmptyList_10 ?_
    refine lv_iload_n hx hb d_Terms_isEmptyList_13 rfl (lv_at hl 1 rfl) ?_
    obtain ⟨hi3, hok⟩ := ck_some hok
    refine va_lald hx hb hK hP 2 2 rfl rfl (ixb_in hi3) d_Terms_isEmptyList_14 ?_
    refine lv_lconst (v := 0) hx hb d_Terms_isEmptyList_15 (by decide) ?_
    refine W.lcmp hx hb d_Terms_isEmptyList_16 ?_
    refine lv_if_ne hx hb d_Terms_isEmptyList_17 rfl (fun h4 => ?_) (fun h4 => ?_)
    · rw [if_neg h4] at hok
      refine lv_iconst (v := 0) hx hb d_Terms_isEmptyList_24 (by decide) ?_
      have hq := Option.some.inj hok
      have hq0 := hq
      subst hq0
      obtain ⟨hP9, hD9⟩ := sub2 (ws' := [(a, .inr (7, [.ref a_shapes, .ref a_values, .ref a_firstParts, .int a_nodes, .ref a_parts, .ref a_variableNames, .ref a_became, .int a_variables, .int a_variablesLack, .int a_symbols, .int a_nodesBefore, .int a_partsBefore, .int a_variablesBefore])), (a_shapes, .inl (cs 0, a_shapes_n, .inl a_shapes_f)), (a_values, .inl (cs 2, a_values_n, .inr (.inl a_values_f)))]) hP hD [0, 1, 2] rfl (by decide) rfl
      rw [hQ]
      exact W.zret (v := 0) hx hb hr rfl (fun t ht hW => ⟨⟨_, (), rfl, rfl, by rw [ht]; exact hP9, hD9⟩, hS.F ht⟩) hS.2.2 d_Terms_isEmptyList_25
    · rw [if_pos h4] at hok
      refine lv_iconst (v := 1) hx hb d_Terms_isEmptyList_20 (by decide) ?_
      refine lv_goto hx hb d_Terms_isEmptyList_21 rfl ?_
      have hq := Option.some.inj hok
      have hq0 := hq
      subst hq0
      obtain ⟨hP9, hD9⟩ := sub2 (ws' := [(a, .inr (7, [.ref a_shapes, .ref a_values, .ref a_firstParts, .int a_nodes, .ref a_parts, .ref a_variableNames, .ref a_became, .int a_variables, .int a_variablesLack, .int a_symbols, .int a_nodesBefore, .int a_partsBefore, .int a_variablesBefore])), (a_shapes, .inl (cs 0, a_shapes_n, .inl a_shapes_f)), (a_values, .inl (cs 2, a_values_n, .inr (.inl a_values_f)))]) hP hD [0, 1, 2] rfl (by decide) rfl
      rw [hQ]
      exact W.zret (v := 1) hx hb hr rfl (fun t ht hW => ⟨⟨_, (), rfl, rfl, by rw [ht]; exact hP9, hD9⟩, hS.F ht⟩) hS.2.2 d_Terms_isEmptyList_25

theorem d_Terms_isListCell_0 : decode b_Terms_isListCell 0 = .ok (.aload_n 0, 1) := by decide +kernel
theorem d_Terms_isListCell_1 : decode b_Terms_isListCell 1 = .ok (.getfield 9, 3) := by decide +kernel
theorem d_Terms_isListCell_4 : decode b_Terms_isListCell 4 = .ok (.iload_n 1, 1) := by decide +kernel
theorem d_Terms_isListCell_5 : decode b_Terms_isListCell 5 = .ok (.iaload, 1) := by decide +kernel
theorem d_Terms_isListCell_6 : decode b_Terms_isListCell 6 = .ok (.iconst 2, 1) := by decide +kernel
theorem d_Terms_isListCell_7 : decode b_Terms_isListCell 7 = .ok (.if_icmp .ne 18, 3) := by decide +kernel
theorem d_Terms_isListCell_10 : decode b_Terms_isListCell 10 = .ok (.aload_n 0, 1) := by decide +kernel
theorem d_Terms_isListCell_11 : decode b_Terms_isListCell 11 = .ok (.getfield 13, 3) := by decide +kernel
theorem d_Terms_isListCell_14 : decode b_Terms_isListCell 14 = .ok (.iload_n 1, 1) := by decide +kernel
theorem d_Terms_isListCell_15 : decode b_Terms_isListCell 15 = .ok (.laload, 1) := by decide +kernel
theorem d_Terms_isListCell_16 : decode b_Terms_isListCell 16 = .ok (.lconst 1, 1) := by decide +kernel
theorem d_Terms_isListCell_17 : decode b_Terms_isListCell 17 = .ok (.lcmp, 1) := by decide +kernel
theorem d_Terms_isListCell_18 : decode b_Terms_isListCell 18 = .ok (.ifCond .ne 7, 3) := by decide +kernel
theorem d_Terms_isListCell_21 : decode b_Terms_isListCell 21 = .ok (.iconst 1, 1) := by decide +kernel
theorem d_Terms_isListCell_22 : decode b_Terms_isListCell 22 = .ok (.goto 4, 3) := by decide +kernel
theorem d_Terms_isListCell_25 : decode b_Terms_isListCell 25 = .ok (.iconst 0, 1) := by decide +kernel
theorem d_Terms_isListCell_26 : decode b_Terms_isListCell 26 = .ok (.ireturn, 1) := by decide +kernel
def p_Terms_isListCell (node : Int32) (a_nodes : Int32) (a_variables : Int32) (a_variablesLack : Int32) (a_symbols : Int32) (a_nodesBefore : Int32) (a_partsBefore : Int32) (a_variablesBefore : Int32) (a_shapes_n : Nat) (a_shapes_f : Nat → Int32) (a_values_n : Nat) (a_values_f : Nat → Int64) : Option Int32 := ck (ixb node a_shapes_n) (if (a_shapes_f node.toNatClampNeg) = 2 then (ck (ixb node a_values_n) (if (lg_cmp (a_values_f node.toNatClampNeg) 1) = 0 then (some (1 : Int32)) else (some (0 : Int32)))) else (some (0 : Int32)))
set_option maxHeartbeats 4000000 in
set_option maxRecDepth 100000 in
theorem c_Terms_isListCell (l : Launch) (g : va_G) (cs : Nat → ClassId) (ka : Nat → Nat) (a_firstParts : Nat) (a_parts : Nat) (a_variableNames : Nat) (a_became : Nat) (a a_shapes a_values : Nat) (sz : Nat) (node : Int32) (a_nodes : Int32) (a_variables : Int32) (a_variablesLack : Int32) (a_symbols : Int32) (a_nodesBefore : Int32) (a_partsBefore : Int32) (a_variablesBefore : Int32) (a_shapes_n : Nat) (a_shapes_f : Nat → Int32) (a_values_n : Nat) (a_values_f : Nat → Int64) (r : Int32) (hok : p_Terms_isListCell node a_nodes a_variables a_variablesLack a_symbols a_nodesBefore a_partsBefore a_variablesBefore a_shapes_n a_shapes_f a_values_n a_values_f = some r) : Met l y_Terms_isListCell (.code y_Terms_isListCell b_Terms_isListCell 2 (some .boolean) :: GW) { frames := 0, cells := 0, slots := 0, locals := 0 } (va_Pc [.ref a, .int node] (gP g cs ka [(a, .inr (7, [.ref a_shapes, .ref a_values, .ref a_firstParts, .int a_nodes, .ref a_parts, .ref a_variableNames, .ref a_became, .int a_variables, .int a_variablesLack, .int a_symbols, .int a_nodesBefore, .int a_partsBefore, .int a_variablesBefore])), (a_shapes, .inl (cs 0, a_shapes_n, .inl a_shapes_f)), (a_values, .inl (cs 2, a_values_n, .inr (.inl a_values_f)))] sz)) (va_Qi (fun (r' : Int32) (_ : Unit) => r = r') (fun _ t => va_P g classes [(a, .inr (7, [.ref a_shapes, .ref a_values, .ref a_firstParts, .int a_nodes, .ref a_parts, .ref a_variableNames, .ref a_became, .int a_variables, .int a_variablesLack, .int a_symbols, .int a_nodesBefore, .int a_partsBefore, .int a_variablesBefore])), (a_shapes, .inl (cs 0, a_shapes_n, .inl a_shapes_f)), (a_values, .inl (cs 2, a_values_n, .inr (.inl a_values_f)))] t.heap ∧ va_D (va_A [(a, .inr (7, [.ref a_shapes, .ref a_values, .ref a_firstParts, .int a_nodes, .ref a_parts, .ref a_variableNames, .ref a_became, .int a_variables, .int a_variablesLack, .int a_symbols, .int a_nodesBefore, .int a_partsBefore, .int a_variablesBefore])), (a_shapes, .inl (cs 0, a_shapes_n, .inl a_shapes_f)), (a_values, .inl (cs 2, a_values_n, .inr (.inl a_values_f)))] sz) [(a, .inr (7, [.ref a_shapes, .ref a_values, .ref a_firstParts, .int a_nodes, .ref a_parts, .ref a_variableNames, .ref a_became, .int a_variables, .int a_variablesLack, .int a_symbols, .int a_nodesBefore, .int a_partsBefore, .int a_variablesBefore])), (a_shapes, .inl (cs 0, a_shapes_n, .inl a_shapes_f)), (a_values, .inl (cs 2, a_values_n, .inr (.inl a_values_f)))]) (va_A [(a, .inr (7, [.ref a_shapes, .ref a_values, .ref a_firstParts, .int a_nodes, .ref a_parts, .ref a_variableNames, .ref a_became, .int a_variables, .int a_variablesLack, .int a_symbols, .int a_nodesBefore, .int a_partsBefore, .int a_variablesBefore])), (a_shapes, .inl (cs 0, a_shapes_n, .inl a_shapes_f)), (a_values, .inl (cs 2, a_values_n, .inr (.inl a_values_f)))] sz)) 0 0 (va_A [(a, .inr (7, [.ref a_shapes, .ref a_values, .ref a_firstParts, .int a_nodes, .ref a_parts, .ref a_variableNames, .ref a_became, .int a_variables, .int a_variablesLack, .int a_symbols, .int a_nodesBefore, .int a_partsBefore, .int a_variablesBefore])), (a_shapes, .inl (cs 0, a_shapes_n, .inl a_shapes_f)), (a_values, .inl (cs 2, a_values_n, .inr (.inl a_values_f)))] sz) := by
  refine Met.ofW (cc := b_Terms_isListCell) (maxL := 2) (ret := (some .boolean)) (by decide) rfl ?_
  intro p e s m args below meth c s₁ B hml hv
  obtain ⟨rfl, hsz, hP, hK, hD0, hgl, hkn, hkr⟩ := hv
  have hx := B.exec
  have hb := B.bytes
  have hr := B.returns
  have hg : ∀ w ∈ GW, w.before ([.ref a, .int node] : List Value).toArray s = true := fun w hw => atoms_spec (ws := .code y_Terms_isListCell b_Terms_isListCell 2 (some .boolean) :: GW) B.pre w (List.mem_cons_of_mem _ hw)
  have hown : s.vm.findClass R_Terms = some m.cls := findClass_of_methodNamed B.named
  have hlocks := B.notSynchronized
  subst hsz
  have hD := hD0.self (sz := s.heap.size)
  generalize hAe : va_A [(a, .inr (7, [.ref a_shapes, .ref a_values, .ref a_firstParts, .int a_nodes, .ref a_parts, .ref a_variableNames, .ref a_became, .int a_variables, .int a_variablesLack, .int a_symbols, .int a_nodesBefore, .int a_partsBefore, .int a_variablesBefore])), (a_shapes, .inl (cs 0, a_shapes_n, .inl a_shapes_f)), (a_values, .inl (cs 2, a_values_n, .inr (.inl a_values_f)))] s.heap.size = A at hD hkn ⊢
  have hA : ∀ q : Nat, s.heap.size ≤ q → A q := fun q h => by rw [← hAe]; exact Or.inr h
  have hS : va_S A s.heap s.heap [] := va_S.rf
  have hP : va_P g classes [(a, .inr (7, [.ref a_shapes, .ref a_values, .ref a_firstParts, .int a_nodes, .ref a_parts, .ref a_variableNames, .ref a_became, .int a_variables, .int a_variablesLack, .int a_symbols, .int a_nodesBefore, .int a_partsBefore, .int a_variablesBefore])), (a_shapes, .inl (cs 0, a_shapes_n, .inl a_shapes_f)), (a_values, .inl (cs 2, a_values_n, .inr (.inl a_values_f)))] s.heap := hP
  have hl := lv_entry ([.ref a, .int node]) (n := 2) (Nat.le_of_ble_eq_true rfl)
  rw [lg_entry_eq]
  generalize (lg_sl ([.ref a, .int node]) ++ List.replicate (2 - (lg_sl ([.ref a, .int node])).length) Slot.unset).toArray = ls at hl ⊢
  have hl : lv_has ls 2 [(0, .ref a), (1, .int node)] := hl
  refine gq (fun Q hQ => ?_)
  obtain ⟨H, hH⟩ : ∃ H : Heap, H = s.heap := ⟨_, rfl⟩
  rw [← hH] at hP
  have hS : va_S A s.heap H [] := by rw [hH]; exact hS
  refine W.eqH hH ?_
  obtain ⟨locs, hlc⟩ : ∃ L : List Loc, L = [] := ⟨_, rfl⟩
  rw [← hlc] at hS ⊢
  unfold p_Terms_isListCell at hok
  refine lv_aload_n hx hb d_Terms_isListCell_0 rfl (lv_at hl 0 rfl) ?_
  refine va_get (D := g) (ci := 7) (v := .ref a_shapes) (C := R_Terms) (T := F_Terms) (N := 13) hx hb hg ul_Terms hown hK hP 0 rfl rfl 0 (by decide) (hg _ wd_228) (fun _ h9 => h9) rfl d_Terms_isListCell_1 ?_
  refine lv_iload_n hx hb d_Terms_isListCell_4 rfl (lv_at hl 1 rfl) ?_
  obtain ⟨hi1, hok⟩ := ck_some hok
  refine va_iald hx hb hK hP 1 0 rfl rfl (ixb_in hi1) d_Terms_isListCell_5 ?_
  refine lv_iconst (v := 2) hx hb d_Terms_isListCell_6 (by decide) ?_
  refine lv_icmp_ne hx hb d_Terms_isListCell_7 rfl (fun h2 => ?_) (fun h2 => ?_)
  · rw [if_neg h2] at hok
    refine lv_iconst (v := 0) hx hb d_Terms_isListCell_25 (by decide) ?_
    have hq := Option.some.inj hok
    have hq0 := hq
    subst hq0
    obtain ⟨hP9, hD9⟩ := sub2 (ws' := [(a, .inr (7, [.ref a_shapes, .ref a_values, .ref a_firstParts, .int a_nodes, .ref a_parts, .ref a_variableNames, .ref a_became, .int a_variables, .int a_variablesLack, .int a_symbols, .int a_nodesBefore, .int a_partsBefore, .int a_variablesBefore])), (a_shapes, .inl (cs 0, a_shapes_n, .inl a_shapes_f)), (a_values, .inl (cs 2, a_values_n, .inr (.inl a_values_f)))]) hP hD [0, 1, 2] rfl (by decide) rfl
    rw [hQ]
    exact W.zret (v := 0) hx hb hr rfl (fun t ht hW => ⟨⟨_, (), rfl, rfl, by rw [ht]; exact hP9, hD9⟩, hS.F ht⟩) hS.2.2 d_Terms_isListCell_26
  · rw [if_pos h2] at hok
    refine lv_aload_n hx hb d_Terms_isListCell_10 rfl (lv_at hl 0 rfl) ?_
    refine va_get (D := g) (ci := 7) (v := .ref a_values) (C := R_Terms) (T := F_Terms) (N := 13) hx hb hg ul_Terms hown hK hP 0 rfl rfl 1 (by decide) (hg _ wd_229) (fun _ h9 => h9) rfl d_Terms_isListCell_11 ?_
    refine lv_iload_n hx hb d_Terms_isListCell_14 rfl (lv_at hl 1 rfl) ?_
    obtain ⟨hi3, hok⟩ := ck_some hok
    refine va_lald hx hb hK hP 2 2 rfl rfl (ixb_in hi3) d_Terms_isListCell_15 ?_
    refine lv_lconst (v := 1) hx hb d_Terms_isListCell_16 (by decide) ?_
    refine W.lcmp hx hb d_Terms_isListCell_17 ?_
    refine lv_if_ne hx hb d_Terms_isListCell_18 rfl (fun h4 => ?_) (fun h4 => ?_)
    · rw [if_neg h4] at hok
      refine lv_iconst (v := 0) hx hb d_Terms_isListCell_25 (by decide) ?_
      have hq := Option.some.inj hok
      have hq0 := hq
      subst hq0
      obtain ⟨hP9, hD9⟩ := sub2 (ws' := [(a, .inr (7, [.ref a_shapes, .ref a_values, .ref a_firstParts, .int a_nodes, .ref a_parts, .ref a_variableNames, .ref a_became, .int a_variables, .int a_variablesLack, .int a_symbols, .int a_nodesBefore, .int a_partsBefore, .int a_variablesBefore])), (a_shapes, .inl (cs 0, a_shapes_n, .inl a_shapes_f)), (a_values, .inl (cs 2, a_values_n, .inr (.inl a_values_f)))]) hP hD [0, 1, 2] rfl (by decide) rfl
      rw [hQ]
      exact W.zret (v := 0) hx hb hr rfl (fun t ht hW => ⟨⟨_, (), rfl, rfl, by rw [ht]; exact hP9, hD9⟩, hS.F ht⟩) hS.2.2 d_Terms_isListCell_26
    · rw [if_pos h4] at hok
      refine lv_iconst (v := 1) hx hb d_Terms_isListCell_21 (by decide) ?_
      refine lv_goto hx hb d_Terms_isListCell_22 rfl ?_
      have hq := Option.some.inj hok
      have hq0 := hq
      subst hq0
      obtain ⟨hP9, hD9⟩ := sub2 (ws' := [(a, .inr (7, [.ref a_shapes, .ref a_values, .ref a_firstParts, .int a_nodes, .ref a_parts, .ref a_variableNames, .ref a_became, .int a_variables, .int a_variablesLack, .int a_symbols, .int a_nodesBefore, .int a_partsBefore, .int a_variablesBefore])), (a_shapes, .inl (cs 0, a_shapes_n, .inl a_shapes_f)), (a_values, .inl (cs 2, a_values_n, .inr (.inl a_values_f)))]) hP hD [0, 1, 2] rfl (by decide) rfl
      rw [hQ]
      exact W.zret (v := 1) hx hb hr rfl (fun t ht hW => ⟨⟨_, (), rfl, rfl, by rw [ht]; exact hP9, hD9⟩, hS.F ht⟩) hS.2.2 d_Terms_isListCell_26

theorem d_Terms_areAlike_0 : decode b_Terms_areAlike 0 = .ok (.aload_n 0, 1) := by decide +kernel
theorem d_Terms_areAlike_1 : decode b_Terms_areAlike 1 = .ok (.getfield 9, 3) := by decide +kernel
theorem d_Terms_areAlike_4 : decode b_Terms_areAlike 4 = .ok (.iload_n 1, 1) := by decide +kernel
theorem d_Terms_areAlike_5 : decode b_Terms_areAlike 5 = .ok (.iaload, 1) := by decide +kernel
theorem d_Terms_areAlike_6 : decode b_Terms_areAlike 6 = .ok (.aload_n 0, 1) := by decide +kernel
theorem d_Terms_areAlike_7 : decode b_Terms_areAlike 7 = .ok (.getfield 9, 3) := by decide +kernel
theorem d_Terms_areAlike_10 : decode b_Terms_areAlike 10 = .ok (.iload_n 2, 1) := by decide +kernel
theorem d_Terms_areAlike_11 : decode b_Terms_areAlike 11 = .ok (.iaload, 1) := by decide +kernel
theorem d_Terms_areAlike_12 : decode b_Terms_areAlike 12 = .ok (.if_icmp .ne 23, 3) := by decide +kernel
theorem d_Terms_areAlike_15 : decode b_Terms_areAlike 15 = .ok (.aload_n 0, 1) := by decide +kernel
theorem d_Terms_areAlike_16 : decode b_Terms_areAlike 16 = .ok (.getfield 13, 3) := by decide +kernel
theorem d_Terms_areAlike_19 : decode b_Terms_areAlike 19 = .ok (.iload_n 1, 1) := by decide +kernel
theorem d_Terms_areAlike_20 : decode b_Terms_areAlike 20 = .ok (.laload, 1) := by decide +kernel
theorem d_Terms_areAlike_21 : decode b_Terms_areAlike 21 = .ok (.aload_n 0, 1) := by decide +kernel
theorem d_Terms_areAlike_22 : decode b_Terms_areAlike 22 = .ok (.getfield 13, 3) := by decide +kernel
theorem d_Terms_areAlike_25 : decode b_Terms_areAlike 25 = .ok (.iload_n 2, 1) := by decide +kernel
theorem d_Terms_areAlike_26 : decode b_Terms_areAlike 26 = .ok (.laload, 1) := by decide +kernel
theorem d_Terms_areAlike_27 : decode b_Terms_areAlike 27 = .ok (.lcmp, 1) := by decide +kernel
theorem d_Terms_areAlike_28 : decode b_Terms_areAlike 28 = .ok (.ifCond .ne 7, 3) := by decide +kernel
theorem d_Terms_areAlike_31 : decode b_Terms_areAlike 31 = .ok (.iconst 1, 1) := by decide +kernel
theorem d_Terms_areAlike_32 : decode b_Terms_areAlike 32 = .ok (.goto 4, 3) := by decide +kernel
theorem d_Terms_areAlike_35 : decode b_Terms_areAlike 35 = .ok (.iconst 0, 1) := by decide +kernel
theorem d_Terms_areAlike_36 : decode b_Terms_areAlike 36 = .ok (.ireturn, 1) := by decide +kernel
def p_Terms_areAlike (x : Int32) (y : Int32) (a_nodes : Int32) (a_variables : Int32) (a_variablesLack : Int32) (a_symbols : Int32) (a_nodesBefore : Int32) (a_partsBefore : Int32) (a_variablesBefore : Int32) (a_shapes_n : Nat) (a_shapes_f : Nat → Int32) (a_values_n : Nat) (a_values_f : Nat → Int64) : Option Int32 := ck (ixb x a_shapes_n) (ck (ixb y a_shapes_n) (if (a_shapes_f x.toNatClampNeg) = (a_shapes_f y.toNatClampNeg) then (ck (ixb x a_values_n) (ck (ixb y a_values_n) (if (lg_cmp (a_values_f x.toNatClampNeg) (a_values_f y.toNatClampNeg)) = 0 then (some (1 : Int32)) else (some (0 : Int32))))) else (some (0 : Int32))))
set_option maxHeartbeats 4000000 in
set_option maxRecDepth 100000 in
theorem c_Terms_areAlike (l : Launch) (g : va_G) (cs : Nat → ClassId) (ka : Nat → Nat) (a_firstParts : Nat) (a_parts : Nat) (a_variableNames : Nat) (a_became : Nat) (a a_shapes a_values : Nat) (sz : Nat) (x : Int32) (y : Int32) (a_nodes : Int32) (a_variables : Int32) (a_variablesLack : Int32) (a_symbols : Int32) (a_nodesBefore : Int32) (a_partsBefore : Int32) (a_variablesBefore : Int32) (a_shapes_n : Nat) (a_shapes_f : Nat → Int32) (a_values_n : Nat) (a_values_f : Nat → Int64) (r : Int32) (hok : p_Terms_areAlike x y a_nodes a_variables a_variablesLack a_symbols a_nodesBefore a_partsBefore a_variablesBefore a_shapes_n a_shapes_f a_values_n a_values_f = some r) : Met l y_Terms_areAlike (.code y_Terms_areAlike b_Terms_areAlike 3 (some .boolean) :: GW) { frames := 0, cells := 0, slots := 0, locals := 0 } (va_Pc [.ref a, .int x, .int y] (gP g cs ka [(a, .inr (7, [.ref a_shapes, .ref a_values, .ref a_firstParts, .int a_nodes, .ref a_parts, .ref a_variableNames, .ref a_became, .int a_variables, .int a_variablesLack, .int a_symbols, .int a_nodesBefore, .int a_partsBefore, .int a_variablesBefore])), (a_shapes, .inl (cs 0, a_shapes_n, .inl a_shapes_f)), (a_values, .inl (cs 2, a_values_n, .inr (.inl a_values_f)))] sz)) (va_Qi (fun (r' : Int32) (_ : Unit) => r = r') (fun _ t => va_P g classes [(a, .inr (7, [.ref a_shapes, .ref a_values, .ref a_firstParts, .int a_nodes, .ref a_parts, .ref a_variableNames, .ref a_became, .int a_variables, .int a_variablesLack, .int a_symbols, .int a_nodesBefore, .int a_partsBefore, .int a_variablesBefore])), (a_shapes, .inl (cs 0, a_shapes_n, .inl a_shapes_f)), (a_values, .inl (cs 2, a_values_n, .inr (.inl a_values_f)))] t.heap ∧ va_D (va_A [(a, .inr (7, [.ref a_shapes, .ref a_values, .ref a_firstParts, .int a_nodes, .ref a_parts, .ref a_variableNames, .ref a_became, .int a_variables, .int a_variablesLack, .int a_symbols, .int a_nodesBefore, .int a_partsBefore, .int a_variablesBefore])), (a_shapes, .inl (cs 0, a_shapes_n, .inl a_shapes_f)), (a_values, .inl (cs 2, a_values_n, .inr (.inl a_values_f)))] sz) [(a, .inr (7, [.ref a_shapes, .ref a_values, .ref a_firstParts, .int a_nodes, .ref a_parts, .ref a_variableNames, .ref a_became, .int a_variables, .int a_variablesLack, .int a_symbols, .int a_nodesBefore, .int a_partsBefore, .int a_variablesBefore])), (a_shapes, .inl (cs 0, a_shapes_n, .inl a_shapes_f)), (a_values, .inl (cs 2, a_values_n, .inr (.inl a_values_f)))]) (va_A [(a, .inr (7, [.ref a_shapes, .ref a_values, .ref a_firstParts, .int a_nodes, .ref a_parts, .ref a_variableNames, .ref a_became, .int a_variables, .int a_variablesLack, .int a_symbols, .int a_nodesBefore, .int a_partsBefore, .int a_variablesBefore])), (a_shapes, .inl (cs 0, a_shapes_n, .inl a_shapes_f)), (a_values, .inl (cs 2, a_values_n, .inr (.inl a_values_f)))] sz)) 0 0 (va_A [(a, .inr (7, [.ref a_shapes, .ref a_values, .ref a_firstParts, .int a_nodes, .ref a_parts, .ref a_variableNames, .ref a_became, .int a_variables, .int a_variablesLack, .int a_symbols, .int a_nodesBefore, .int a_partsBefore, .int a_variablesBefore])), (a_shapes, .inl (cs 0, a_shapes_n, .inl a_shapes_f)), (a_values, .inl (cs 2, a_values_n, .inr (.inl a_values_f)))] sz) := by
  refine Met.ofW (cc := b_Terms_areAlike) (maxL := 3) (ret := (some .boolean)) (by decide) rfl ?_
  intro p e s m args below meth c s₁ B hml hv
  obtain ⟨rfl, hsz, hP, hK, hD0, hgl, hkn, hkr⟩ := hv
  have hx := B.exec
  have hb := B.bytes
  have hr := B.returns
  have hg : ∀ w ∈ GW, w.before ([.ref a, .int x, .int y] : List Value).toArray s = true := fun w hw => atoms_spec (ws := .code y_Terms_areAlike b_Terms_areAlike 3 (some .boolean) :: GW) B.pre w (List.mem_cons_of_mem _ hw)
  have hown : s.vm.findClass R_Terms = some m.cls := findClass_of_methodNamed B.named
  have hlocks := B.notSynchronized
  subst hsz
  have hD := hD0.self (sz := s.heap.size)
  generalize hAe : va_A [(a, .inr (7, [.ref a_shapes, .ref a_values, .ref a_firstParts, .int a_nodes, .ref a_parts, .ref a_variableNames, .ref a_became, .int a_variables, .int a_variablesLack, .int a_symbols, .int a_nodesBefore, .int a_partsBefore, .int a_variablesBefore])), (a_shapes, .inl (cs 0, a_shapes_n, .inl a_shapes_f)), (a_values, .inl (cs 2, a_values_n, .inr (.inl a_values_f)))] s.heap.size = A at hD hkn ⊢
  have hA : ∀ q : Nat, s.heap.size ≤ q → A q := fun q h => by rw [← hAe]; exact Or.inr h
  have hS : va_S A s.heap s.heap [] := va_S.rf
  have hP : va_P g classes [(a, .inr (7, [.ref a_shapes, .ref a_values, .ref a_firstParts, .int a_nodes, .ref a_parts, .ref a_variableNames, .ref a_became, .int a_variables, .int a_variablesLack, .int a_symbols, .int a_nodesBefore, .int a_partsBefore, .int a_variablesBefore])), (a_shapes, .inl (cs 0, a_shapes_n, .inl a_shapes_f)), (a_values, .inl (cs 2, a_values_n, .inr (.inl a_values_f)))] s.heap := hP
  have hl := lv_entry ([.ref a, .int x, .int y]) (n := 3) (Nat.le_of_ble_eq_true rfl)
  rw [lg_entry_eq]
  generalize (lg_sl ([.ref a, .int x, .int y]) ++ List.replicate (3 - (lg_sl ([.ref a, .int x, .int y])).length) Slot.unset).toArray = ls at hl ⊢
  have hl : lv_has ls 3 [(0, .ref a), (1, .int x), (2, .int y)] := hl
  refine gq (fun Q hQ => ?_)
  obtain ⟨H, hH⟩ : ∃ H : Heap, H = s.heap := ⟨_, rfl⟩
  rw [← hH] at hP
  have hS : va_S A s.heap H [] := by rw [hH]; exact hS
  refine W.eqH hH ?_
  obtain ⟨locs, hlc⟩ : ∃ L : List Loc, L = [] := ⟨_, rfl⟩
  rw [← hlc] at hS ⊢
  unfold p_Terms_areAlike at hok
  refine lv_aload_n hx hb d_Terms_areAlike_0 rfl (lv_at hl 0 rfl) ?_
  refine va_get (D := g) (ci := 7) (v := .ref a_shapes) (C := R_Terms) (T := F_Terms) (N := 13) hx hb hg ul_Terms hown hK hP 0 rfl rfl 0 (by decide) (hg _ wd_228) (fun _ h9 => h9) rfl d_Terms_areAlike_1 ?_
  refine lv_iload_n hx hb d_Terms_areAlike_4 rfl (lv_at hl 1 rfl) ?_
  obtain ⟨hi1, hok⟩ := ck_some hok
  refine va_iald hx hb hK hP 1 0 rfl rfl (ixb_in hi1) d_Terms_areAlike_5 ?_
  refine lv_aload_n hx hb d_Terms_areAlike_6 rfl (lv_at hl 0 rfl) ?_
  refine va_get (D := g) (ci := 7) (v := .ref a_shapes) (C := R_Terms) (T := F_Terms) (N := 13) hx hb hg ul_Terms hown hK hP 0 rfl rfl 0 (by decide) (hg _ wd_228) (fun _ h9 => h9) rfl d_Terms_areAlike_7 ?_
  refine lv_iload_n hx hb d_Terms_areAlike_10 rfl (lv_at hl 2 rfl) ?_
  obtain ⟨hi2, hok⟩ := ck_some hok
  refine va_iald hx hb hK hP 1 0 rfl rfl (ixb_in hi2) d_Terms_areAlike_11 ?_
  refine lv_icmp_ne hx hb d_Terms_areAlike_12 rfl (fun h3 => ?_) (fun h3 => ?_)
  · rw [if_neg h3] at hok
    refine lv_iconst (v := 0) hx hb d_Terms_areAlike_35 (by decide) ?_
    have hq := Option.some.inj hok
    have hq0 := hq
    subst hq0
    obtain ⟨hP9, hD9⟩ := sub2 (ws' := [(a, .inr (7, [.ref a_shapes, .ref a_values, .ref a_firstParts, .int a_nodes, .ref a_parts, .ref a_variableNames, .ref a_became, .int a_variables, .int a_variablesLack, .int a_symbols, .int a_nodesBefore, .int a_partsBefore, .int a_variablesBefore])), (a_shapes, .inl (cs 0, a_shapes_n, .inl a_shapes_f)), (a_values, .inl (cs 2, a_values_n, .inr (.inl a_values_f)))]) hP hD [0, 1, 2] rfl (by decide) rfl
    rw [hQ]
    exact W.zret (v := 0) hx hb hr rfl (fun t ht hW => ⟨⟨_, (), rfl, rfl, by rw [ht]; exact hP9, hD9⟩, hS.F ht⟩) hS.2.2 d_Terms_areAlike_36
  · rw [if_pos h3] at hok
    refine lv_aload_n hx hb d_Terms_areAlike_15 rfl (lv_at hl 0 rfl) ?_
    refine va_get (D := g) (ci := 7) (v := .ref a_values) (C := R_Terms) (T := F_Terms) (N := 13) hx hb hg ul_Terms hown hK hP 0 rfl rfl 1 (by decide) (hg _ wd_229) (fun _ h9 => h9) rfl d_Terms_areAlike_16 ?_
    refine lv_iload_n hx hb d_Terms_areAlike_19 rfl (lv_at hl 1 rfl) ?_
    obtain ⟨hi4, hok⟩ := ck_some hok
    refine va_lald hx hb hK hP 2 2 rfl rfl (ixb_in hi4) d_Terms_areAlike_20 ?_
    refine lv_aload_n hx hb d_Terms_areAlike_21 rfl (lv_at hl 0 rfl) ?_
    refine va_get (D := g) (ci := 7) (v := .ref a_values) (C := R_Terms) (T := F_Terms) (N := 13) hx hb hg ul_Terms hown hK hP 0 rfl rfl 1 (by decide) (hg _ wd_229) (fun _ h9 => h9) rfl d_Terms_areAlike_22 ?_
    refine lv_iload_n hx hb d_Terms_areAlike_25 rfl (lv_at hl 2 rfl) ?_
    obtain ⟨hi5, hok⟩ := ck_some hok
    refine va_lald hx hb hK hP 2 2 rfl rfl (ixb_in hi5) d_Terms_areAlike_26 ?_
    refine W.lcmp hx hb d_Terms_areAlike_27 ?_
    refine lv_if_ne hx hb d_Terms_areAlike_28 rfl (fun h6 => ?_) (fun h6 => ?_)
    · rw [if_neg h6] at hok
      refine lv_iconst (v := 0) hx hb d_Terms_areAlike_35 (by decide) ?_
      have hq := Option.some.inj hok
      have hq0 := hq
      subst hq0
      obtain ⟨hP9, hD9⟩ := sub2 (ws' := [(a, .inr (7, [.ref a_shapes, .ref a_values, .ref a_firstParts, .int a_nodes, .ref a_parts, .ref a_variableNames, .ref a_became, .int a_variables, .int a_variablesLack, .int a_symbols, .int a_nodesBefore, .int a_partsBefore, .int a_variablesBefore])), (a_shapes, .inl (cs 0, a_shapes_n, .inl a_shapes_f)), (a_values, .inl (cs 2, a_values_n, .inr (.inl a_values_f)))]) hP hD [0, 1, 2] rfl (by decide) rfl
      rw [hQ]
      exact W.zret (v := 0) hx hb hr rfl (fun t ht hW => ⟨⟨_, (), rfl, rfl, by rw [ht]; exact hP9, hD9⟩, hS.F ht⟩) hS.2.2 d_Terms_areAlike_36
    · rw [if_pos h6] at hok
      refine lv_iconst (v := 1) hx hb d_Terms_areAlike_31 (by decide) ?_
      refine lv_goto hx hb d_Terms_areAlike_32 rfl ?_
      have hq := Option.some.inj hok
      have hq0 := hq
      subst hq0
      obtain ⟨hP9, hD9⟩ := sub2 (ws' := [(a, .inr (7, [.ref a_shapes, .ref a_values, .ref a_firstParts, .int a_nodes, .ref a_parts, .ref a_variableNames, .ref a_became, .int a_variables, .int a_variablesLack, .int a_symbols, .int a_nodesBefore, .int a_partsBefore, .int a_variablesBefore])), (a_shapes, .inl (cs 0, a_shapes_n, .inl a_shapes_f)), (a_values, .inl (cs 2, a_values_n, .inr (.inl a_values_f)))]) hP hD [0, 1, 2] rfl (by decide) rfl
      rw [hQ]
      exact W.zret (v := 1) hx hb hr rfl (fun t ht hW => ⟨⟨_, (), rfl, rfl, by rw [ht]; exact hP9, hD9⟩, hS.F ht⟩) hS.2.2 d_Terms_areAlike_36

theorem d_Terms_number_0 : decode b_Terms_number 0 = .ok (.aload_n 0, 1) := by decide +kernel
theorem d_Terms_number_1 : decode b_Terms_number 1 = .ok (.getfield 13, 3) := by decide +kernel
theorem d_Terms_number_4 : decode b_Terms_number 4 = .ok (.iload_n 1, 1) := by decide +kernel
theorem d_Terms_number_5 : decode b_Terms_number 5 = .ok (.laload, 1) := by decide +kernel
theorem d_Terms_number_6 : decode b_Terms_number 6 = .ok (.lreturn, 1) := by decide +kernel
def p_Terms_number (node : Int32) (a_nodes : Int32) (a_variables : Int32) (a_variablesLack : Int32) (a_symbols : Int32) (a_nodesBefore : Int32) (a_partsBefore : Int32) (a_variablesBefore : Int32) (a_values_n : Nat) (a_values_f : Nat → Int64) : Option Int64 := ck (ixb node a_values_n) (some (a_values_f node.toNatClampNeg))
set_option maxHeartbeats 4000000 in
set_option maxRecDepth 100000 in
theorem c_Terms_number (l : Launch) (g : va_G) (cs : Nat → ClassId) (ka : Nat → Nat) (a_shapes : Nat) (a_firstParts : Nat) (a_parts : Nat) (a_variableNames : Nat) (a_became : Nat) (a a_values : Nat) (sz : Nat) (node : Int32) (a_nodes : Int32) (a_variables : Int32) (a_variablesLack : Int32) (a_symbols : Int32) (a_nodesBefore : Int32) (a_partsBefore : Int32) (a_variablesBefore : Int32) (a_values_n : Nat) (a_values_f : Nat → Int64) (r : Int64) (hok : p_Terms_number node a_nodes a_variables a_variablesLack a_symbols a_nodesBefore a_partsBefore a_variablesBefore a_values_n a_values_f = some r) : Met l y_Terms_number (.code y_Terms_number b_Terms_number 2 (some .long) :: GW) { frames := 0, cells := 0, slots := 0, locals := 0 } (va_Pc [.ref a, .int node] (gP g cs ka [(a, .inr (7, [.ref a_shapes, .ref a_values, .ref a_firstParts, .int a_nodes, .ref a_parts, .ref a_variableNames, .ref a_became, .int a_variables, .int a_variablesLack, .int a_symbols, .int a_nodesBefore, .int a_partsBefore, .int a_variablesBefore])), (a_values, .inl (cs 2, a_values_n, .inr (.inl a_values_f)))] sz)) (va_Ql (fun (r' : Int64) (_ : Unit) => r = r') (fun _ t => va_P g classes [(a, .inr (7, [.ref a_shapes, .ref a_values, .ref a_firstParts, .int a_nodes, .ref a_parts, .ref a_variableNames, .ref a_became, .int a_variables, .int a_variablesLack, .int a_symbols, .int a_nodesBefore, .int a_partsBefore, .int a_variablesBefore])), (a_values, .inl (cs 2, a_values_n, .inr (.inl a_values_f)))] t.heap ∧ va_D (va_A [(a, .inr (7, [.ref a_shapes, .ref a_values, .ref a_firstParts, .int a_nodes, .ref a_parts, .ref a_variableNames, .ref a_became, .int a_variables, .int a_variablesLack, .int a_symbols, .int a_nodesBefore, .int a_partsBefore, .int a_variablesBefore])), (a_values, .inl (cs 2, a_values_n, .inr (.inl a_values_f)))] sz) [(a, .inr (7, [.ref a_shapes, .ref a_values, .ref a_firstParts, .int a_nodes, .ref a_parts, .ref a_variableNames, .ref a_became, .int a_variables, .int a_variablesLack, .int a_symbols, .int a_nodesBefore, .int a_partsBefore, .int a_variablesBefore])), (a_values, .inl (cs 2, a_values_n, .inr (.inl a_values_f)))]) (va_A [(a, .inr (7, [.ref a_shapes, .ref a_values, .ref a_firstParts, .int a_nodes, .ref a_parts, .ref a_variableNames, .ref a_became, .int a_variables, .int a_variablesLack, .int a_symbols, .int a_nodesBefore, .int a_partsBefore, .int a_variablesBefore])), (a_values, .inl (cs 2, a_values_n, .inr (.inl a_values_f)))] sz)) 0 0 (va_A [(a, .inr (7, [.ref a_shapes, .ref a_values, .ref a_firstParts, .int a_nodes, .ref a_parts, .ref a_variableNames, .ref a_became, .int a_variables, .int a_variablesLack, .int a_symbols, .int a_nodesBefore, .int a_partsBefore, .int a_variablesBefore])), (a_values, .inl (cs 2, a_values_n, .inr (.inl a_values_f)))] sz) := by
  refine Met.ofW (cc := b_Terms_number) (maxL := 2) (ret := (some .long)) (by decide) rfl ?_
  intro p e s m args below meth c s₁ B hml hv
  obtain ⟨rfl, hsz, hP, hK, hD0, hgl, hkn, hkr⟩ := hv
  have hx := B.exec
  have hb := B.bytes
  have hr := B.returns
  have hg : ∀ w ∈ GW, w.before ([.ref a, .int node] : List Value).toArray s = true := fun w hw => atoms_spec (ws := .code y_Terms_number b_Terms_number 2 (some .long) :: GW) B.pre w (List.mem_cons_of_mem _ hw)
  have hown : s.vm.findClass R_Terms = some m.cls := findClass_of_methodNamed B.named
  have hlocks := B.notSynchronized
  subst hsz
  have hD := hD0.self (sz := s.heap.size)
  generalize hAe : va_A [(a, .inr (7, [.ref a_shapes, .ref a_values, .ref a_firstParts, .int a_nodes, .ref a_parts, .ref a_variableNames, .ref a_became, .int a_variables, .int a_variablesLack, .int a_symbols, .int a_nodesBefore, .int a_partsBefore, .int a_variablesBefore])), (a_values, .inl (cs 2, a_values_n, .inr (.inl a_values_f)))] s.heap.size = A at hD hkn ⊢
  have hA : ∀ q : Nat, s.heap.size ≤ q → A q := fun q h => by rw [← hAe]; exact Or.inr h
  have hS : va_S A s.heap s.heap [] := va_S.rf
  have hP : va_P g classes [(a, .inr (7, [.ref a_shapes, .ref a_values, .ref a_firstParts, .int a_nodes, .ref a_parts, .ref a_variableNames, .ref a_became, .int a_variables, .int a_variablesLack, .int a_symbols, .int a_nodesBefore, .int a_partsBefore, .int a_variablesBefore])), (a_values, .inl (cs 2, a_values_n, .inr (.inl a_values_f)))] s.heap := hP
  have hl := lv_entry ([.ref a, .int node]) (n := 2) (Nat.le_of_ble_eq_true rfl)
  rw [lg_entry_eq]
  generalize (lg_sl ([.ref a, .int node]) ++ List.replicate (2 - (lg_sl ([.ref a, .int node])).length) Slot.unset).toArray = ls at hl ⊢
  have hl : lv_has ls 2 [(0, .ref a), (1, .int node)] := hl
  refine gq (fun Q hQ => ?_)
  obtain ⟨H, hH⟩ : ∃ H : Heap, H = s.heap := ⟨_, rfl⟩
  rw [← hH] at hP
  have hS : va_S A s.heap H [] := by rw [hH]; exact hS
  refine W.eqH hH ?_
  obtain ⟨locs, hlc⟩ : ∃ L : List Loc, L = [] := ⟨_, rfl⟩
  rw [← hlc] at hS ⊢
  unfold p_Terms_number at hok
  refine lv_aload_n hx hb d_Terms_number_0 rfl (lv_at hl 0 rfl) ?_
  refine va_get (D := g) (ci := 7) (v := .ref a_values) (C := R_Terms) (T := F_Terms) (N := 13) hx hb hg ul_Terms hown hK hP 0 rfl rfl 1 (by decide) (hg _ wd_229) (fun _ h9 => h9) rfl d_Terms_number_1 ?_
  refine lv_iload_n hx hb d_Terms_number_4 rfl (lv_at hl 1 rfl) ?_
  obtain ⟨hi1, hok⟩ := ck_some hok
  refine va_lald hx hb hK hP 1 2 rfl rfl (ixb_in hi1) d_Terms_number_5 ?_
  have hq := Option.some.inj hok
  have hq0 := hq
  subst hq0
  obtain ⟨hP9, hD9⟩ := sub2 (ws' := [(a, .inr (7, [.ref a_shapes, .ref a_values, .ref a_firstParts, .int a_nodes, .ref a_parts, .ref a_variableNames, .ref a_became, .int a_variables, .int a_variablesLack, .int a_symbols, .int a_nodesBefore, .int a_partsBefore, .int a_variablesBefore])), (a_values, .inl (cs 2, a_values_n, .inr (.inl a_values_f)))]) hP hD [0, 1] rfl (by decide) rfl
  rw [hQ]
  exact W.lret (v := a_values_f node.toNatClampNeg) hx hb hr (fun t ht hW => ⟨⟨_, (), rfl, rfl, by rw [ht]; exact hP9, hD9⟩, hS.F ht⟩) hS.2.2 d_Terms_number_6

theorem d_Terms_name_0 : decode b_Terms_name 0 = .ok (.aload_n 0, 1) := by decide +kernel
theorem d_Terms_name_1 : decode b_Terms_name 1 = .ok (.getfield 13, 3) := by decide +kernel
theorem d_Terms_name_4 : decode b_Terms_name 4 = .ok (.iload_n 1, 1) := by decide +kernel
theorem d_Terms_name_5 : decode b_Terms_name 5 = .ok (.laload, 1) := by decide +kernel
theorem d_Terms_name_6 : decode b_Terms_name 6 = .ok (.l2i, 1) := by decide +kernel
theorem d_Terms_name_7 : decode b_Terms_name 7 = .ok (.ireturn, 1) := by decide +kernel
def p_Terms_name (node : Int32) (a_nodes : Int32) (a_variables : Int32) (a_variablesLack : Int32) (a_symbols : Int32) (a_nodesBefore : Int32) (a_partsBefore : Int32) (a_variablesBefore : Int32) (a_values_n : Nat) (a_values_f : Nat → Int64) : Option Int32 := ck (ixb node a_values_n) (some ((a_values_f node.toNatClampNeg).toInt32))
set_option maxHeartbeats 4000000 in
set_option maxRecDepth 100000 in
theorem c_Terms_name (l : Launch) (g : va_G) (cs : Nat → ClassId) (ka : Nat → Nat) (a_shapes : Nat) (a_firstParts : Nat) (a_parts : Nat) (a_variableNames : Nat) (a_became : Nat) (a a_values : Nat) (sz : Nat) (node : Int32) (a_nodes : Int32) (a_variables : Int32) (a_variablesLack : Int32) (a_symbols : Int32) (a_nodesBefore : Int32) (a_partsBefore : Int32) (a_variablesBefore : Int32) (a_values_n : Nat) (a_values_f : Nat → Int64) (r : Int32) (hok : p_Terms_name node a_nodes a_variables a_variablesLack a_symbols a_nodesBefore a_partsBefore a_variablesBefore a_values_n a_values_f = some r) : Met l y_Terms_name (.code y_Terms_name b_Terms_name 2 (some .int) :: GW) { frames := 0, cells := 0, slots := 0, locals := 0 } (va_Pc [.ref a, .int node] (gP g cs ka [(a, .inr (7, [.ref a_shapes, .ref a_values, .ref a_firstParts, .int a_nodes, .ref a_parts, .ref a_variableNames, .ref a_became, .int a_variables, .int a_variablesLack, .int a_symbols, .int a_nodesBefore, .int a_partsBefore, .int a_variablesBefore])), (a_values, .inl (cs 2, a_values_n, .inr (.inl a_values_f)))] sz)) (va_Qi (fun (r' : Int32) (_ : Unit) => r = r') (fun _ t => va_P g classes [(a, .inr (7, [.ref a_shapes, .ref a_values, .ref a_firstParts, .int a_nodes, .ref a_parts, .ref a_variableNames, .ref a_became, .int a_variables, .int a_variablesLack, .int a_symbols, .int a_nodesBefore, .int a_partsBefore, .int a_variablesBefore])), (a_values, .inl (cs 2, a_values_n, .inr (.inl a_values_f)))] t.heap ∧ va_D (va_A [(a, .inr (7, [.ref a_shapes, .ref a_values, .ref a_firstParts, .int a_nodes, .ref a_parts, .ref a_variableNames, .ref a_became, .int a_variables, .int a_variablesLack, .int a_symbols, .int a_nodesBefore, .int a_partsBefore, .int a_variablesBefore])), (a_values, .inl (cs 2, a_values_n, .inr (.inl a_values_f)))] sz) [(a, .inr (7, [.ref a_shapes, .ref a_values, .ref a_firstParts, .int a_nodes, .ref a_parts, .ref a_variableNames, .ref a_became, .int a_variables, .int a_variablesLack, .int a_symbols, .int a_nodesBefore, .int a_partsBefore, .int a_variablesBefore])), (a_values, .inl (cs 2, a_values_n, .inr (.inl a_values_f)))]) (va_A [(a, .inr (7, [.ref a_shapes, .ref a_values, .ref a_firstParts, .int a_nodes, .ref a_parts, .ref a_variableNames, .ref a_became, .int a_variables, .int a_variablesLack, .int a_symbols, .int a_nodesBefore, .int a_partsBefore, .int a_variablesBefore])), (a_values, .inl (cs 2, a_values_n, .inr (.inl a_values_f)))] sz)) 0 0 (va_A [(a, .inr (7, [.ref a_shapes, .ref a_values, .ref a_firstParts, .int a_nodes, .ref a_parts, .ref a_variableNames, .ref a_became, .int a_variables, .int a_variablesLack, .int a_symbols, .int a_nodesBefore, .int a_partsBefore, .int a_variablesBefore])), (a_values, .inl (cs 2, a_values_n, .inr (.inl a_values_f)))] sz) := by
  refine Met.ofW (cc := b_Terms_name) (maxL := 2) (ret := (some .int)) (by decide) rfl ?_
  intro p e s m args below meth c s₁ B hml hv
  obtain ⟨rfl, hsz, hP, hK, hD0, hgl, hkn, hkr⟩ := hv
  have hx := B.exec
  have hb := B.bytes
  have hr := B.returns
  have hg : ∀ w ∈ GW, w.before ([.ref a, .int node] : List Value).toArray s = true := fun w hw => atoms_spec (ws := .code y_Terms_name b_Terms_name 2 (some .int) :: GW) B.pre w (List.mem_cons_of_mem _ hw)
  have hown : s.vm.findClass R_Terms = some m.cls := findClass_of_methodNamed B.named
  have hlocks := B.notSynchronized
  subst hsz
  have hD := hD0.self (sz := s.heap.size)
  generalize hAe : va_A [(a, .inr (7, [.ref a_shapes, .ref a_values, .ref a_firstParts, .int a_nodes, .ref a_parts, .ref a_variableNames, .ref a_became, .int a_variables, .int a_variablesLack, .int a_symbols, .int a_nodesBefore, .int a_partsBefore, .int a_variablesBefore])), (a_values, .inl (cs 2, a_values_n, .inr (.inl a_values_f)))] s.heap.size = A at hD hkn ⊢
  have hA : ∀ q : Nat, s.heap.size ≤ q → A q := fun q h => by rw [← hAe]; exact Or.inr h
  have hS : va_S A s.heap s.heap [] := va_S.rf
  have hP : va_P g classes [(a, .inr (7, [.ref a_shapes, .ref a_values, .ref a_firstParts, .int a_nodes, .ref a_parts, .ref a_variableNames, .ref a_became, .int a_variables, .int a_variablesLack, .int a_symbols, .int a_nodesBefore, .int a_partsBefore, .int a_variablesBefore])), (a_values, .inl (cs 2, a_values_n, .inr (.inl a_values_f)))] s.heap := hP
  have hl := lv_entry ([.ref a, .int node]) (n := 2) (Nat.le_of_ble_eq_true rfl)
  rw [lg_entry_eq]
  generalize (lg_sl ([.ref a, .int node]) ++ List.replicate (2 - (lg_sl ([.ref a, .int node])).length) Slot.unset).toArray = ls at hl ⊢
  have hl : lv_has ls 2 [(0, .ref a), (1, .int node)] := hl
  refine gq (fun Q hQ => ?_)
  obtain ⟨H, hH⟩ : ∃ H : Heap, H = s.heap := ⟨_, rfl⟩
  rw [← hH] at hP
  have hS : va_S A s.heap H [] := by rw [hH]; exact hS
  refine W.eqH hH ?_
  obtain ⟨locs, hlc⟩ : ∃ L : List Loc, L = [] := ⟨_, rfl⟩
  rw [← hlc] at hS ⊢
  unfold p_Terms_name at hok
  refine lv_aload_n hx hb d_Terms_name_0 rfl (lv_at hl 0 rfl) ?_
  refine va_get (D := g) (ci := 7) (v := .ref a_values) (C := R_Terms) (T := F_Terms) (N := 13) hx hb hg ul_Terms hown hK hP 0 rfl rfl 1 (by decide) (hg _ wd_229) (fun _ h9 => h9) rfl d_Terms_name_1 ?_
  refine lv_iload_n hx hb d_Terms_name_4 rfl (lv_at hl 1 rfl) ?_
  obtain ⟨hi1, hok⟩ := ck_some hok
  refine va_lald hx hb hK hP 1 2 rfl rfl (ixb_in hi1) d_Terms_name_5 ?_
  refine lv_l2i hx hb d_Terms_name_6 rfl ?_
  have hq := Option.some.inj hok
  have hq0 := hq
  subst hq0
  obtain ⟨hP9, hD9⟩ := sub2 (ws' := [(a, .inr (7, [.ref a_shapes, .ref a_values, .ref a_firstParts, .int a_nodes, .ref a_parts, .ref a_variableNames, .ref a_became, .int a_variables, .int a_variablesLack, .int a_symbols, .int a_nodesBefore, .int a_partsBefore, .int a_variablesBefore])), (a_values, .inl (cs 2, a_values_n, .inr (.inl a_values_f)))]) hP hD [0, 1] rfl (by decide) rfl
  rw [hQ]
  exact W.iret (v := (a_values_f node.toNatClampNeg).toInt32) hx hb hr (fun t ht hW => ⟨⟨_, (), rfl, rfl, by rw [ht]; exact hP9, hD9⟩, hS.F ht⟩) hS.2.2 d_Terms_name_7

theorem d_Terms_partsOf_0 : decode b_Terms_partsOf 0 = .ok (.aload_n 0, 1) := by decide +kernel
theorem d_Terms_partsOf_1 : decode b_Terms_partsOf 1 = .ok (.getfield 9, 3) := by decide +kernel
theorem d_Terms_partsOf_4 : decode b_Terms_partsOf 4 = .ok (.iload_n 1, 1) := by decide +kernel
theorem d_Terms_partsOf_5 : decode b_Terms_partsOf 5 = .ok (.iaload, 1) := by decide +kernel
theorem d_Terms_partsOf_6 : decode b_Terms_partsOf 6 = .ok (.iconst 0, 1) := by decide +kernel
theorem d_Terms_partsOf_7 : decode b_Terms_partsOf 7 = .ok (.invokestatic 84, 3) := by decide +kernel
theorem d_Terms_partsOf_10 : decode b_Terms_partsOf 10 = .ok (.ireturn, 1) := by decide +kernel
def p_Terms_partsOf (node : Int32) (a_nodes : Int32) (a_variables : Int32) (a_variablesLack : Int32) (a_symbols : Int32) (a_nodesBefore : Int32) (a_partsBefore : Int32) (a_variablesBefore : Int32) (a_shapes_n : Nat) (a_shapes_f : Nat → Int32) : Option Int32 := ck (ixb node a_shapes_n) (some (if (a_shapes_f node.toNatClampNeg) < 0 then 0 else (a_shapes_f node.toNatClampNeg)))
set_option maxHeartbeats 4000000 in
set_option maxRecDepth 100000 in
theorem c_Terms_partsOf (l : Launch) (g : va_G) (cs : Nat → ClassId) (ka : Nat → Nat) (a_values : Nat) (a_firstParts : Nat) (a_parts : Nat) (a_variableNames : Nat) (a_became : Nat) (a a_shapes : Nat) (sz : Nat) (node : Int32) (a_nodes : Int32) (a_variables : Int32) (a_variablesLack : Int32) (a_symbols : Int32) (a_nodesBefore : Int32) (a_partsBefore : Int32) (a_variablesBefore : Int32) (a_shapes_n : Nat) (a_shapes_f : Nat → Int32) (r : Int32) (hok : p_Terms_partsOf node a_nodes a_variables a_variablesLack a_symbols a_nodesBefore a_partsBefore a_variablesBefore a_shapes_n a_shapes_f = some r) : Met l y_Terms_partsOf (.code y_Terms_partsOf b_Terms_partsOf 2 (some .int) :: GW) { frames := 1, cells := 0, slots := 0, locals := 13 } (va_Pc [.ref a, .int node] (gP g cs ka [(a, .inr (7, [.ref a_shapes, .ref a_values, .ref a_firstParts, .int a_nodes, .ref a_parts, .ref a_variableNames, .ref a_became, .int a_variables, .int a_variablesLack, .int a_symbols, .int a_nodesBefore, .int a_partsBefore, .int a_variablesBefore])), (a_shapes, .inl (cs 0, a_shapes_n, .inl a_shapes_f))] sz)) (va_Qi (fun (r' : Int32) (_ : Unit) => r = r') (fun _ t => va_P g classes [(a, .inr (7, [.ref a_shapes, .ref a_values, .ref a_firstParts, .int a_nodes, .ref a_parts, .ref a_variableNames, .ref a_became, .int a_variables, .int a_variablesLack, .int a_symbols, .int a_nodesBefore, .int a_partsBefore, .int a_variablesBefore])), (a_shapes, .inl (cs 0, a_shapes_n, .inl a_shapes_f))] t.heap ∧ va_D (va_A [(a, .inr (7, [.ref a_shapes, .ref a_values, .ref a_firstParts, .int a_nodes, .ref a_parts, .ref a_variableNames, .ref a_became, .int a_variables, .int a_variablesLack, .int a_symbols, .int a_nodesBefore, .int a_partsBefore, .int a_variablesBefore])), (a_shapes, .inl (cs 0, a_shapes_n, .inl a_shapes_f))] sz) [(a, .inr (7, [.ref a_shapes, .ref a_values, .ref a_firstParts, .int a_nodes, .ref a_parts, .ref a_variableNames, .ref a_became, .int a_variables, .int a_variablesLack, .int a_symbols, .int a_nodesBefore, .int a_partsBefore, .int a_variablesBefore])), (a_shapes, .inl (cs 0, a_shapes_n, .inl a_shapes_f))]) (va_A [(a, .inr (7, [.ref a_shapes, .ref a_values, .ref a_firstParts, .int a_nodes, .ref a_parts, .ref a_variableNames, .ref a_became, .int a_variables, .int a_variablesLack, .int a_symbols, .int a_nodesBefore, .int a_partsBefore, .int a_variablesBefore])), (a_shapes, .inl (cs 0, a_shapes_n, .inl a_shapes_f))] sz)) 0 0 (va_A [(a, .inr (7, [.ref a_shapes, .ref a_values, .ref a_firstParts, .int a_nodes, .ref a_parts, .ref a_variableNames, .ref a_became, .int a_variables, .int a_variablesLack, .int a_symbols, .int a_nodesBefore, .int a_partsBefore, .int a_variablesBefore])), (a_shapes, .inl (cs 0, a_shapes_n, .inl a_shapes_f))] sz) := by
  refine Met.ofW (cc := b_Terms_partsOf) (maxL := 2) (ret := (some .int)) (by decide) rfl ?_
  intro p e s m args below meth c s₁ B hml hv
  obtain ⟨rfl, hsz, hP, hK, hD0, hgl, hkn, hkr⟩ := hv
  have hx := B.exec
  have hb := B.bytes
  have hr := B.returns
  have hg : ∀ w ∈ GW, w.before ([.ref a, .int node] : List Value).toArray s = true := fun w hw => atoms_spec (ws := .code y_Terms_partsOf b_Terms_partsOf 2 (some .int) :: GW) B.pre w (List.mem_cons_of_mem _ hw)
  have hown : s.vm.findClass R_Terms = some m.cls := findClass_of_methodNamed B.named
  have hlocks := B.notSynchronized
  subst hsz
  have hD := hD0.self (sz := s.heap.size)
  generalize hAe : va_A [(a, .inr (7, [.ref a_shapes, .ref a_values, .ref a_firstParts, .int a_nodes, .ref a_parts, .ref a_variableNames, .ref a_became, .int a_variables, .int a_variablesLack, .int a_symbols, .int a_nodesBefore, .int a_partsBefore, .int a_variablesBefore])), (a_shapes, .inl (cs 0, a_shapes_n, .inl a_shapes_f))] s.heap.size = A at hD hkn ⊢
  have hA : ∀ q : Nat, s.heap.size ≤ q → A q := fun q h => by rw [← hAe]; exact Or.inr h
  have hS : va_S A s.heap s.heap [] := va_S.rf
  have hP : va_P g classes [(a, .inr (7, [.ref a_shapes, .ref a_values, .ref a_firstParts, .int a_nodes, .ref a_parts, .ref a_variableNames, .ref a_became, .int a_variables, .int a_variablesLack, .int a_symbols, .int a_nodesBefore, .int a_partsBefore, .int a_variablesBefore])), (a_shapes, .inl (cs 0, a_shapes_n, .inl a_shapes_f))] s.heap := hP
  have hl := lv_entry ([.ref a, .int node]) (n := 2) (Nat.le_of_ble_eq_true rfl)
  rw [lg_entry_eq]
  generalize (lg_sl ([.ref a, .int node]) ++ List.replicate (2 - (lg_sl ([.ref a, .int node])).length) Slot.unset).toArray = ls at hl ⊢
  have hl : lv_has ls 2 [(0, .ref a), (1, .int node)] := hl
  refine gq (fun Q hQ => ?_)
  obtain ⟨H, hH⟩ : ∃ H : Heap, H = s.heap := ⟨_, rfl⟩
  rw [← hH] at hP
  have hS : va_S A s.heap H [] := by rw [hH]; exact hS
  refine W.eqH hH ?_
  obtain ⟨locs, hlc⟩ : ∃ L : List Loc, L = [] := ⟨_, rfl⟩
  rw [← hlc] at hS ⊢
  unfold p_Terms_partsOf at hok
  refine lv_aload_n hx hb d_Terms_partsOf_0 rfl (lv_at hl 0 rfl) ?_
  refine va_get (D := g) (ci := 7) (v := .ref a_shapes) (C := R_Terms) (T := F_Terms) (N := 13) hx hb hg ul_Terms hown hK hP 0 rfl rfl 0 (by decide) (hg _ wd_228) (fun _ h9 => h9) rfl d_Terms_partsOf_1 ?_
  refine lv_iload_n hx hb d_Terms_partsOf_4 rfl (lv_at hl 1 rfl) ?_
  obtain ⟨hi1, hok⟩ := ck_some hok
  refine va_iald hx hb hK hP 1 0 rfl rfl (ixb_in hi1) d_Terms_partsOf_5 ?_
  refine lv_iconst (v := 0) hx hb d_Terms_partsOf_6 (by decide) ?_
  refine va_mmax hx hb (hml.trans hl.1.symm) hown (hg _ wd_276) (hg _ wd_188) (hg _ wd_145) (hg _ wd_189) (Nat.le_of_ble_eq_true rfl) (Nat.le_of_ble_eq_true rfl) (Nat.le_of_ble_eq_true rfl) (Nat.le_of_ble_eq_true rfl) d_Terms_partsOf_7 ?_
  have hq := Option.some.inj hok
  have hq0 := hq
  subst hq0
  obtain ⟨hP9, hD9⟩ := sub2 (ws' := [(a, .inr (7, [.ref a_shapes, .ref a_values, .ref a_firstParts, .int a_nodes, .ref a_parts, .ref a_variableNames, .ref a_became, .int a_variables, .int a_variablesLack, .int a_symbols, .int a_nodesBefore, .int a_partsBefore, .int a_variablesBefore])), (a_shapes, .inl (cs 0, a_shapes_n, .inl a_shapes_f))]) hP hD [0, 1] rfl (by decide) rfl
  rw [hQ]
  exact W.iret (v := (if (a_shapes_f node.toNatClampNeg) < 0 then 0 else (a_shapes_f node.toNatClampNeg))) hx hb hr (fun t ht hW => ⟨⟨_, (), rfl, rfl, by rw [ht]; exact hP9, hD9⟩, hS.F ht⟩) hS.2.2 d_Terms_partsOf_10

theorem d_Terms_partAt_0 : decode b_Terms_partAt 0 = .ok (.aload_n 0, 1) := by decide +kernel
theorem d_Terms_partAt_1 : decode b_Terms_partAt 1 = .ok (.getfield 27, 3) := by decide +kernel
theorem d_Terms_partAt_4 : decode b_Terms_partAt 4 = .ok (.aload_n 0, 1) := by decide +kernel
theorem d_Terms_partAt_5 : decode b_Terms_partAt 5 = .ok (.getfield 17, 3) := by decide +kernel
theorem d_Terms_partAt_8 : decode b_Terms_partAt 8 = .ok (.iload_n 1, 1) := by decide +kernel
theorem d_Terms_partAt_9 : decode b_Terms_partAt 9 = .ok (.iaload, 1) := by decide +kernel
theorem d_Terms_partAt_10 : decode b_Terms_partAt 10 = .ok (.iload_n 2, 1) := by decide +kernel
theorem d_Terms_partAt_11 : decode b_Terms_partAt 11 = .ok (.iadd, 1) := by decide +kernel
theorem d_Terms_partAt_12 : decode b_Terms_partAt 12 = .ok (.invokevirtual 77, 3) := by decide +kernel
theorem d_Terms_partAt_15 : decode b_Terms_partAt 15 = .ok (.ireturn, 1) := by decide +kernel
def p_Terms_partAt (node : Int32) (i : Int32) (a_nodes : Int32) (a_variables : Int32) (a_variablesLack : Int32) (a_symbols : Int32) (a_nodesBefore : Int32) (a_partsBefore : Int32) (a_variablesBefore : Int32) (a_firstParts_n : Nat) (a_firstParts_f : Nat → Int32) (a_parts_size : Int32) (a_parts_items_n : Nat) (a_parts_items_f : Nat → Int32) : Option Int32 := ck (ixb node a_firstParts_n) ((p_Ints_at ((a_firstParts_f node.toNatClampNeg) + i) a_parts_size a_parts_items_n a_parts_items_f).bind (fun r2 => some r2))
set_option maxHeartbeats 4000000 in
set_option maxRecDepth 100000 in
theorem c_Terms_partAt (l : Launch) (g : va_G) (cs : Nat → ClassId) (ka : Nat → Nat) (a_shapes : Nat) (a_values : Nat) (a_variableNames : Nat) (a_became : Nat) (a a_firstParts a_parts a_parts_items : Nat) (sz : Nat) (node : Int32) (i : Int32) (a_nodes : Int32) (a_variables : Int32) (a_variablesLack : Int32) (a_symbols : Int32) (a_nodesBefore : Int32) (a_partsBefore : Int32) (a_variablesBefore : Int32) (a_firstParts_n : Nat) (a_firstParts_f : Nat → Int32) (a_parts_size : Int32) (a_parts_items_n : Nat) (a_parts_items_f : Nat → Int32) (r : Int32) (hok : p_Terms_partAt node i a_nodes a_variables a_variablesLack a_symbols a_nodesBefore a_partsBefore a_variablesBefore a_firstParts_n a_firstParts_f a_parts_size a_parts_items_n a_parts_items_f = some r) : Met l y_Terms_partAt (.code y_Terms_partAt b_Terms_partAt 3 (some .int) :: GW) { frames := 1, cells := 0, slots := 0, locals := 21 } (va_Pc [.ref a, .int node, .int i] (gP g cs ka [(a, .inr (7, [.ref a_shapes, .ref a_values, .ref a_firstParts, .int a_nodes, .ref a_parts, .ref a_variableNames, .ref a_became, .int a_variables, .int a_variablesLack, .int a_symbols, .int a_nodesBefore, .int a_partsBefore, .int a_variablesBefore])), (a_firstParts, .inl (cs 0, a_firstParts_n, .inl a_firstParts_f)), (a_parts, .inr (1, [.ref a_parts_items, .int a_parts_size])), (a_parts_items, .inl (cs 0, a_parts_items_n, .inl a_parts_items_f))] sz)) (va_Qi (fun (r' : Int32) (_ : Unit) => r = r') (fun _ t => va_P g classes [(a, .inr (7, [.ref a_shapes, .ref a_values, .ref a_firstParts, .int a_nodes, .ref a_parts, .ref a_variableNames, .ref a_became, .int a_variables, .int a_variablesLack, .int a_symbols, .int a_nodesBefore, .int a_partsBefore, .int a_variablesBefore])), (a_firstParts, .inl (cs 0, a_firstParts_n, .inl a_firstParts_f)), (a_parts, .inr (1, [.ref a_parts_items, .int a_parts_size])), (a_parts_items, .inl (cs 0, a_parts_items_n, .inl a_parts_items_f))] t.heap ∧ va_D (va_A [(a, .inr (7, [.ref a_shapes, .ref a_values, .ref a_firstParts, .int a_nodes, .ref a_parts, .ref a_variableNames, .ref a_became, .int a_variables, .int a_variablesLack, .int a_symbols, .int a_nodesBefore, .int a_partsBefore, .int a_variablesBefore])), (a_firstParts, .inl (cs 0, a_firstParts_n, .inl a_firstParts_f)), (a_parts, .inr (1, [.ref a_parts_items, .int a_parts_size])), (a_parts_items, .inl (cs 0, a_parts_items_n, .inl a_parts_items_f))] sz) [(a, .inr (7, [.ref a_shapes, .ref a_values, .ref a_firstParts, .int a_nodes, .ref a_parts, .ref a_variableNames, .ref a_became, .int a_variables, .int a_variablesLack, .int a_symbols, .int a_nodesBefore, .int a_partsBefore, .int a_variablesBefore])), (a_firstParts, .inl (cs 0, a_firstParts_n, .inl a_firstParts_f)), (a_parts, .inr (1, [.ref a_parts_items, .int a_parts_size])), (a_parts_items, .inl (cs 0, a_parts_items_n, .inl a_parts_items_f))]) (va_A [(a, .inr (7, [.ref a_shapes, .ref a_values, .ref a_firstParts, .int a_nodes, .ref a_parts, .ref a_variableNames, .ref a_became, .int a_variables, .int a_variablesLack, .int a_symbols, .int a_nodesBefore, .int a_partsBefore, .int a_variablesBefore])), (a_firstParts, .inl (cs 0, a_firstParts_n, .inl a_firstParts_f)), (a_parts, .inr (1, [.ref a_parts_items, .int a_parts_size])), (a_parts_items, .inl (cs 0, a_parts_items_n, .inl a_parts_items_f))] sz)) 0 0 (va_A [(a, .inr (7, [.ref a_shapes, .ref a_values, .ref a_firstParts, .int a_nodes, .ref a_parts, .ref a_variableNames, .ref a_became, .int a_variables, .int a_variablesLack, .int a_symbols, .int a_nodesBefore, .int a_partsBefore, .int a_variablesBefore])), (a_firstParts, .inl (cs 0, a_firstParts_n, .inl a_firstParts_f)), (a_parts, .inr (1, [.ref a_parts_items, .int a_parts_size])), (a_parts_items, .inl (cs 0, a_parts_items_n, .inl a_parts_items_f))] sz) := by
  refine Met.ofW (cc := b_Terms_partAt) (maxL := 3) (ret := (some .int)) (by decide) rfl ?_
  intro p e s m args below meth c s₁ B hml hv
  obtain ⟨rfl, hsz, hP, hK, hD0, hgl, hkn, hkr⟩ := hv
  have hx := B.exec
  have hb := B.bytes
  have hr := B.returns
  have hg : ∀ w ∈ GW, w.before ([.ref a, .int node, .int i] : List Value).toArray s = true := fun w hw => atoms_spec (ws := .code y_Terms_partAt b_Terms_partAt 3 (some .int) :: GW) B.pre w (List.mem_cons_of_mem _ hw)
  have hown : s.vm.findClass R_Terms = some m.cls := findClass_of_methodNamed B.named
  have hlocks := B.notSynchronized
  subst hsz
  have hD := hD0.self (sz := s.heap.size)
  generalize hAe : va_A [(a, .inr (7, [.ref a_shapes, .ref a_values, .ref a_firstParts, .int a_nodes, .ref a_parts, .ref a_variableNames, .ref a_became, .int a_variables, .int a_variablesLack, .int a_symbols, .int a_nodesBefore, .int a_partsBefore, .int a_variablesBefore])), (a_firstParts, .inl (cs 0, a_firstParts_n, .inl a_firstParts_f)), (a_parts, .inr (1, [.ref a_parts_items, .int a_parts_size])), (a_parts_items, .inl (cs 0, a_parts_items_n, .inl a_parts_items_f))] s.heap.size = A at hD hkn ⊢
  have hA : ∀ q : Nat, s.heap.size ≤ q → A q := fun q h => by rw [← hAe]; exact Or.inr h
  have hS : va_S A s.heap s.heap [] := va_S.rf
  have hP : va_P g classes [(a, .inr (7, [.ref a_shapes, .ref a_values, .ref a_firstParts, .int a_nodes, .ref a_parts, .ref a_variableNames, .ref a_became, .int a_variables, .int a_variablesLack, .int a_symbols, .int a_nodesBefore, .int a_partsBefore, .int a_variablesBefore])), (a_firstParts, .inl (cs 0, a_firstParts_n, .inl a_firstParts_f)), (a_parts, .inr (1, [.ref a_parts_items, .int a_parts_size])), (a_parts_items, .inl (cs 0, a_parts_items_n, .inl a_parts_items_f))] s.heap := hP
  have hl := lv_entry ([.ref a, .int node, .int i]) (n := 3) (Nat.le_of_ble_eq_true rfl)
  rw [lg_entry_eq]
  generalize (lg_sl ([.ref a, .int node, .int i]) ++ List.replicate (3 - (lg_sl ([.ref a, .int node, .int i])).length) Slot.unset).toArray = ls at hl ⊢
  have hl : lv_has ls 3 [(0, .ref a), (1, .int node), (2, .int i)] := hl
  refine gq (fun Q hQ => ?_)
  obtain ⟨H, hH⟩ : ∃ H : Heap, H = s.heap := ⟨_, rfl⟩
  rw [← hH] at hP
  have hS : va_S A s.heap H [] := by rw [hH]; exact hS
  refine W.eqH hH ?_
  obtain ⟨locs, hlc⟩ : ∃ L : List Loc, L = [] := ⟨_, rfl⟩
  rw [← hlc] at hS ⊢
  unfold p_Terms_partAt at hok
  refine lv_aload_n hx hb d_Terms_partAt_0 rfl (lv_at hl 0 rfl) ?_
  refine va_get (D := g) (ci := 7) (v := .ref a_parts) (C := R_Terms) (T := F_Terms) (N := 13) hx hb hg ul_Terms hown hK hP 0 rfl rfl 4 (by decide) (hg _ wd_238) (fun _ h9 => h9) rfl d_Terms_partAt_1 ?_
  refine lv_aload_n hx hb d_Terms_partAt_4 rfl (lv_at hl 0 rfl) ?_
  refine va_get (D := g) (ci := 7) (v := .ref a_firstParts) (C := R_Terms) (T := F_Terms) (N := 13) hx hb hg ul_Terms hown hK hP 0 rfl rfl 2 (by decide) (hg _ wd_230) (fun _ h9 => h9) rfl d_Terms_partAt_5 ?_
  refine lv_iload_n hx hb d_Terms_partAt_8 rfl (lv_at hl 1 rfl) ?_
  obtain ⟨hi1, hok⟩ := ck_some hok
  refine va_iald hx hb hK hP 1 0 rfl rfl (ixb_in hi1) d_Terms_partAt_9 ?_
  refine lv_iload_n hx hb d_Terms_partAt_10 rfl (lv_at hl 2 rfl) ?_
  refine lv_iadd hx hb d_Terms_partAt_11 ?_
  obtain ⟨r2, hc2, hok⟩ := bd_some hok
  obtain ⟨hPc, hDc, hFc⟩ := cut0 (wc := [(a_parts, .inr (1, [.ref a_parts_items, .int a_parts_size])), (a_parts_items, .inl (cs 0, a_parts_items_n, .inl a_parts_items_f))]) hP hD hS hA [2, 3] (by decide) rfl
  refine va_calli (va_runV (As := [.int ((a_firstParts_f node.toNatClampNeg) + i)]) (rest := []) ⟨hx, hb, hml, hown, hg⟩ (c_Ints_at l g cs ka a_parts a_parts_items H.size ((a_firstParts_f node.toNatClampNeg) + i) a_parts_size a_parts_items_n a_parts_items_f r2 hc2) (cwV (C := R_Ints) 1 hg (gw_V wd_269 wd_270 wd_271 wd_234 wd_268) rfl rfl rfl (by decide +kernel) ⟨Nat.le_of_ble_eq_true rfl, Nat.le_of_ble_eq_true rfl⟩) ⟨gP_blind, va_recv (q0 := 2) (ci := 1) (q := (R_Ints, F_Ints, 2)) hK hP rfl rfl, gP_pre hPc hDc hK hgl hkn hkr hS hFc⟩ rfl rfl hl.1 rfl (lv_room (Nat.le_of_ble_eq_true rfl)) d_Terms_partAt_12 ⟨Nat.le_of_ble_eq_true rfl, Nat.le_of_ble_eq_true rfl⟩) hS (fun q _ h => hFc q h) hFc (fun r2' u t H locs ht hvm hr2 hB hz1 hk1 hS => ?_)
  subst hr2
  rw [ht] at hB
  obtain ⟨hP1, hD1⟩ := hB
  obtain ⟨hP, hD⟩ := jn_A hP hD [2, 3] [0, 1] rfl rfl (by decide) (by decide) hk1 hFc hP1 hD1
  obtain ⟨hP, hD⟩ : PD g A H [(a, .inr (7, [.ref a_shapes, .ref a_values, .ref a_firstParts, .int a_nodes, .ref a_parts, .ref a_variableNames, .ref a_became, .int a_variables, .int a_variablesLack, .int a_symbols, .int a_nodesBefore, .int a_partsBefore, .int a_variablesBefore])), (a_firstParts, .inl (cs 0, a_firstParts_n, .inl a_firstParts_f)), (a_parts, .inr (1, [.ref a_parts_items, .int a_parts_size])), (a_parts_items, .inl (cs 0, a_parts_items_n, .inl a_parts_items_f))] := ⟨hP, hD⟩
  have hq := Option.some.inj hok
  have hq0 := hq
  subst hq0
  obtain ⟨hP9, hD9⟩ := sub2 (ws' := [(a, .inr (7, [.ref a_shapes, .ref a_values, .ref a_firstParts, .int a_nodes, .ref a_parts, .ref a_variableNames, .ref a_became, .int a_variables, .int a_variablesLack, .int a_symbols, .int a_nodesBefore, .int a_partsBefore, .int a_variablesBefore])), (a_firstParts, .inl (cs 0, a_firstParts_n, .inl a_firstParts_f)), (a_parts, .inr (1, [.ref a_parts_items, .int a_parts_size])), (a_parts_items, .inl (cs 0, a_parts_items_n, .inl a_parts_items_f))]) hP hD [0, 1, 2, 3] rfl (by decide) rfl
  rw [hQ]
  exact W.iret (v := r2) hx hb hr (fun t ht hW => ⟨⟨_, (), rfl, rfl, by rw [ht]; exact hP9, hD9⟩, hS.F ht⟩) hS.2.2 d_Terms_partAt_15

theorem d_Terms_meant_0 : decode b_Terms_meant 0 = .ok (.iload_n 1, 1) := by decide +kernel
theorem d_Terms_meant_1 : decode b_Terms_meant 1 = .ok (.istore_n 2, 1) := by decide +kernel
theorem d_Terms_meant_2 : decode b_Terms_meant 2 = .ok (.iconst 0, 1) := by decide +kernel
theorem d_Terms_meant_3 : decode b_Terms_meant 3 = .ok (.istore_n 3, 1) := by decide +kernel
theorem d_Terms_meant_4 : decode b_Terms_meant 4 = .ok (.iload_n 3, 1) := by decide +kernel
theorem d_Terms_meant_5 : decode b_Terms_meant 5 = .ok (.sipush 200, 3) := by decide +kernel
theorem d_Terms_meant_8 : decode b_Terms_meant 8 = .ok (.if_icmp .ge 33, 3) := by decide +kernel
theorem d_Terms_meant_11 : decode b_Terms_meant 11 = .ok (.iload_n 2, 1) := by decide +kernel
theorem d_Terms_meant_12 : decode b_Terms_meant 12 = .ok (.sipush 200, 3) := by decide +kernel
theorem d_Terms_meant_15 : decode b_Terms_meant 15 = .ok (.if_icmp .ge 26, 3) := by decide +kernel
theorem d_Terms_meant_18 : decode b_Terms_meant 18 = .ok (.aload_n 0, 1) := by decide +kernel
theorem d_Terms_meant_19 : decode b_Terms_meant 19 = .ok (.getfield 34, 3) := by decide +kernel
theorem d_Terms_meant_22 : decode b_Terms_meant 22 = .ok (.iload_n 2, 1) := by decide +kernel
theorem d_Terms_meant_23 : decode b_Terms_meant 23 = .ok (.iaload, 1) := by decide +kernel
theorem d_Terms_meant_24 : decode b_Terms_meant 24 = .ok (.iconst (-1), 1) := by decide +kernel
theorem d_Terms_meant_25 : decode b_Terms_meant 25 = .ok (.if_icmp .eq 16, 3) := by decide +kernel
theorem d_Terms_meant_28 : decode b_Terms_meant 28 = .ok (.aload_n 0, 1) := by decide +kernel
theorem d_Terms_meant_29 : decode b_Terms_meant 29 = .ok (.getfield 34, 3) := by decide +kernel
theorem d_Terms_meant_32 : decode b_Terms_meant 32 = .ok (.iload_n 2, 1) := by decide +kernel
theorem d_Terms_meant_33 : decode b_Terms_meant 33 = .ok (.iaload, 1) := by decide +kernel
theorem d_Terms_meant_34 : decode b_Terms_meant 34 = .ok (.istore_n 2, 1) := by decide +kernel
theorem d_Terms_meant_35 : decode b_Terms_meant 35 = .ok (.iinc 3 1, 3) := by decide +kernel
theorem d_Terms_meant_38 : decode b_Terms_meant 38 = .ok (.goto (-34), 3) := by decide +kernel
theorem d_Terms_meant_41 : decode b_Terms_meant 41 = .ok (.iload_n 2, 1) := by decide +kernel
theorem d_Terms_meant_42 : decode b_Terms_meant 42 = .ok (.ireturn, 1) := by decide +kernel
def p_Terms_meant_4 (n : Nat) (a_became_n : Nat) (a_became_f : Nat → Int32) (kf1 : Nat) (x3_1 : Int32) (x2_1 : Int32) : Option Int32 := match kf1 with
  | 0 => none
  | kf1 + 1 => if 200 ≤ x3_1 then (some x2_1) else (if 200 ≤ x2_1 then (some x2_1) else (ck (ixb x2_1 a_became_n) (if (a_became_f x2_1.toNatClampNeg) = (-1) then (some x2_1) else (ck (ixb x2_1 a_became_n) (p_Terms_meant_4 n a_became_n a_became_f kf1 (x3_1 + 1) (a_became_f x2_1.toNatClampNeg))))))
def p_Terms_meant (n : Nat) (node : Int32) (a_nodes : Int32) (a_variables : Int32) (a_variablesLack : Int32) (a_symbols : Int32) (a_nodesBefore : Int32) (a_partsBefore : Int32) (a_variablesBefore : Int32) (a_became_n : Nat) (a_became_f : Nat → Int32) : Option Int32 := p_Terms_meant_4 n a_became_n a_became_f n (0 : Int32) node
set_option maxHeartbeats 4000000 in
set_option maxRecDepth 100000 in
theorem c_Terms_meant (l : Launch) (g : va_G) (cs : Nat → ClassId) (ka : Nat → Nat) (a_shapes : Nat) (a_values : Nat) (a_firstParts : Nat) (a_parts : Nat) (a_variableNames : Nat) (a a_became : Nat) (sz : Nat) (n : Nat) (node : Int32) (a_nodes : Int32) (a_variables : Int32) (a_variablesLack : Int32) (a_symbols : Int32) (a_nodesBefore : Int32) (a_partsBefore : Int32) (a_variablesBefore : Int32) (a_became_n : Nat) (a_became_f : Nat → Int32) (r : Int32) (hok : p_Terms_meant n node a_nodes a_variables a_variablesLack a_symbols a_nodesBefore a_partsBefore a_variablesBefore a_became_n a_became_f = some r) : Met l y_Terms_meant (.code y_Terms_meant b_Terms_meant 4 (some .int) :: GW) { frames := 0, cells := 0, slots := 0, locals := 0 } (va_Pc [.ref a, .int node] (gP g cs ka [(a, .inr (7, [.ref a_shapes, .ref a_values, .ref a_firstParts, .int a_nodes, .ref a_parts, .ref a_variableNames, .ref a_became, .int a_variables, .int a_variablesLack, .int a_symbols, .int a_nodesBefore, .int a_partsBefore, .int a_variablesBefore])), (a_became, .inl (cs 0, a_became_n, .inl a_became_f))] sz)) (va_Qi (fun (r' : Int32) (_ : Unit) => r = r') (fun _ t => va_P g classes [(a, .inr (7, [.ref a_shapes, .ref a_values, .ref a_firstParts, .int a_nodes, .ref a_parts, .ref a_variableNames, .ref a_became, .int a_variables, .int a_variablesLack, .int a_symbols, .int a_nodesBefore, .int a_partsBefore, .int a_variablesBefore])), (a_became, .inl (cs 0, a_became_n, .inl a_became_f))] t.heap ∧ va_D (va_A [(a, .inr (7, [.ref a_shapes, .ref a_values, .ref a_firstParts, .int a_nodes, .ref a_parts, .ref a_variableNames, .ref a_became, .int a_variables, .int a_variablesLack, .int a_symbols, .int a_nodesBefore, .int a_partsBefore, .int a_variablesBefore])), (a_became, .inl (cs 0, a_became_n, .inl a_became_f))] sz) [(a, .inr (7, [.ref a_shapes, .ref a_values, .ref a_firstParts, .int a_nodes, .ref a_parts, .ref a_variableNames, .ref a_became, .int a_variables, .int a_variablesLack, .int a_symbols, .int a_nodesBefore, .int a_partsBefore, .int a_variablesBefore])), (a_became, .inl (cs 0, a_became_n, .inl a_became_f))]) (va_A [(a, .inr (7, [.ref a_shapes, .ref a_values, .ref a_firstParts, .int a_nodes, .ref a_parts, .ref a_variableNames, .ref a_became, .int a_variables, .int a_variablesLack, .int a_symbols, .int a_nodesBefore, .int a_partsBefore, .int a_variablesBefore])), (a_became, .inl (cs 0, a_became_n, .inl a_became_f))] sz)) 0 0 (va_A [(a, .inr (7, [.ref a_shapes, .ref a_values, .ref a_firstParts, .int a_nodes, .ref a_parts, .ref a_variableNames, .ref a_became, .int a_variables, .int a_variablesLack, .int a_symbols, .int a_nodesBefore, .int a_partsBefore, .int a_variablesBefore])), (a_became, .inl (cs 0, a_became_n, .inl a_became_f))] sz) := by
  refine Met.ofW (cc := b_Terms_meant) (maxL := 4) (ret := (some .int)) (by decide) rfl ?_
  intro p e s m args below meth c s₁ B hml hv
  obtain ⟨rfl, hsz, hP, hK, hD0, hgl, hkn, hkr⟩ := hv
  have hx := B.exec
  have hb := B.bytes
  have hr := B.returns
  have hg : ∀ w ∈ GW, w.before ([.ref a, .int node] : List Value).toArray s = true := fun w hw => atoms_spec (ws := .code y_Terms_meant b_Terms_meant 4 (some .int) :: GW) B.pre w (List.mem_cons_of_mem _ hw)
  have hown : s.vm.findClass R_Terms = some m.cls := findClass_of_methodNamed B.named
  have hlocks := B.notSynchronized
  subst hsz
  have hD := hD0.self (sz := s.heap.size)
  generalize hAe : va_A [(a, .inr (7, [.ref a_shapes, .ref a_values, .ref a_firstParts, .int a_nodes, .ref a_parts, .ref a_variableNames, .ref a_became, .int a_variables, .int a_variablesLack, .int a_symbols, .int a_nodesBefore, .int a_partsBefore, .int a_variablesBefore])), (a_became, .inl (cs 0, a_became_n, .inl a_became_f))] s.heap.size = A at hD hkn ⊢
  have hA : ∀ q : Nat, s.heap.size ≤ q → A q := fun q h => by rw [← hAe]; exact Or.inr h
  have hS : va_S A s.heap s.heap [] := va_S.rf
  have hP : va_P g classes [(a, .inr (7, [.ref a_shapes, .ref a_values, .ref a_firstParts, .int a_nodes, .ref a_parts, .ref a_variableNames, .ref a_became, .int a_variables, .int a_variablesLack, .int a_symbols, .int a_nodesBefore, .int a_partsBefore, .int a_variablesBefore])), (a_became, .inl (cs 0, a_became_n, .inl a_became_f))] s.heap := hP
  have hl := lv_entry ([.ref a, .int node]) (n := 4) (Nat.le_of_ble_eq_true rfl)
  rw [lg_entry_eq]
  generalize (lg_sl ([.ref a, .int node]) ++ List.replicate (4 - (lg_sl ([.ref a, .int node])).length) Slot.unset).toArray = ls at hl ⊢
  have hl : lv_has ls 4 [(0, .ref a), (1, .int node)] := hl
  refine gq (fun Q hQ => ?_)
  obtain ⟨H, hH⟩ : ∃ H : Heap, H = s.heap := ⟨_, rfl⟩
  rw [← hH] at hP
  have hS : va_S A s.heap H [] := by rw [hH]; exact hS
  refine W.eqH hH ?_
  obtain ⟨locs, hlc⟩ : ∃ L : List Loc, L = [] := ⟨_, rfl⟩
  rw [← hlc] at hS ⊢
  unfold p_Terms_meant at hok
  refine lv_iload_n hx hb d_Terms_meant_0 rfl (lv_at hl 1 rfl) ?_
  refine lv_istore_n hx hb d_Terms_meant_1 rfl hl (by decide) rfl (fun ls hl => ?_)
  have hl : lv_has ls 4 [(2, .int node), (0, .ref a), (1, .int node)] := hl
  refine lv_iconst (v := 0) hx hb d_Terms_meant_2 (by decide) ?_
  refine lv_istore_n hx hb d_Terms_meant_3 rfl hl (by decide) rfl (fun ls hl => ?_)
  have hl : lv_has ls 4 [(3, .int 0), (2, .int node), (0, .ref a), (1, .int node)] := hl
  have J1 : ∀ (kf1 : Nat) (H : Heap) (locs : List Loc) (ls : Array Slot) (x3_1 : Int32) (x2_1 : Int32), lv_has ls 4 [(3, .int x3_1), (2, .int x2_1), (0, .ref a), (1, .int node)] → PD g A H [(a, .inr (7, [.ref a_shapes, .ref a_values, .ref a_firstParts, .int a_nodes, .ref a_parts, .ref a_variableNames, .ref a_became, .int a_variables, .int a_variablesLack, .int a_symbols, .int a_nodesBefore, .int a_partsBefore, .int a_variablesBefore])), (a_became, .inl (cs 0, a_became_n, .inl a_became_f))] → va_S A s.heap H locs → p_Terms_meant_4 n a_became_n a_became_f kf1 x3_1 x2_1 = some r → W p l e (headSpec (.code y_Terms_meant b_Terms_meant 4 (some .int) :: GW) { frames := 0, cells := 0, slots := 0, locals := 0 }).room s m ([.ref a, .int node] : List Value).toArray below meth c H locs 0 0 Q (F0 m 4 ls []) := by
    intro kf1
    induction kf1 with
    | zero => intro H locs ls x3_1 x2_1 hl ⟨hP, hD⟩ hS hok; rw [p_Terms_meant_4] at hok; cases hok
    | succ kf1 ih1 =>
      intro H locs ls x3_1 x2_1 hl ⟨hP, hD⟩ hS hok
      rw [p_Terms_meant_4] at hok
      refine lv_iload_n hx hb d_Terms_meant_4 rfl (lv_at hl 0 rfl) ?_
      refine lv_sipush (v := 200) hx hb d_Terms_meant_5 (by decide) ?_
      refine lv_icmp_ge hx hb d_Terms_meant_8 rfl (fun h2 => ?_) (fun h2 => ?_)
      · rw [if_pos h2] at hok
        refine lv_iload_n hx hb d_Terms_meant_41 rfl (lv_at hl 1 rfl) ?_
        have hq := Option.some.inj hok
        have hq0 := hq
        subst hq0
        obtain ⟨hP9, hD9⟩ := sub2 (ws' := [(a, .inr (7, [.ref a_shapes, .ref a_values, .ref a_firstParts, .int a_nodes, .ref a_parts, .ref a_variableNames, .ref a_became, .int a_variables, .int a_variablesLack, .int a_symbols, .int a_nodesBefore, .int a_partsBefore, .int a_variablesBefore])), (a_became, .inl (cs 0, a_became_n, .inl a_became_f))]) hP hD [0, 1] rfl (by decide) rfl
        rw [hQ]
        exact W.iret (v := x2_1) hx hb hr (fun t ht hW => ⟨⟨_, (), rfl, rfl, by rw [ht]; exact hP9, hD9⟩, hS.F ht⟩) hS.2.2 d_Terms_meant_42
      · rw [if_neg h2] at hok
        refine lv_iload_n hx hb d_Terms_meant_11 rfl (lv_at hl 1 rfl) ?_
        refine lv_sipush (v := 200) hx hb d_Terms_meant_12 (by decide) ?_
        refine lv_icmp_ge hx hb d_Terms_meant_15 rfl (fun h3 => ?_) (fun h3 => ?_)
        · rw [if_pos h3] at hok
          refine lv_iload_n hx hb d_Terms_meant_41 rfl (lv_at hl 1 rfl) ?_
          have hq := Option.some.inj hok
          have hq0 := hq
          subst hq0
          obtain ⟨hP9, hD9⟩ := sub2 (ws' := [(a, .inr (7, [.ref a_shapes, .ref a_values, .ref a_firstParts, .int a_nodes, .ref a_parts, .ref a_variableNames, .ref a_became, .int a_variables, .int a_variablesLack, .int a_symbols, .int a_nodesBefore, .int a_partsBefore, .int a_variablesBefore])), (a_became, .inl (cs 0, a_became_n, .inl a_became_f))]) hP hD [0, 1] rfl (by decide) rfl
          rw [hQ]
          exact W.iret (v := x2_1) hx hb hr (fun t ht hW => ⟨⟨_, (), rfl, rfl, by rw [ht]; exact hP9, hD9⟩, hS.F ht⟩) hS.2.2 d_Terms_meant_42
        · rw [if_neg h3] at hok
          refine lv_aload_n hx hb d_Terms_meant_18 rfl (lv_at hl 2 rfl) ?_
          refine va_get (D := g) (ci := 7) (v := .ref a_became) (C := R_Terms) (T := F_Terms) (N := 13) hx hb hg ul_Terms hown hK hP 0 rfl rfl 6 (by decide) (hg _ wd_240) (fun _ h9 => h9) rfl d_Terms_meant_19 ?_
          refine lv_iload_n hx hb d_Terms_meant_22 rfl (lv_at hl 1 rfl) ?_
          obtain ⟨hi4, hok⟩ := ck_some hok
          refine va_iald hx hb hK hP 1 0 rfl rfl (ixb_in hi4) d_Terms_meant_23 ?_
          refine lv_iconst (v := (-1)) hx hb d_Terms_meant_24 (by decide) ?_
          refine lv_icmp_eq hx hb d_Terms_meant_25 rfl (fun h5 => ?_) (fun h5 => ?_)
          · rw [if_pos h5] at hok
            refine lv_iload_n hx hb d_Terms_meant_41 rfl (lv_at hl 1 rfl) ?_
            have hq := Option.some.inj hok
            have hq0 := hq
            subst hq0
            obtain ⟨hP9, hD9⟩ := sub2 (ws' := [(a, .inr (7, [.ref a_shapes, .ref a_values, .ref a_firstParts, .int a_nodes, .ref a_parts, .ref a_variableNames, .ref a_became, .int a_variables, .int a_variablesLack, .int a_symbols, .int a_nodesBefore, .int a_partsBefore, .int a_variablesBefore])), (a_became, .inl (cs 0, a_became_n, .inl a_became_f))]) hP hD [0, 1] rfl (by decide) rfl
            rw [hQ]
            exact W.iret (v := x2_1) hx hb hr (fun t ht hW => ⟨⟨_, (), rfl, rfl, by rw [ht]; exact hP9, hD9⟩, hS.F ht⟩) hS.2.2 d_Terms_meant_42
          · rw [if_neg h5] at hok
            refine lv_aload_n hx hb d_Terms_meant_28 rfl (lv_at hl 2 rfl) ?_
            refine va_get (D := g) (ci := 7) (v := .ref a_became) (C := R_Terms) (T := F_Terms) (N := 13) hx hb hg ul_Terms hown hK hP 0 rfl rfl 6 (by decide) (hg _ wd_240) (fun _ h9 => h9) rfl d_Terms_meant_29 ?_
            refine lv_iload_n hx hb d_Terms_meant_32 rfl (lv_at hl 1 rfl) ?_
            obtain ⟨hi6, hok⟩ := ck_some hok
            refine va_iald hx hb hK hP 1 0 rfl rfl (ixb_in hi6) d_Terms_meant_33 ?_
            refine lv_istore_n hx hb d_Terms_meant_34 rfl hl (by decide) rfl (fun ls hl => ?_)
            have hl : lv_has ls 4 [(2, .int (a_became_f x2_1.toNatClampNeg)), (3, .int x3_1), (0, .ref a), (1, .int node)] := hl
            refine lv_iinc (k := 1) (v := x3_1 + 1) hx hb d_Terms_meant_35 hl rfl rfl (by decide) rfl (fun ls hl => ?_)
            have hl : lv_has ls 4 [(3, .int (x3_1 + 1)), (2, .int (a_became_f x2_1.toNatClampNeg)), (0, .ref a), (1, .int node)] := hl
            refine lv_goto hx hb d_Terms_meant_38 rfl ?_
            exact ih1 _ _ _ (x3_1 + 1) (a_became_f x2_1.toNatClampNeg) (lv_sub hl [0, 1, 2, 3] rfl) (sub3 hP hD [0, 1] (by decide)) hS hok
  exact J1 n H locs ls (0 : Int32) node hl ⟨hP, hD⟩ hS hok

theorem d_Terms_bind_0 : decode b_Terms_bind 0 = .ok (.aload_n 0, 1) := by decide +kernel
theorem d_Terms_bind_1 : decode b_Terms_bind 1 = .ok (.getfield 34, 3) := by decide +kernel
theorem d_Terms_bind_4 : decode b_Terms_bind 4 = .ok (.iload_n 1, 1) := by decide +kernel
theorem d_Terms_bind_5 : decode b_Terms_bind 5 = .ok (.iload_n 2, 1) := by decide +kernel
theorem d_Terms_bind_6 : decode b_Terms_bind 6 = .ok (.iastore, 1) := by decide +kernel
theorem d_Terms_bind_7 : decode b_Terms_bind 7 = .ok (.return_, 1) := by decide +kernel
def p_Terms_bind (vr : Int32) (node : Int32) (a_nodes : Int32) (a_variables : Int32) (a_variablesLack : Int32) (a_symbols : Int32) (a_nodesBefore : Int32) (a_partsBefore : Int32) (a_variablesBefore : Int32) (a_became_n : Nat) (a_became_f : Nat → Int32) : Option (Nat → Int32) := ck (ixb vr a_became_n) (some (upd a_became_f vr.toNatClampNeg node))
set_option maxHeartbeats 4000000 in
set_option maxRecDepth 100000 in
theorem c_Terms_bind (l : Launch) (g : va_G) (cs : Nat → ClassId) (ka : Nat → Nat) (a_shapes : Nat) (a_values : Nat) (a_firstParts : Nat) (a_parts : Nat) (a_variableNames : Nat) (a a_became : Nat) (sz : Nat) (vr : Int32) (node : Int32) (a_nodes : Int32) (a_variables : Int32) (a_variablesLack : Int32) (a_symbols : Int32) (a_nodesBefore : Int32) (a_partsBefore : Int32) (a_variablesBefore : Int32) (a_became_n : Nat) (a_became_f : Nat → Int32) (o_a_became_f : Nat → Int32) (hok : p_Terms_bind vr node a_nodes a_variables a_variablesLack a_symbols a_nodesBefore a_partsBefore a_variablesBefore a_became_n a_became_f = some o_a_became_f) : Met l y_Terms_bind (.code y_Terms_bind b_Terms_bind 3 none :: GW) { frames := 0, cells := 0, slots := 0, locals := 0 } (va_Pc [.ref a, .int vr, .int node] (gP g cs ka [(a, .inr (7, [.ref a_shapes, .ref a_values, .ref a_firstParts, .int a_nodes, .ref a_parts, .ref a_variableNames, .ref a_became, .int a_variables, .int a_variablesLack, .int a_symbols, .int a_nodesBefore, .int a_partsBefore, .int a_variablesBefore])), (a_became, .inl (cs 0, a_became_n, .inl a_became_f))] sz)) (va_Qv (fun _ : Unit => True) (fun _ t => va_P g classes [(a, .inr (7, [.ref a_shapes, .ref a_values, .ref a_firstParts, .int a_nodes, .ref a_parts, .ref a_variableNames, .ref a_became, .int a_variables, .int a_variablesLack, .int a_symbols, .int a_nodesBefore, .int a_partsBefore, .int a_variablesBefore])), (a_became, .inl (cs 0, a_became_n, .inl o_a_became_f))] t.heap ∧ va_D (va_A [(a, .inr (7, [.ref a_shapes, .ref a_values, .ref a_firstParts, .int a_nodes, .ref a_parts, .ref a_variableNames, .ref a_became, .int a_variables, .int a_variablesLack, .int a_symbols, .int a_nodesBefore, .int a_partsBefore, .int a_variablesBefore])), (a_became, .inl (cs 0, a_became_n, .inl a_became_f))] sz) [(a, .inr (7, [.ref a_shapes, .ref a_values, .ref a_firstParts, .int a_nodes, .ref a_parts, .ref a_variableNames, .ref a_became, .int a_variables, .int a_variablesLack, .int a_symbols, .int a_nodesBefore, .int a_partsBefore, .int a_variablesBefore])), (a_became, .inl (cs 0, a_became_n, .inl o_a_became_f))]) (va_A [(a, .inr (7, [.ref a_shapes, .ref a_values, .ref a_firstParts, .int a_nodes, .ref a_parts, .ref a_variableNames, .ref a_became, .int a_variables, .int a_variablesLack, .int a_symbols, .int a_nodesBefore, .int a_partsBefore, .int a_variablesBefore])), (a_became, .inl (cs 0, a_became_n, .inl a_became_f))] sz)) 0 0 (va_A [(a, .inr (7, [.ref a_shapes, .ref a_values, .ref a_firstParts, .int a_nodes, .ref a_parts, .ref a_variableNames, .ref a_became, .int a_variables, .int a_variablesLack, .int a_symbols, .int a_nodesBefore, .int a_partsBefore, .int a_variablesBefore])), (a_became, .inl (cs 0, a_became_n, .inl a_became_f))] sz) := by
  refine Met.ofW (cc := b_Terms_bind) (maxL := 3) (ret := none) (by decide) rfl ?_
  intro p e s m args below meth c s₁ B hml hv
  obtain ⟨rfl, hsz, hP, hK, hD0, hgl, hkn, hkr⟩ := hv
  have hx := B.exec
  have hb := B.bytes
  have hr := B.returns
  have hg : ∀ w ∈ GW, w.before ([.ref a, .int vr, .int node] : List Value).toArray s = true := fun w hw => atoms_spec (ws := .code y_Terms_bind b_Terms_bind 3 none :: GW) B.pre w (List.mem_cons_of_mem _ hw)
  have hown : s.vm.findClass R_Terms = some m.cls := findClass_of_methodNamed B.named
  have hlocks := B.notSynchronized
  subst hsz
  have hD := hD0.self (sz := s.heap.size)
  generalize hAe : va_A [(a, .inr (7, [.ref a_shapes, .ref a_values, .ref a_firstParts, .int a_nodes, .ref a_parts, .ref a_variableNames, .ref a_became, .int a_variables, .int a_variablesLack, .int a_symbols, .int a_nodesBefore, .int a_partsBefore, .int a_variablesBefore])), (a_became, .inl (cs 0, a_became_n, .inl a_became_f))] s.heap.size = A at hD hkn ⊢
  have hA : ∀ q : Nat, s.heap.size ≤ q → A q := fun q h => by rw [← hAe]; exact Or.inr h
  have hS : va_S A s.heap s.heap [] := va_S.rf
  have hP : va_P g classes [(a, .inr (7, [.ref a_shapes, .ref a_values, .ref a_firstParts, .int a_nodes, .ref a_parts, .ref a_variableNames, .ref a_became, .int a_variables, .int a_variablesLack, .int a_symbols, .int a_nodesBefore, .int a_partsBefore, .int a_variablesBefore])), (a_became, .inl (cs 0, a_became_n, .inl a_became_f))] s.heap := hP
  have hl := lv_entry ([.ref a, .int vr, .int node]) (n := 3) (Nat.le_of_ble_eq_true rfl)
  rw [lg_entry_eq]
  generalize (lg_sl ([.ref a, .int vr, .int node]) ++ List.replicate (3 - (lg_sl ([.ref a, .int vr, .int node])).length) Slot.unset).toArray = ls at hl ⊢
  have hl : lv_has ls 3 [(0, .ref a), (1, .int vr), (2, .int node)] := hl
  refine gq (fun Q hQ => ?_)
  obtain ⟨H, hH⟩ : ∃ H : Heap, H = s.heap := ⟨_, rfl⟩
  rw [← hH] at hP
  have hS : va_S A s.heap H [] := by rw [hH]; exact hS
  refine W.eqH hH ?_
  obtain ⟨locs, hlc⟩ : ∃ L : List Loc, L = [] := ⟨_, rfl⟩
  rw [← hlc] at hS ⊢
  unfold p_Terms_bind at hok
  refine lv_aload_n hx hb d_Terms_bind_0 rfl (lv_at hl 0 rfl) ?_
  refine va_get (D := g) (ci := 7) (v := .ref a_became) (C := R_Terms) (T := F_Terms) (N := 13) hx hb hg ul_Terms hown hK hP 0 rfl rfl 6 (by decide) (hg _ wd_240) (fun _ h9 => h9) rfl d_Terms_bind_1 ?_
  refine lv_iload_n hx hb d_Terms_bind_4 rfl (lv_at hl 1 rfl) ?_
  refine lv_iload_n hx hb d_Terms_bind_5 rfl (lv_at hl 2 rfl) ?_
  obtain ⟨hi1, hok⟩ := ck_some hok
  refine va_iast hx hb hK hP hD hS 1 0 rfl rfl (ixb_in hi1) d_Terms_bind_6 (fun H locs hP hD hS => ?_)
  obtain ⟨hP, hD⟩ : PD g A H [(a, .inr (7, [.ref a_shapes, .ref a_values, .ref a_firstParts, .int a_nodes, .ref a_parts, .ref a_variableNames, .ref a_became, .int a_variables, .int a_variablesLack, .int a_symbols, .int a_nodesBefore, .int a_partsBefore, .int a_variablesBefore])), (a_became, .inl (cs 0, a_became_n, .inl (upd a_became_f vr.toNatClampNeg node)))] := ⟨hP, hD⟩
  have hq := Option.some.inj hok
  have hq0 := hq
  subst hq0
  obtain ⟨hP9, hD9⟩ := sub2 (ws' := [(a, .inr (7, [.ref a_shapes, .ref a_values, .ref a_firstParts, .int a_nodes, .ref a_parts, .ref a_variableNames, .ref a_became, .int a_variables, .int a_variablesLack, .int a_symbols, .int a_nodesBefore, .int a_partsBefore, .int a_variablesBefore])), (a_became, .inl (cs 0, a_became_n, .inl (upd a_became_f vr.toNatClampNeg node)))]) hP hD [0, 1] rfl (by decide) rfl
  rw [hQ]
  exact W.vret hx hb hr (fun t ht hW => ⟨⟨(), rfl, trivial, by rw [ht]; exact hP9, hD9⟩, hS.F ht⟩) hS.2.2 d_Terms_bind_7

theorem d_Terms_boundVariables_0 : decode b_Terms_boundVariables 0 = .ok (.iconst 0, 1) := by decide +kernel
theorem d_Terms_boundVariables_1 : decode b_Terms_boundVariables 1 = .ok (.istore_n 1, 1) := by decide +kernel
theorem d_Terms_boundVariables_2 : decode b_Terms_boundVariables 2 = .ok (.iconst 0, 1) := by decide +kernel
theorem d_Terms_boundVariables_3 : decode b_Terms_boundVariables 3 = .ok (.istore_n 2, 1) := by decide +kernel
theorem d_Terms_boundVariables_4 : decode b_Terms_boundVariables 4 = .ok (.iload_n 2, 1) := by decide +kernel
theorem d_Terms_boundVariables_5 : decode b_Terms_boundVariables 5 = .ok (.aload_n 0, 1) := by decide +kernel
theorem d_Terms_boundVariables_6 : decode b_Terms_boundVariables 6 = .ok (.getfield 37, 3) := by decide +kernel
theorem d_Terms_boundVariables_9 : decode b_Terms_boundVariables 9 = .ok (.if_icmp .ge 22, 3) := by decide +kernel
theorem d_Terms_boundVariables_12 : decode b_Terms_boundVariables 12 = .ok (.aload_n 0, 1) := by decide +kernel
theorem d_Terms_boundVariables_13 : decode b_Terms_boundVariables 13 = .ok (.getfield 34, 3) := by decide +kernel
theorem d_Terms_boundVariables_16 : decode b_Terms_boundVariables 16 = .ok (.iload_n 2, 1) := by decide +kernel
theorem d_Terms_boundVariables_17 : decode b_Terms_boundVariables 17 = .ok (.iaload, 1) := by decide +kernel
theorem d_Terms_boundVariables_18 : decode b_Terms_boundVariables 18 = .ok (.iconst (-1), 1) := by decide +kernel
theorem d_Terms_boundVariables_19 : decode b_Terms_boundVariables 19 = .ok (.if_icmp .eq 6, 3) := by decide +kernel
theorem d_Terms_boundVariables_22 : decode b_Terms_boundVariables 22 = .ok (.iinc 1 1, 3) := by decide +kernel
theorem d_Terms_boundVariables_25 : decode b_Terms_boundVariables 25 = .ok (.iinc 2 1, 3) := by decide +kernel
theorem d_Terms_boundVariables_28 : decode b_Terms_boundVariables 28 = .ok (.goto (-24), 3) := by decide +kernel
theorem d_Terms_boundVariables_31 : decode b_Terms_boundVariables 31 = .ok (.iload_n 1, 1) := by decide +kernel
theorem d_Terms_boundVariables_32 : decode b_Terms_boundVariables 32 = .ok (.ireturn, 1) := by decide +kernel
def p_Terms_boundVariables_4 (n : Nat) (a_variables : Int32) (a_became_n : Nat) (a_became_f : Nat → Int32) (kf1 : Nat) (x2_1 : Int32) (x1_1 : Int32) : Option Int32 := match kf1 with
  | 0 => none
  | kf1 + 1 => if a_variables ≤ x2_1 then (some x1_1) else (ck (ixb x2_1 a_became_n) (if (a_became_f x2_1.toNatClampNeg) = (-1) then (p_Terms_boundVariables_4 n a_variables a_became_n a_became_f kf1 (x2_1 + 1) x1_1) else (p_Terms_boundVariables_4 n a_variables a_became_n a_became_f kf1 (x2_1 + 1) (x1_1 + 1))))
def p_Terms_boundVariables (n : Nat) (a_nodes : Int32) (a_variables : Int32) (a_variablesLack : Int32) (a_symbols : Int32) (a_nodesBefore : Int32) (a_partsBefore : Int32) (a_variablesBefore : Int32) (a_became_n : Nat) (a_became_f : Nat → Int32) : Option Int32 := p_Terms_boundVariables_4 n a_variables a_became_n a_became_f n (0 : Int32) (0 : Int32)
set_option maxHeartbeats 4000000 in
set_option maxRecDepth 100000 in
theorem c_Terms_boundVariables (l : Launch) (g : va_G) (cs : Nat → ClassId) (ka : Nat → Nat) (a_shapes : Nat) (a_values : Nat) (a_firstParts : Nat) (a_parts : Nat) (a_variableNames : Nat) (a a_became : Nat) (sz : Nat) (n : Nat) (a_nodes : Int32) (a_variables : Int32) (a_variablesLack : Int32) (a_symbols : Int32) (a_nodesBefore : Int32) (a_partsBefore : Int32) (a_variablesBefore : Int32) (a_became_n : Nat) (a_became_f : Nat → Int32) (r : Int32) (hok : p_Terms_boundVariables n a_nodes a_variables a_variablesLack a_symbols a_nodesBefore a_partsBefore a_variablesBefore a_became_n a_became_f = some r) : Met l y_Terms_boundVariables (.code y_Terms_boundVariables b_Terms_boundVariables 3 (some .int) :: GW) { frames := 0, cells := 0, slots := 0, locals := 0 } (va_Pc [.ref a] (gP g cs ka [(a, .inr (7, [.ref a_shapes, .ref a_values, .ref a_firstParts, .int a_nodes, .ref a_parts, .ref a_variableNames, .ref a_became, .int a_variables, .int a_variablesLack, .int a_symbols, .int a_nodesBefore, .int a_partsBefore, .int a_variablesBefore])), (a_became, .inl (cs 0, a_became_n, .inl a_became_f))] sz)) (va_Qi (fun (r' : Int32) (_ : Unit) => r = r') (fun _ t => va_P g classes [(a, .inr (7, [.ref a_shapes, .ref a_values, .ref a_firstParts, .int a_nodes, .ref a_parts, .ref a_variableNames, .ref a_became, .int a_variables, .int a_variablesLack, .int a_symbols, .int a_nodesBefore, .int a_partsBefore, .int a_variablesBefore])), (a_became, .inl (cs 0, a_became_n, .inl a_became_f))] t.heap ∧ va_D (va_A [(a, .inr (7, [.ref a_shapes, .ref a_values, .ref a_firstParts, .int a_nodes, .ref a_parts, .ref a_variableNames, .ref a_became, .int a_variables, .int a_variablesLack, .int a_symbols, .int a_nodesBefore, .int a_partsBefore, .int a_variablesBefore])), (a_became, .inl (cs 0, a_became_n, .inl a_became_f))] sz) [(a, .inr (7, [.ref a_shapes, .ref a_values, .ref a_firstParts, .int a_nodes, .ref a_parts, .ref a_variableNames, .ref a_became, .int a_variables, .int a_variablesLack, .int a_symbols, .int a_nodesBefore, .int a_partsBefore, .int a_variablesBefore])), (a_became, .inl (cs 0, a_became_n, .inl a_became_f))]) (va_A [(a, .inr (7, [.ref a_shapes, .ref a_values, .ref a_firstParts, .int a_nodes, .ref a_parts, .ref a_variableNames, .ref a_became, .int a_variables, .int a_variablesLack, .int a_symbols, .int a_nodesBefore, .int a_partsBefore, .int a_variablesBefore])), (a_became, .inl (cs 0, a_became_n, .inl a_became_f))] sz)) 0 0 (va_A [(a, .inr (7, [.ref a_shapes, .ref a_values, .ref a_firstParts, .int a_nodes, .ref a_parts, .ref a_variableNames, .ref a_became, .int a_variables, .int a_variablesLack, .int a_symbols, .int a_nodesBefore, .int a_partsBefore, .int a_variablesBefore])), (a_became, .inl (cs 0, a_became_n, .inl a_became_f))] sz) := by
  refine Met.ofW (cc := b_Terms_boundVariables) (maxL := 3) (ret := (some .int)) (by decide) rfl ?_
  intro p e s m args below meth c s₁ B hml hv
  obtain ⟨rfl, hsz, hP, hK, hD0, hgl, hkn, hkr⟩ := hv
  have hx := B.exec
  have hb := B.bytes
  have hr := B.returns
  have hg : ∀ w ∈ GW, w.before ([.ref a] : List Value).toArray s = true := fun w hw => atoms_spec (ws := .code y_Terms_boundVariables b_Terms_boundVariables 3 (some .int) :: GW) B.pre w (List.mem_cons_of_mem _ hw)
  have hown : s.vm.findClass R_Terms = some m.cls := findClass_of_methodNamed B.named
  have hlocks := B.notSynchronized
  subst hsz
  have hD := hD0.self (sz := s.heap.size)
  generalize hAe : va_A [(a, .inr (7, [.ref a_shapes, .ref a_values, .ref a_firstParts, .int a_nodes, .ref a_parts, .ref a_variableNames, .ref a_became, .int a_variables, .int a_variablesLack, .int a_symbols, .int a_nodesBefore, .int a_partsBefore, .int a_variablesBefore])), (a_became, .inl (cs 0, a_became_n, .inl a_became_f))] s.heap.size = A at hD hkn ⊢
  have hA : ∀ q : Nat, s.heap.size ≤ q → A q := fun q h => by rw [← hAe]; exact Or.inr h
  have hS : va_S A s.heap s.heap [] := va_S.rf
  have hP : va_P g classes [(a, .inr (7, [.ref a_shapes, .ref a_values, .ref a_firstParts, .int a_nodes, .ref a_parts, .ref a_variableNames, .ref a_became, .int a_variables, .int a_variablesLack, .int a_symbols, .int a_nodesBefore, .int a_partsBefore, .int a_variablesBefore])), (a_became, .inl (cs 0, a_became_n, .inl a_became_f))] s.heap := hP
  have hl := lv_entry ([.ref a]) (n := 3) (Nat.le_of_ble_eq_true rfl)
  rw [lg_entry_eq]
  generalize (lg_sl ([.ref a]) ++ List.replicate (3 - (lg_sl ([.ref a])).length) Slot.unset).toArray = ls at hl ⊢
  have hl : lv_has ls 3 [(0, .ref a)] := hl
  refine gq (fun Q hQ => ?_)
  obtain ⟨H, hH⟩ : ∃ H : Heap, H = s.heap := ⟨_, rfl⟩
  rw [← hH] at hP
  have hS : va_S A s.heap H [] := by rw [hH]; exact hS
  refine W.eqH hH ?_
  obtain ⟨locs, hlc⟩ : ∃ L : List Loc, L = [] := ⟨_, rfl⟩
  rw [← hlc] at hS ⊢
  unfold p_Terms_boundVariables at hok
  refine lv_iconst (v := 0) hx hb d_Terms_boundVariables_0 (by decide) ?_
  refine lv_istore_n hx hb d_Terms_boundVariables_1 rfl hl (by decide) rfl (fun ls hl => ?_)
  have hl : lv_has ls 3 [(1, .int 0), (0, .ref a)] := hl
  refine lv_iconst (v := 0) hx hb d_Terms_boundVariables_2 (by decide) ?_
  refine lv_istore_n hx hb d_Terms_boundVariables_3 rfl hl (by decide) rfl (fun ls hl => ?_)
  have hl : lv_has ls 3 [(2, .int 0), (1, .int 0), (0, .ref a)] := hl
  have J1 : ∀ (kf1 : Nat) (H : Heap) (locs : List Loc) (ls : Array Slot) (x2_1 : Int32) (x1_1 : Int32), lv_has ls 3 [(2, .int x2_1), (1, .int x1_1), (0, .ref a)] → PD g A H [(a, .inr (7, [.ref a_shapes, .ref a_values, .ref a_firstParts, .int a_nodes, .ref a_parts, .ref a_variableNames, .ref a_became, .int a_variables, .int a_variablesLack, .int a_symbols, .int a_nodesBefore, .int a_partsBefore, .int a_variablesBefore])), (a_became, .inl (cs 0, a_became_n, .inl a_became_f))] → va_S A s.heap H locs → p_Terms_boundVariables_4 n a_variables a_became_n a_became_f kf1 x2_1 x1_1 = some r → W p l e (headSpec (.code y_Terms_boundVariables b_Terms_boundVariables 3 (some .int) :: GW) { frames := 0, cells := 0, slots := 0, locals := 0 }).room s m ([.ref a] : List Value).toArray below meth c H locs 0 0 Q (F0 m 4 ls []) := by
    intro kf1
    induction kf1 with
    | zero => intro H locs ls x2_1 x1_1 hl ⟨hP, hD⟩ hS hok; rw [p_Terms_boundVariables_4] at hok; cases hok
    | succ kf1 ih1 =>
      intro H locs ls x2_1 x1_1 hl ⟨hP, hD⟩ hS hok
      rw [p_Terms_boundVariables_4] at hok
      refine lv_iload_n hx hb d_Terms_boundVariables_4 rfl (lv_at hl 0 rfl) ?_
      refine lv_aload_n hx hb d_Terms_boundVariables_5 rfl (lv_at hl 2 rfl) ?_
      refine va_get (D := g) (ci := 7) (v := .int a_variables) (C := R_Terms) (T := F_Terms) (N := 13) hx hb hg ul_Terms hown hK hP 0 rfl rfl 7 (by decide) (hg _ wd_241) (fun _ h9 => h9) rfl d_Terms_boundVariables_6 ?_
      refine lv_icmp_ge hx hb d_Terms_boundVariables_9 rfl (fun h2 => ?_) (fun h2 => ?_)
      · rw [if_pos h2] at hok
        refine lv_iload_n hx hb d_Terms_boundVariables_31 rfl (lv_at hl 1 rfl) ?_
        have hq := Option.some.inj hok
        have hq0 := hq
        subst hq0
        obtain ⟨hP9, hD9⟩ := sub2 (ws' := [(a, .inr (7, [.ref a_shapes, .ref a_values, .ref a_firstParts, .int a_nodes, .ref a_parts, .ref a_variableNames, .ref a_became, .int a_variables, .int a_variablesLack, .int a_symbols, .int a_nodesBefore, .int a_partsBefore, .int a_variablesBefore])), (a_became, .inl (cs 0, a_became_n, .inl a_became_f))]) hP hD [0, 1] rfl (by decide) rfl
        rw [hQ]
        exact W.iret (v := x1_1) hx hb hr (fun t ht hW => ⟨⟨_, (), rfl, rfl, by rw [ht]; exact hP9, hD9⟩, hS.F ht⟩) hS.2.2 d_Terms_boundVariables_32
      · rw [if_neg h2] at hok
        refine lv_aload_n hx hb d_Terms_boundVariables_12 rfl (lv_at hl 2 rfl) ?_
        refine va_get (D := g) (ci := 7) (v := .ref a_became) (C := R_Terms) (T := F_Terms) (N := 13) hx hb hg ul_Terms hown hK hP 0 rfl rfl 6 (by decide) (hg _ wd_240) (fun _ h9 => h9) rfl d_Terms_boundVariables_13 ?_
        refine lv_iload_n hx hb d_Terms_boundVariables_16 rfl (lv_at hl 0 rfl) ?_
        obtain ⟨hi3, hok⟩ := ck_some hok
        refine va_iald hx hb hK hP 1 0 rfl rfl (ixb_in hi3) d_Terms_boundVariables_17 ?_
        refine lv_iconst (v := (-1)) hx hb d_Terms_boundVariables_18 (by decide) ?_
        refine lv_icmp_eq hx hb d_Terms_boundVariables_19 rfl (fun h4 => ?_) (fun h4 => ?_)
        · rw [if_pos h4] at hok
          refine lv_iinc (k := 0) (v := x2_1 + 1) hx hb d_Terms_boundVariables_25 hl rfl rfl (by decide) rfl (fun ls hl => ?_)
          have hl : lv_has ls 3 [(2, .int (x2_1 + 1)), (1, .int x1_1), (0, .ref a)] := hl
          refine lv_goto hx hb d_Terms_boundVariables_28 rfl ?_
          exact ih1 _ _ _ (x2_1 + 1) x1_1 (lv_sub hl [0, 1, 2] rfl) (sub3 hP hD [0, 1] (by decide)) hS hok
        · rw [if_neg h4] at hok
          refine lv_iinc (k := 1) (v := x1_1 + 1) hx hb d_Terms_boundVariables_22 hl rfl rfl (by decide) rfl (fun ls hl => ?_)
          have hl : lv_has ls 3 [(1, .int (x1_1 + 1)), (2, .int x2_1), (0, .ref a)] := hl
          refine lv_iinc (k := 1) (v := x2_1 + 1) hx hb d_Terms_boundVariables_25 hl rfl rfl (by decide) rfl (fun ls hl => ?_)
          have hl : lv_has ls 3 [(2, .int (x2_1 + 1)), (1, .int (x1_1 + 1)), (0, .ref a)] := hl
          refine lv_goto hx hb d_Terms_boundVariables_28 rfl ?_
          exact ih1 _ _ _ (x2_1 + 1) (x1_1 + 1) (lv_sub hl [0, 1, 2] rfl) (sub3 hP hD [0, 1] (by decide)) hS hok
  exact J1 n H locs ls (0 : Int32) (0 : Int32) hl ⟨hP, hD⟩ hS hok

theorem d_Terms_pushBindings_0 : decode b_Terms_pushBindings 0 = .ok (.iconst 0, 1) := by decide +kernel
theorem d_Terms_pushBindings_1 : decode b_Terms_pushBindings 1 = .ok (.istore_n 2, 1) := by decide +kernel
theorem d_Terms_pushBindings_2 : decode b_Terms_pushBindings 2 = .ok (.iload_n 2, 1) := by decide +kernel
theorem d_Terms_pushBindings_3 : decode b_Terms_pushBindings 3 = .ok (.sipush 200, 3) := by decide +kernel
theorem d_Terms_pushBindings_6 : decode b_Terms_pushBindings 6 = .ok (.if_icmp .ge 19, 3) := by decide +kernel
theorem d_Terms_pushBindings_9 : decode b_Terms_pushBindings 9 = .ok (.aload_n 1, 1) := by decide +kernel
theorem d_Terms_pushBindings_10 : decode b_Terms_pushBindings 10 = .ok (.aload_n 0, 1) := by decide +kernel
theorem d_Terms_pushBindings_11 : decode b_Terms_pushBindings 11 = .ok (.getfield 34, 3) := by decide +kernel
theorem d_Terms_pushBindings_14 : decode b_Terms_pushBindings 14 = .ok (.iload_n 2, 1) := by decide +kernel
theorem d_Terms_pushBindings_15 : decode b_Terms_pushBindings 15 = .ok (.iaload, 1) := by decide +kernel
theorem d_Terms_pushBindings_16 : decode b_Terms_pushBindings 16 = .ok (.invokevirtual 81, 3) := by decide +kernel
theorem d_Terms_pushBindings_19 : decode b_Terms_pushBindings 19 = .ok (.iinc 2 1, 3) := by decide +kernel
theorem d_Terms_pushBindings_22 : decode b_Terms_pushBindings 22 = .ok (.goto (-20), 3) := by decide +kernel
theorem d_Terms_pushBindings_25 : decode b_Terms_pushBindings 25 = .ok (.return_, 1) := by decide +kernel
def p_Terms_pushBindings_2 (n : Nat) (a_became_n : Nat) (a_became_f : Nat → Int32) (kf1 : Nat) (x2_1 : Int32) (stack_size_1 : Int32) (stack_items_1n : Nat) (stack_items_1f : Nat → Int32) : Option ((Int32 × Nat × (Nat → Int32)) × Nat × Nat) := match kf1 with
  | 0 => none
  | kf1 + 1 => if 200 ≤ x2_1 then (some ((stack_size_1, stack_items_1n, stack_items_1f), 0, 0)) else (ck (ixb x2_1 a_became_n) ((p_Ints_push (a_became_f x2_1.toNatClampNeg) stack_size_1 stack_items_1n stack_items_1f).bind (fun ((a_size_4, a_items_n_4, a_items_f_4), mk4, sk4) => al mk4 sk4 (p_Terms_pushBindings_2 n a_became_n a_became_f kf1 (x2_1 + 1) a_size_4 a_items_n_4 a_items_f_4))))
def p_Terms_pushBindings (n : Nat) (a_nodes : Int32) (a_variables : Int32) (a_variablesLack : Int32) (a_symbols : Int32) (a_nodesBefore : Int32) (a_partsBefore : Int32) (a_variablesBefore : Int32) (a_became_n : Nat) (a_became_f : Nat → Int32) (stack_size : Int32) (stack_items_n : Nat) (stack_items_f : Nat → Int32) : Option ((Int32 × Nat × (Nat → Int32)) × Nat × Nat) := p_Terms_pushBindings_2 n a_became_n a_became_f n (0 : Int32) stack_size stack_items_n stack_items_f
set_option maxHeartbeats 4000000 in
set_option maxRecDepth 100000 in
theorem c_Terms_pushBindings (l : Launch) (g : va_G) (cs : Nat → ClassId) (ka : Nat → Nat) (a_shapes : Nat) (a_values : Nat) (a_firstParts : Nat) (a_parts : Nat) (a_variableNames : Nat) (a a_became stack stack_items : Nat) (sz : Nat) (n : Nat) (a_nodes : Int32) (a_variables : Int32) (a_variablesLack : Int32) (a_symbols : Int32) (a_nodesBefore : Int32) (a_partsBefore : Int32) (a_variablesBefore : Int32) (a_became_n : Nat) (a_became_f : Nat → Int32) (stack_size : Int32) (stack_items_n : Nat) (stack_items_f : Nat → Int32) (o_stack_size : Int32) (o_stack_items_n : Nat) (o_stack_items_f : Nat → Int32) (mc ms : Nat) (hok : p_Terms_pushBindings n a_nodes a_variables a_variablesLack a_symbols a_nodesBefore a_partsBefore a_variablesBefore a_became_n a_became_f stack_size stack_items_n stack_items_f = some ((o_stack_size, o_stack_items_n, o_stack_items_f), mc, ms)) : Met l y_Terms_pushBindings (.code y_Terms_pushBindings b_Terms_pushBindings 3 none :: GW) { frames := 3, cells := mc, slots := ms, locals := 143 } (va_Pc [.ref a, .ref stack] (gP g cs ka [(a, .inr (7, [.ref a_shapes, .ref a_values, .ref a_firstParts, .int a_nodes, .ref a_parts, .ref a_variableNames, .ref a_became, .int a_variables, .int a_variablesLack, .int a_symbols, .int a_nodesBefore, .int a_partsBefore, .int a_variablesBefore])), (a_became, .inl (cs 0, a_became_n, .inl a_became_f)), (stack, .inr (1, [.ref stack_items, .int stack_size])), (stack_items, .inl (cs 0, stack_items_n, .inl stack_items_f))] sz)) (va_Qv (fun _ : Unit => True) (fun _ t => ∃ b_stack_items : Nat, va_P g classes [(a, .inr (7, [.ref a_shapes, .ref a_values, .ref a_firstParts, .int a_nodes, .ref a_parts, .ref a_variableNames, .ref a_became, .int a_variables, .int a_variablesLack, .int a_symbols, .int a_nodesBefore, .int a_partsBefore, .int a_variablesBefore])), (a_became, .inl (cs 0, a_became_n, .inl a_became_f)), (stack, .inr (1, [.ref b_stack_items, .int o_stack_size])), (b_stack_items, .inl (cs 0, o_stack_items_n, .inl o_stack_items_f))] t.heap ∧ va_D (va_A [(a, .inr (7, [.ref a_shapes, .ref a_values, .ref a_firstParts, .int a_nodes, .ref a_parts, .ref a_variableNames, .ref a_became, .int a_variables, .int a_variablesLack, .int a_symbols, .int a_nodesBefore, .int a_partsBefore, .int a_variablesBefore])), (a_became, .inl (cs 0, a_became_n, .inl a_became_f)), (stack, .inr (1, [.ref stack_items, .int stack_size])), (stack_items, .inl (cs 0, stack_items_n, .inl stack_items_f))] sz) [(a, .inr (7, [.ref a_shapes, .ref a_values, .ref a_firstParts, .int a_nodes, .ref a_parts, .ref a_variableNames, .ref a_became, .int a_variables, .int a_variablesLack, .int a_symbols, .int a_nodesBefore, .int a_partsBefore, .int a_variablesBefore])), (a_became, .inl (cs 0, a_became_n, .inl a_became_f)), (stack, .inr (1, [.ref b_stack_items, .int o_stack_size])), (b_stack_items, .inl (cs 0, o_stack_items_n, .inl o_stack_items_f))]) (va_A [(a, .inr (7, [.ref a_shapes, .ref a_values, .ref a_firstParts, .int a_nodes, .ref a_parts, .ref a_variableNames, .ref a_became, .int a_variables, .int a_variablesLack, .int a_symbols, .int a_nodesBefore, .int a_partsBefore, .int a_variablesBefore])), (a_became, .inl (cs 0, a_became_n, .inl a_became_f)), (stack, .inr (1, [.ref stack_items, .int stack_size])), (stack_items, .inl (cs 0, stack_items_n, .inl stack_items_f))] sz)) mc ms (va_A [(a, .inr (7, [.ref a_shapes, .ref a_values, .ref a_firstParts, .int a_nodes, .ref a_parts, .ref a_variableNames, .ref a_became, .int a_variables, .int a_variablesLack, .int a_symbols, .int a_nodesBefore, .int a_partsBefore, .int a_variablesBefore])), (a_became, .inl (cs 0, a_became_n, .inl a_became_f)), (stack, .inr (1, [.ref stack_items, .int stack_size])), (stack_items, .inl (cs 0, stack_items_n, .inl stack_items_f))] sz) := by
  refine Met.ofW (cc := b_Terms_pushBindings) (maxL := 3) (ret := none) (by decide) rfl ?_
  intro p e s m args below meth c s₁ B hml hv
  obtain ⟨rfl, hsz, hP, hK, hD0, hgl, hkn, hkr⟩ := hv
  have hx := B.exec
  have hb := B.bytes
  have hr := B.returns
  have hg : ∀ w ∈ GW, w.before ([.ref a, .ref stack] : List Value).toArray s = true := fun w hw => atoms_spec (ws := .code y_Terms_pushBindings b_Terms_pushBindings 3 none :: GW) B.pre w (List.mem_cons_of_mem _ hw)
  have hown : s.vm.findClass R_Terms = some m.cls := findClass_of_methodNamed B.named
  have hlocks := B.notSynchronized
  subst hsz
  have hD := hD0.self (sz := s.heap.size)
  generalize hAe : va_A [(a, .inr (7, [.ref a_shapes, .ref a_values, .ref a_firstParts, .int a_nodes, .ref a_parts, .ref a_variableNames, .ref a_became, .int a_variables, .int a_variablesLack, .int a_symbols, .int a_nodesBefore, .int a_partsBefore, .int a_variablesBefore])), (a_became, .inl (cs 0, a_became_n, .inl a_became_f)), (stack, .inr (1, [.ref stack_items, .int stack_size])), (stack_items, .inl (cs 0, stack_items_n, .inl stack_items_f))] s.heap.size = A at hD hkn ⊢
  have hA : ∀ q : Nat, s.heap.size ≤ q → A q := fun q h => by rw [← hAe]; exact Or.inr h
  have hS : va_S A s.heap s.heap [] := va_S.rf
  have hP : va_P g classes [(a, .inr (7, [.ref a_shapes, .ref a_values, .ref a_firstParts, .int a_nodes, .ref a_parts, .ref a_variableNames, .ref a_became, .int a_variables, .int a_variablesLack, .int a_symbols, .int a_nodesBefore, .int a_partsBefore, .int a_variablesBefore])), (a_became, .inl (cs 0, a_became_n, .inl a_became_f)), (stack, .inr (1, [.ref stack_items, .int stack_size])), (stack_items, .inl (cs 0, stack_items_n, .inl stack_items_f))] s.heap := hP
  have hl := lv_entry ([.ref a, .ref stack]) (n := 3) (Nat.le_of_ble_eq_true rfl)
  rw [lg_entry_eq]
  generalize (lg_sl ([.ref a, .ref stack]) ++ List.replicate (3 - (lg_sl ([.ref a, .ref stack])).length) Slot.unset).toArray = ls at hl ⊢
  have hl : lv_has ls 3 [(0, .ref a), (1, .ref stack)] := hl
  refine gq (fun Q hQ => ?_)
  obtain ⟨H, hH⟩ : ∃ H : Heap, H = s.heap := ⟨_, rfl⟩
  rw [← hH] at hP
  have hS : va_S A s.heap H [] := by rw [hH]; exact hS
  refine W.eqH hH ?_
  obtain ⟨locs, hlc⟩ : ∃ L : List Loc, L = [] := ⟨_, rfl⟩
  rw [← hlc] at hS ⊢
  unfold p_Terms_pushBindings at hok
  refine lv_iconst (v := 0) hx hb d_Terms_pushBindings_0 (by decide) ?_
  refine lv_istore_n hx hb d_Terms_pushBindings_1 rfl hl (by decide) rfl (fun ls hl => ?_)
  have hl : lv_has ls 3 [(2, .int 0), (0, .ref a), (1, .ref stack)] := hl
  have J1 : ∀ (kf1 : Nat) (H : Heap) (locs : List Loc) (ls : Array Slot) (cells1 slots1 mr1 sr1 : Nat) (stack_items_1 : Nat) (x2_1 : Int32) (stack_size_1 : Int32) (stack_items_1n : Nat) (stack_items_1f : Nat → Int32), lv_has ls 3 [(2, .int x2_1), (0, .ref a), (1, .ref stack)] → PD g A H [(a, .inr (7, [.ref a_shapes, .ref a_values, .ref a_firstParts, .int a_nodes, .ref a_parts, .ref a_variableNames, .ref a_became, .int a_variables, .int a_variablesLack, .int a_symbols, .int a_nodesBefore, .int a_partsBefore, .int a_variablesBefore])), (a_became, .inl (cs 0, a_became_n, .inl a_became_f)), (stack, .inr (1, [.ref stack_items_1, .int stack_size_1])), (stack_items_1, .inl (cs 0, stack_items_1n, .inl stack_items_1f))] → va_S A s.heap H locs → cells1 + mr1 = mc → slots1 + sr1 = ms → p_Terms_pushBindings_2 n a_became_n a_became_f kf1 x2_1 stack_size_1 stack_items_1n stack_items_1f = some ((o_stack_size, o_stack_items_n, o_stack_items_f), mr1, sr1) → W p l e (headSpec (.code y_Terms_pushBindings b_Terms_pushBindings 3 none :: GW) { frames := 3, cells := mc, slots := ms, locals := 143 }).room s m ([.ref a, .ref stack] : List Value).toArray below meth c H locs cells1 slots1 Q (F0 m 2 ls []) := by
    intro kf1
    induction kf1 with
    | zero => intro H locs ls cells1 slots1 mr1 sr1 stack_items_1 x2_1 stack_size_1 stack_items_1n stack_items_1f hl ⟨hP, hD⟩ hS hmr1 hsr1 hok; rw [p_Terms_pushBindings_2] at hok; cases hok
    | succ kf1 ih1 =>
      intro H locs ls cells1 slots1 mr1 sr1 stack_items_1 x2_1 stack_size_1 stack_items_1n stack_items_1f hl ⟨hP, hD⟩ hS hmr1 hsr1 hok
      rw [p_Terms_pushBindings_2] at hok
      refine lv_iload_n hx hb d_Terms_pushBindings_2 rfl (lv_at hl 0 rfl) ?_
      refine lv_sipush (v := 200) hx hb d_Terms_pushBindings_3 (by decide) ?_
      refine lv_icmp_ge hx hb d_Terms_pushBindings_6 rfl (fun h2 => ?_) (fun h2 => ?_)
      · rw [if_pos h2] at hok
        obtain ⟨hq, hw⟩ := Prod.mk.inj (Option.some.inj hok)
        obtain ⟨hmc0, hms0⟩ := Prod.mk.inj hw
        obtain ⟨hq0, hq⟩ := Prod.mk.inj hq
        obtain ⟨hq1, hq⟩ := Prod.mk.inj hq
        have hq2 := hq
        subst hq0
        subst hq1
        subst hq2
        obtain ⟨hP9, hD9⟩ := sub2 (ws' := [(a, .inr (7, [.ref a_shapes, .ref a_values, .ref a_firstParts, .int a_nodes, .ref a_parts, .ref a_variableNames, .ref a_became, .int a_variables, .int a_variablesLack, .int a_symbols, .int a_nodesBefore, .int a_partsBefore, .int a_variablesBefore])), (a_became, .inl (cs 0, a_became_n, .inl a_became_f)), (stack, .inr (1, [.ref stack_items_1, .int stack_size_1])), (stack_items_1, .inl (cs 0, stack_items_1n, .inl stack_items_1f))]) hP hD [0, 1, 2, 3] rfl (by decide) rfl
        refine W.widen (k := mc) (n := ms) (by omega) (by omega) ?_
        rw [hQ]
        exact W.vret hx hb hr (fun t ht hW => ⟨⟨(), rfl, trivial, stack_items_1, by rw [ht]; exact hP9, hD9⟩, hS.F ht⟩) hS.2.2 d_Terms_pushBindings_25
      · rw [if_neg h2] at hok
        refine lv_aload_n hx hb d_Terms_pushBindings_9 rfl (lv_at hl 2 rfl) ?_
        refine lv_aload_n hx hb d_Terms_pushBindings_10 rfl (lv_at hl 1 rfl) ?_
        refine va_get (D := g) (ci := 7) (v := .ref a_became) (C := R_Terms) (T := F_Terms) (N := 13) hx hb hg ul_Terms hown hK hP 0 rfl rfl 6 (by decide) (hg _ wd_240) (fun _ h9 => h9) rfl d_Terms_pushBindings_11 ?_
        refine lv_iload_n hx hb d_Terms_pushBindings_14 rfl (lv_at hl 0 rfl) ?_
        obtain ⟨hi3, hok⟩ := ck_some hok
        refine va_iald hx hb hK hP 1 0 rfl rfl (ixb_in hi3) d_Terms_pushBindings_15 ?_
        obtain ⟨⟨⟨a_size_4, a_items_n_4, a_items_f_4⟩, mk4, sk4⟩, hc4, hok⟩ := bd_some hok
        dsimp only at hok
        obtain ⟨m4, s4, hok, hmc4, hms4⟩ := al_some hok
        obtain ⟨hPc, hDc, hFc⟩ := cut0 (wc := [(stack, .inr (1, [.ref stack_items_1, .int stack_size_1])), (stack_items_1, .inl (cs 0, stack_items_1n, .inl stack_items_1f))]) hP hD hS hA [2, 3] (by decide) rfl
        refine va_callv (va_runV (As := [.int (a_became_f x2_1.toNatClampNeg)]) (rest := []) ⟨hx, hb, hml, hown, hg⟩ (c_Ints_push l g cs ka stack stack_items_1 H.size (a_became_f x2_1.toNatClampNeg) stack_size_1 stack_items_1n stack_items_1f a_size_4 a_items_n_4 a_items_f_4 mk4 sk4 hc4) (cwV (C := R_Ints) 1 hg (gw_V wd_273 wd_274 wd_275 wd_234 wd_272) rfl rfl rfl (by decide +kernel) ⟨Nat.le_of_ble_eq_true rfl, Nat.le_of_ble_eq_true rfl⟩) ⟨gP_blind, va_recv (q0 := 2) (ci := 1) (q := (R_Ints, F_Ints, 2)) hK hP rfl rfl, gP_pre hPc hDc hK hgl hkn hkr hS hFc⟩ rfl rfl hl.1 rfl (lv_room (Nat.le_of_ble_eq_true rfl)) d_Terms_pushBindings_16 ⟨show cells1 + mk4 ≤ mc from by omega, show slots1 + sk4 ≤ ms from by omega⟩) hS (fun q _ h => hFc q h) hFc (fun u t H locs ht hvm hr4 hB hz1 hk1 hS => ?_)
        rw [ht] at hB
        obtain ⟨a_items_4, hP1, hD1⟩ := hB
        obtain ⟨hP, hD⟩ := jn_A hP hD [2, 3] [0, 1] rfl rfl (by decide) (by decide) hk1 hFc hP1 hD1
        obtain ⟨hP, hD⟩ : PD g A H [(a, .inr (7, [.ref a_shapes, .ref a_values, .ref a_firstParts, .int a_nodes, .ref a_parts, .ref a_variableNames, .ref a_became, .int a_variables, .int a_variablesLack, .int a_symbols, .int a_nodesBefore, .int a_partsBefore, .int a_variablesBefore])), (a_became, .inl (cs 0, a_became_n, .inl a_became_f)), (stack, .inr (1, [.ref a_items_4, .int a_size_4])), (a_items_4, .inl (cs 0, a_items_n_4, .inl a_items_f_4))] := ⟨hP, hD⟩
        refine lv_iinc (k := 0) (v := x2_1 + 1) hx hb d_Terms_pushBindings_19 hl rfl rfl (by decide) rfl (fun ls hl => ?_)
        have hl : lv_has ls 3 [(2, .int (x2_1 + 1)), (0, .ref a), (1, .ref stack)] := hl
        refine lv_goto hx hb d_Terms_pushBindings_22 rfl ?_
        exact ih1 _ _ _ _ _ _ _ a_items_4 (x2_1 + 1) a_size_4 a_items_n_4 a_items_f_4 (lv_sub hl [0, 1, 2] rfl) (sub3 hP hD [0, 1, 2, 3] (by decide)) hS (by omega) (by omega) hok
  exact J1 n H locs ls _ _ _ _ stack_items (0 : Int32) stack_size stack_items_n stack_items_f hl ⟨hP, hD⟩ hS (by omega) (by omega) hok

theorem d_Terms_popBindings_0 : decode b_Terms_popBindings 0 = .ok (.sipush 199, 3) := by decide +kernel
theorem d_Terms_popBindings_3 : decode b_Terms_popBindings 3 = .ok (.istore_n 2, 1) := by decide +kernel
theorem d_Terms_popBindings_4 : decode b_Terms_popBindings 4 = .ok (.iload_n 2, 1) := by decide +kernel
theorem d_Terms_popBindings_5 : decode b_Terms_popBindings 5 = .ok (.ifCond .lt 19, 3) := by decide +kernel
theorem d_Terms_popBindings_8 : decode b_Terms_popBindings 8 = .ok (.aload_n 0, 1) := by decide +kernel
theorem d_Terms_popBindings_9 : decode b_Terms_popBindings 9 = .ok (.getfield 34, 3) := by decide +kernel
theorem d_Terms_popBindings_12 : decode b_Terms_popBindings 12 = .ok (.iload_n 2, 1) := by decide +kernel
theorem d_Terms_popBindings_13 : decode b_Terms_popBindings 13 = .ok (.aload_n 1, 1) := by decide +kernel
theorem d_Terms_popBindings_14 : decode b_Terms_popBindings 14 = .ok (.invokevirtual 90, 3) := by decide +kernel
theorem d_Terms_popBindings_17 : decode b_Terms_popBindings 17 = .ok (.iastore, 1) := by decide +kernel
theorem d_Terms_popBindings_18 : decode b_Terms_popBindings 18 = .ok (.iinc 2 (-1), 3) := by decide +kernel
theorem d_Terms_popBindings_21 : decode b_Terms_popBindings 21 = .ok (.goto (-17), 3) := by decide +kernel
theorem d_Terms_popBindings_24 : decode b_Terms_popBindings 24 = .ok (.return_, 1) := by decide +kernel
def p_Terms_popBindings_4 (n : Nat) (a_became_n : Nat) (stack_items_n : Nat) (stack_items_f : Nat → Int32) (kf1 : Nat) (x2_1 : Int32) (stack_size_1 : Int32) (a_became_1f : Nat → Int32) : Option ((Nat → Int32) × Int32) := match kf1 with
  | 0 => none
  | kf1 + 1 => if x2_1 < 0 then (some (a_became_1f, stack_size_1)) else ((p_Ints_pop stack_size_1 stack_items_n stack_items_f).bind (fun (r3, a_size_3) => ck (ixb x2_1 a_became_n) (p_Terms_popBindings_4 n a_became_n stack_items_n stack_items_f kf1 (x2_1 + (-1)) a_size_3 (upd a_became_1f x2_1.toNatClampNeg r3))))
def p_Terms_popBindings (n : Nat) (a_nodes : Int32) (a_variables : Int32) (a_variablesLack : Int32) (a_symbols : Int32) (a_nodesBefore : Int32) (a_partsBefore : Int32) (a_variablesBefore : Int32) (a_became_n : Nat) (a_became_f : Nat → Int32) (stack_size : Int32) (stack_items_n : Nat) (stack_items_f : Nat → Int32) : Option ((Nat → Int32) × Int32) := p_Terms_popBindings_4 n a_became_n stack_items_n stack_items_f n (199 : Int32) stack_size a_became_f
set_option maxHeartbeats 4000000 in
set_option maxRecDepth 100000 in
theorem c_Terms_popBindings (l : Launch) (g : va_G) (cs : Nat → ClassId) (ka : Nat → Nat) (a_shapes : Nat) (a_values : Nat) (a_firstParts : Nat) (a_parts : Nat) (a_variableNames : Nat) (a a_became stack stack_items : Nat) (sz : Nat) (n : Nat) (a_nodes : Int32) (a_variables : Int32) (a_variablesLack : Int32) (a_symbols : Int32) (a_nodesBefore : Int32) (a_partsBefore : Int32) (a_variablesBefore : Int32) (a_became_n : Nat) (a_became_f : Nat → Int32) (stack_size : Int32) (stack_items_n : Nat) (stack_items_f : Nat → Int32) (o_a_became_f : Nat → Int32) (o_stack_size : Int32) (hok : p_Terms_popBindings n a_nodes a_variables a_variablesLack a_symbols a_nodesBefore a_partsBefore a_variablesBefore a_became_n a_became_f stack_size stack_items_n stack_items_f = some (o_a_became_f, o_stack_size)) : Met l y_Terms_popBindings (.code y_Terms_popBindings b_Terms_popBindings 3 none :: GW) { frames := 1, cells := 0, slots := 0, locals := 20 } (va_Pc [.ref a, .ref stack] (gP g cs ka [(a, .inr (7, [.ref a_shapes, .ref a_values, .ref a_firstParts, .int a_nodes, .ref a_parts, .ref a_variableNames, .ref a_became, .int a_variables, .int a_variablesLack, .int a_symbols, .int a_nodesBefore, .int a_partsBefore, .int a_variablesBefore])), (a_became, .inl (cs 0, a_became_n, .inl a_became_f)), (stack, .inr (1, [.ref stack_items, .int stack_size])), (stack_items, .inl (cs 0, stack_items_n, .inl stack_items_f))] sz)) (va_Qv (fun _ : Unit => True) (fun _ t => va_P g classes [(a, .inr (7, [.ref a_shapes, .ref a_values, .ref a_firstParts, .int a_nodes, .ref a_parts, .ref a_variableNames, .ref a_became, .int a_variables, .int a_variablesLack, .int a_symbols, .int a_nodesBefore, .int a_partsBefore, .int a_variablesBefore])), (a_became, .inl (cs 0, a_became_n, .inl o_a_became_f)), (stack, .inr (1, [.ref stack_items, .int o_stack_size])), (stack_items, .inl (cs 0, stack_items_n, .inl stack_items_f))] t.heap ∧ va_D (va_A [(a, .inr (7, [.ref a_shapes, .ref a_values, .ref a_firstParts, .int a_nodes, .ref a_parts, .ref a_variableNames, .ref a_became, .int a_variables, .int a_variablesLack, .int a_symbols, .int a_nodesBefore, .int a_partsBefore, .int a_variablesBefore])), (a_became, .inl (cs 0, a_became_n, .inl a_became_f)), (stack, .inr (1, [.ref stack_items, .int stack_size])), (stack_items, .inl (cs 0, stack_items_n, .inl stack_items_f))] sz) [(a, .inr (7, [.ref a_shapes, .ref a_values, .ref a_firstParts, .int a_nodes, .ref a_parts, .ref a_variableNames, .ref a_became, .int a_variables, .int a_variablesLack, .int a_symbols, .int a_nodesBefore, .int a_partsBefore, .int a_variablesBefore])), (a_became, .inl (cs 0, a_became_n, .inl o_a_became_f)), (stack, .inr (1, [.ref stack_items, .int o_stack_size])), (stack_items, .inl (cs 0, stack_items_n, .inl stack_items_f))]) (va_A [(a, .inr (7, [.ref a_shapes, .ref a_values, .ref a_firstParts, .int a_nodes, .ref a_parts, .ref a_variableNames, .ref a_became, .int a_variables, .int a_variablesLack, .int a_symbols, .int a_nodesBefore, .int a_partsBefore, .int a_variablesBefore])), (a_became, .inl (cs 0, a_became_n, .inl a_became_f)), (stack, .inr (1, [.ref stack_items, .int stack_size])), (stack_items, .inl (cs 0, stack_items_n, .inl stack_items_f))] sz)) 0 0 (va_A [(a, .inr (7, [.ref a_shapes, .ref a_values, .ref a_firstParts, .int a_nodes, .ref a_parts, .ref a_variableNames, .ref a_became, .int a_variables, .int a_variablesLack, .int a_symbols, .int a_nodesBefore, .int a_partsBefore, .int a_variablesBefore])), (a_became, .inl (cs 0, a_became_n, .inl a_became_f)), (stack, .inr (1, [.ref stack_items, .int stack_size])), (stack_items, .inl (cs 0, stack_items_n, .inl stack_items_f))] sz) := by
  refine Met.ofW (cc := b_Terms_popBindings) (maxL := 3) (ret := none) (by decide) rfl ?_
  intro p e s m args below meth c s₁ B hml hv
  obtain ⟨rfl, hsz, hP, hK, hD0, hgl, hkn, hkr⟩ := hv
  have hx := B.exec
  have hb := B.bytes
  have hr := B.returns
  have hg : ∀ w ∈ GW, w.before ([.ref a, .ref stack] : List Value).toArray s = true := fun w hw => atoms_spec (ws := .code y_Terms_popBindings b_Terms_popBindings 3 none :: GW) B.pre w (List.mem_cons_of_mem _ hw)
  have hown : s.vm.findClass R_Terms = some m.cls := findClass_of_methodNamed B.named
  have hlocks := B.notSynchronized
  subst hsz
  have hD := hD0.self (sz := s.heap.size)
  generalize hAe : va_A [(a, .inr (7, [.ref a_shapes, .ref a_values, .ref a_firstParts, .int a_nodes, .ref a_parts, .ref a_variableNames, .ref a_became, .int a_variables, .int a_variablesLack, .int a_symbols, .int a_nodesBefore, .int a_partsBefore, .int a_variablesBefore])), (a_became, .inl (cs 0, a_became_n, .inl a_became_f)), (stack, .inr (1, [.ref stack_items, .int stack_size])), (stack_items, .inl (cs 0, stack_items_n, .inl stack_items_f))] s.heap.size = A at hD hkn ⊢
  have hA : ∀ q : Nat, s.heap.size ≤ q → A q := fun q h => by rw [← hAe]; exact Or.inr h
  have hS : va_S A s.heap s.heap [] := va_S.rf
  have hP : va_P g classes [(a, .inr (7, [.ref a_shapes, .ref a_values, .ref a_firstParts, .int a_nodes, .ref a_parts, .ref a_variableNames, .ref a_became, .int a_variables, .int a_variablesLack, .int a_symbols, .int a_nodesBefore, .int a_partsBefore, .int a_variablesBefore])), (a_became, .inl (cs 0, a_became_n, .inl a_became_f)), (stack, .inr (1, [.ref stack_items, .int stack_size])), (stack_items, .inl (cs 0, stack_items_n, .inl stack_items_f))] s.heap := hP
  have hl := lv_entry ([.ref a, .ref stack]) (n := 3) (Nat.le_of_ble_eq_true rfl)
  rw [lg_entry_eq]
  generalize (lg_sl ([.ref a, .ref stack]) ++ List.replicate (3 - (lg_sl ([.ref a, .ref stack])).length) Slot.unset).toArray = ls at hl ⊢
  have hl : lv_has ls 3 [(0, .ref a), (1, .ref stack)] := hl
  refine gq (fun Q hQ => ?_)
  obtain ⟨H, hH⟩ : ∃ H : Heap, H = s.heap := ⟨_, rfl⟩
  rw [← hH] at hP
  have hS : va_S A s.heap H [] := by rw [hH]; exact hS
  refine W.eqH hH ?_
  obtain ⟨locs, hlc⟩ : ∃ L : List Loc, L = [] := ⟨_, rfl⟩
  rw [← hlc] at hS ⊢
  unfold p_Terms_popBindings at hok
  refine lv_sipush (v := 199) hx hb d_Terms_popBindings_0 (by decide) ?_
  refine lv_istore_n hx hb d_Terms_popBindings_3 rfl hl (by decide) rfl (fun ls hl => ?_)
  have hl : lv_has ls 3 [(2, .int 199), (0, .ref a), (1, .ref stack)] := hl
  have J1 : ∀ (kf1 : Nat) (H : Heap) (locs : List Loc) (ls : Array Slot) (x2_1 : Int32) (stack_size_1 : Int32) (a_became_1f : Nat → Int32), lv_has ls 3 [(2, .int x2_1), (0, .ref a), (1, .ref stack)] → PD g A H [(a, .inr (7, [.ref a_shapes, .ref a_values, .ref a_firstParts, .int a_nodes, .ref a_parts, .ref a_variableNames, .ref a_became, .int a_variables, .int a_variablesLack, .int a_symbols, .int a_nodesBefore, .int a_partsBefore, .int a_variablesBefore])), (a_became, .inl (cs 0, a_became_n, .inl a_became_1f)), (stack, .inr (1, [.ref stack_items, .int stack_size_1])), (stack_items, .inl (cs 0, stack_items_n, .inl stack_items_f))] → va_S A s.heap H locs → p_Terms_popBindings_4 n a_became_n stack_items_n stack_items_f kf1 x2_1 stack_size_1 a_became_1f = some (o_a_became_f, o_stack_size) → W p l e (headSpec (.code y_Terms_popBindings b_Terms_popBindings 3 none :: GW) { frames := 1, cells := 0, slots := 0, locals := 20 }).room s m ([.ref a, .ref stack] : List Value).toArray below meth c H locs 0 0 Q (F0 m 4 ls []) := by
    intro kf1
    induction kf1 with
    | zero => intro H locs ls x2_1 stack_size_1 a_became_1f hl ⟨hP, hD⟩ hS hok; rw [p_Terms_popBindings_4] at hok; cases hok
    | succ kf1 ih1 =>
      intro H locs ls x2_1 stack_size_1 a_became_1f hl ⟨hP, hD⟩ hS hok
      rw [p_Terms_popBindings_4] at hok
      refine lv_iload_n hx hb d_Terms_popBindings_4 rfl (lv_at hl 0 rfl) ?_
      refine lv_if_lt hx hb d_Terms_popBindings_5 rfl (fun h2 => ?_) (fun h2 => ?_)
      · rw [if_pos h2] at hok
        have hq := Option.some.inj hok
        obtain ⟨hq0, hq⟩ := Prod.mk.inj hq
        have hq1 := hq
        subst hq0
        subst hq1
        obtain ⟨hP9, hD9⟩ := sub2 (ws' := [(a, .inr (7, [.ref a_shapes, .ref a_values, .ref a_firstParts, .int a_nodes, .ref a_parts, .ref a_variableNames, .ref a_became, .int a_variables, .int a_variablesLack, .int a_symbols, .int a_nodesBefore, .int a_partsBefore, .int a_variablesBefore])), (a_became, .inl (cs 0, a_became_n, .inl a_became_1f)), (stack, .inr (1, [.ref stack_items, .int stack_size_1])), (stack_items, .inl (cs 0, stack_items_n, .inl stack_items_f))]) hP hD [0, 1, 2, 3] rfl (by decide) rfl
        rw [hQ]
        exact W.vret hx hb hr (fun t ht hW => ⟨⟨(), rfl, trivial, by rw [ht]; exact hP9, hD9⟩, hS.F ht⟩) hS.2.2 d_Terms_popBindings_24
      · rw [if_neg h2] at hok
        refine lv_aload_n hx hb d_Terms_popBindings_8 rfl (lv_at hl 1 rfl) ?_
        refine va_get (D := g) (ci := 7) (v := .ref a_became) (C := R_Terms) (T := F_Terms) (N := 13) hx hb hg ul_Terms hown hK hP 0 rfl rfl 6 (by decide) (hg _ wd_240) (fun _ h9 => h9) rfl d_Terms_popBindings_9 ?_
        refine lv_iload_n hx hb d_Terms_popBindings_12 rfl (lv_at hl 0 rfl) ?_
        refine lv_aload_n hx hb d_Terms_popBindings_13 rfl (lv_at hl 2 rfl) ?_
        obtain ⟨⟨r3, a_size_3⟩, hc3, hok⟩ := bd_some hok
        dsimp only at hok
        obtain ⟨hPc, hDc, hFc⟩ := cut0 (wc := [(stack, .inr (1, [.ref stack_items, .int stack_size_1])), (stack_items, .inl (cs 0, stack_items_n, .inl stack_items_f))]) hP hD hS hA [2, 3] (by decide) rfl
        refine va_calli (va_runV (As := []) (rest := [.int x2_1, .ref a_became]) ⟨hx, hb, hml, hown, hg⟩ (c_Ints_pop l g cs ka stack stack_items H.size stack_size_1 stack_items_n stack_items_f r3 a_size_3 hc3) (cwV (C := R_Ints) 0 hg (gw_V wd_278 wd_279 wd_280 wd_234 wd_277) rfl rfl rfl (by decide +kernel) ⟨Nat.le_of_ble_eq_true rfl, Nat.le_of_ble_eq_true rfl⟩) ⟨gP_blind, va_recv (q0 := 2) (ci := 1) (q := (R_Ints, F_Ints, 2)) hK hP rfl rfl, gP_pre hPc hDc hK hgl hkn hkr hS hFc⟩ rfl rfl hl.1 rfl (lv_room (Nat.le_of_ble_eq_true rfl)) d_Terms_popBindings_14 ⟨Nat.le_of_ble_eq_true rfl, Nat.le_of_ble_eq_true rfl⟩) hS (fun q _ h => hFc q h) hFc (fun r3' u t H locs ht hvm hr3 hB hz1 hk1 hS => ?_)
        subst hr3
        rw [ht] at hB
        obtain ⟨hP1, hD1⟩ := hB
        obtain ⟨hP, hD⟩ := jn_A hP hD [2, 3] [0, 1] rfl rfl (by decide) (by decide) hk1 hFc hP1 hD1
        obtain ⟨hP, hD⟩ : PD g A H [(a, .inr (7, [.ref a_shapes, .ref a_values, .ref a_firstParts, .int a_nodes, .ref a_parts, .ref a_variableNames, .ref a_became, .int a_variables, .int a_variablesLack, .int a_symbols, .int a_nodesBefore, .int a_partsBefore, .int a_variablesBefore])), (a_became, .inl (cs 0, a_became_n, .inl a_became_1f)), (stack, .inr (1, [.ref stack_items, .int a_size_3])), (stack_items, .inl (cs 0, stack_items_n, .inl stack_items_f))] := ⟨hP, hD⟩
        obtain ⟨hi4, hok⟩ := ck_some hok
        refine va_iast hx hb hK hP hD hS 1 0 rfl rfl (ixb_in hi4) d_Terms_popBindings_17 (fun H locs hP hD hS => ?_)
        obtain ⟨hP, hD⟩ : PD g A H [(a, .inr (7, [.ref a_shapes, .ref a_values, .ref a_firstParts, .int a_nodes, .ref a_parts, .ref a_variableNames, .ref a_became, .int a_variables, .int a_variablesLack, .int a_symbols, .int a_nodesBefore, .int a_partsBefore, .int a_variablesBefore])), (a_became, .inl (cs 0, a_became_n, .inl (upd a_became_1f x2_1.toNatClampNeg r3))), (stack, .inr (1, [.ref stack_items, .int a_size_3])), (stack_items, .inl (cs 0, stack_items_n, .inl stack_items_f))] := ⟨hP, hD⟩
        refine lv_iinc (k := 0) (v := x2_1 + (-1)) hx hb d_Terms_popBindings_18 hl rfl rfl (by decide) rfl (fun ls hl => ?_)
        have hl : lv_has ls 3 [(2, .int (x2_1 + (-1))), (0, .ref a), (1, .ref stack)] := hl
        refine lv_goto hx hb d_Terms_popBindings_21 rfl ?_
        exact ih1 _ _ _ (x2_1 + (-1)) a_size_3 (upd a_became_1f x2_1.toNatClampNeg r3) (lv_sub hl [0, 1, 2] rfl) (sub3 hP hD [0, 1, 2, 3] (by decide)) hS hok
  exact J1 n H locs ls (199 : Int32) stack_size a_became_f hl ⟨hP, hD⟩ hS hok
