theorem wd_281 : ((.fieldLink "UnifyBench$Names" 20 "UnifyBench$Names" "ends" "LUnifyBench$Ints;") : Cond) ∈ GW := gw_1 200 (by decide +kernel) rfl
theorem wd_282 : ((.methodLink "UnifyBench$Names" 92 y_Ints_at) : Cond) ∈ GW := gw_1 94 (by decide +kernel) rfl
theorem wd_283 : ((.fieldLink "UnifyBench$Names" 13 "UnifyBench$Names" "textsSize" "I") : Cond) ∈ GW := gw_1 199 (by decide +kernel) rfl
theorem wd_284 : ((.fieldLink "UnifyBench$Names" 7 "UnifyBench$Names" "texts" "[B") : Cond) ∈ GW := gw_1 198 (by decide +kernel) rfl
theorem wd_285 : ((.methodLink "UnifyBench$Names" 70 y_Ints_size) : Cond) ∈ GW := gw_1 86 (by decide +kernel) rfl
theorem wd_286 : ((.code y_Names_from prog_6_method_5_code 2 (some .int)) : Cond) ∈ GW := gw_1 93 (by decide +kernel) rfl
theorem wd_287 : ((.initialized "UnifyBench$Names") : Cond) ∈ GW := gw_1 3 (by decide +kernel) rfl
theorem wd_288 : ((.methodLink "UnifyBench$Names" 73 y_Names_from) : Cond) ∈ GW := gw_1 90 (by decide +kernel) rfl
theorem wd_289 : ((.instanceMethod y_Names_from) : Cond) ∈ GW := gw_1 91 (by decide +kernel) rfl
theorem wd_290 : ((.selects "UnifyBench$Names" y_Names_from y_Names_from) : Cond) ∈ GW := gw_1 92 (by decide +kernel) rfl
theorem wd_291 : ((.methodLink "UnifyBench$Names" 77 y_Arrays_copyOf_aBI) : Cond) ∈ GW := gw_1 150 (by decide +kernel) rfl
theorem wd_292 : ((.code y_Names_byteAt prog_6_method_7_code 2 (some .int)) : Cond) ∈ GW := gw_1 177 (by decide +kernel) rfl
theorem wd_293 : ((.methodLink "UnifyBench$Names" 121 y_Names_byteAt) : Cond) ∈ GW := gw_1 174 (by decide +kernel) rfl
theorem wd_294 : ((.instanceMethod y_Names_byteAt) : Cond) ∈ GW := gw_1 175 (by decide +kernel) rfl
theorem wd_295 : ((.selects "UnifyBench$Names" y_Names_byteAt y_Names_byteAt) : Cond) ∈ GW := gw_1 176 (by decide +kernel) rfl
theorem wd_296 : ((.code y_Names_rowOf prog_6_method_18_code 5 (some .int)) : Cond) ∈ GW := gw_1 173 (by decide +kernel) rfl
theorem wd_297 : ((.methodLink "UnifyBench$Names" 81 y_Names_rowOf) : Cond) ∈ GW := gw_1 170 (by decide +kernel) rfl
theorem wd_298 : ((.instanceMethod y_Names_rowOf) : Cond) ∈ GW := gw_1 172 (by decide +kernel) rfl
theorem wd_299 : (.selects R_Names y_Names_rowOf y_Names_rowOf : Cond) ∈ GW := gw_pr 0 (by decide +kernel) rfl
theorem wd_300 : ((.fieldLink "UnifyBench$Names" 27 "UnifyBench$Names" "newest" "[I") : Cond) ∈ GW := gw_1 202 (by decide +kernel) rfl
theorem wd_301 : ((.methodLink "UnifyBench$Names" 95 y_Ints_push) : Cond) ∈ GW := gw_1 186 (by decide +kernel) rfl
theorem wd_302 : ((.fieldLink "UnifyBench$Names" 24 "UnifyBench$Names" "older" "LUnifyBench$Ints;") : Cond) ∈ GW := gw_1 201 (by decide +kernel) rfl
theorem wd_303 : ((.code y_Names_to prog_6_method_6_code 2 (some .int)) : Cond) ∈ GW := gw_1 181 (by decide +kernel) rfl
theorem wd_304 : ((.methodLink "UnifyBench$Names" 85 y_Names_to) : Cond) ∈ GW := gw_1 178 (by decide +kernel) rfl
theorem wd_305 : ((.instanceMethod y_Names_to) : Cond) ∈ GW := gw_1 179 (by decide +kernel) rfl
theorem wd_306 : ((.selects "UnifyBench$Names" y_Names_to y_Names_to) : Cond) ∈ GW := gw_1 180 (by decide +kernel) rfl
theorem wd_307 : ((.code y_Names_areSameTexts prog_6_method_19_code 5 (some .boolean)) : Cond) ∈ GW := gw_1 185 (by decide +kernel) rfl
theorem wd_308 : ((.methodLink "UnifyBench$Names" 88 y_Names_areSameTexts) : Cond) ∈ GW := gw_1 182 (by decide +kernel) rfl
theorem wd_309 : ((.instanceMethod y_Names_areSameTexts) : Cond) ∈ GW := gw_1 184 (by decide +kernel) rfl
theorem wd_310 : (.selects R_Names y_Names_areSameTexts y_Names_areSameTexts : Cond) ∈ GW := gw_pr 1 (by decide +kernel) rfl
theorem wd_311 : ((.constant "UnifyBench$Names" 114 1000000) : Cond) ∈ GW := gw_5 7 (by decide +kernel) rfl
theorem wd_312 : ((.fieldLink "UnifyBench$Names" 31 "UnifyBench$Names" "sizeBefore" "I") : Cond) ∈ GW := gw_1 203 (by decide +kernel) rfl
theorem wd_313 : ((.methodLink "UnifyBench$Names" 118 y_Ints_pop) : Cond) ∈ GW := gw_3 17 (by decide +kernel) rfl
theorem wd_314 : ((.code y_Names_forgetFrom prog_6_method_16_code 3 none) : Cond) ∈ GW := gw_3 16 (by decide +kernel) rfl
theorem wd_315 : ((.methodLink "UnifyBench$Names" 115 y_Names_forgetFrom) : Cond) ∈ GW := gw_3 13 (by decide +kernel) rfl
theorem wd_316 : ((.instanceMethod y_Names_forgetFrom) : Cond) ∈ GW := gw_3 15 (by decide +kernel) rfl
theorem wd_317 : (.selects R_Names y_Names_forgetFrom y_Names_forgetFrom : Cond) ∈ GW := gw_pr 2 (by decide +kernel) rfl
theorem d_Names_from_0 : decode b_Names_from 0 = .ok (.iload_n 1, 1) := by decide +kernel
theorem d_Names_from_1 : decode b_Names_from 1 = .ok (.ifCond .ne 7, 3) := by decide +kernel
theorem d_Names_from_4 : decode b_Names_from 4 = .ok (.iconst 0, 1) := by decide +kernel
theorem d_Names_from_5 : decode b_Names_from 5 = .ok (.goto 13, 3) := by decide +kernel
theorem d_Names_from_8 : decode b_Names_from 8 = .ok (.aload_n 0, 1) := by decide +kernel
theorem d_Names_from_9 : decode b_Names_from 9 = .ok (.getfield 20, 3) := by decide +kernel
theorem d_Names_from_12 : decode b_Names_from 12 = .ok (.iload_n 1, 1) := by decide +kernel
theorem d_Names_from_13 : decode b_Names_from 13 = .ok (.iconst 1, 1) := by decide +kernel
theorem d_Names_from_14 : decode b_Names_from 14 = .ok (.isub, 1) := by decide +kernel
theorem d_Names_from_15 : decode b_Names_from 15 = .ok (.invokevirtual 92, 3) := by decide +kernel
theorem d_Names_from_18 : decode b_Names_from 18 = .ok (.ireturn, 1) := by decide +kernel
def p_Names_from (name : Int32) (a_textsSize : Int32) (a_sizeBefore : Int32) (a_ends_size : Int32) (a_ends_items_n : Nat) (a_ends_items_f : Nat → Int32) : Option Int32 := if name = 0 then (some (0 : Int32)) else ((p_Ints_at (name - 1) a_ends_size a_ends_items_n a_ends_items_f).bind (fun r2 => some r2))
set_option maxHeartbeats 4000000 in
set_option maxRecDepth 100000 in
theorem c_Names_from (l : Launch) (g : va_G) (cs : Nat → ClassId) (ka : Nat → Nat) (a_texts : Nat) (a_older : Nat) (a_newest : Nat) (a a_ends a_ends_items : Nat) (sz : Nat) (name : Int32) (a_textsSize : Int32) (a_sizeBefore : Int32) (a_ends_size : Int32) (a_ends_items_n : Nat) (a_ends_items_f : Nat → Int32) (r : Int32) (hok : p_Names_from name a_textsSize a_sizeBefore a_ends_size a_ends_items_n a_ends_items_f = some r) : Met l y_Names_from (.code y_Names_from b_Names_from 2 (some .int) :: GW) { frames := 1, cells := 0, slots := 0, locals := 21 } (va_Pc [.ref a, .int name] (gP g cs ka [(a, .inr (2, [.ref a_texts, .int a_textsSize, .ref a_ends, .ref a_older, .ref a_newest, .int a_sizeBefore])), (a_ends, .inr (1, [.ref a_ends_items, .int a_ends_size])), (a_ends_items, .inl (cs 0, a_ends_items_n, .inl a_ends_items_f))] sz)) (va_Qi (fun (r' : Int32) (_ : Unit) => r = r') (fun _ t => va_P g classes [(a, .inr (2, [.ref a_texts, .int a_textsSize, .ref a_ends, .ref a_older, .ref a_newest, .int a_sizeBefore])), (a_ends, .inr (1, [.ref a_ends_items, .int a_ends_size])), (a_ends_items, .inl (cs 0, a_ends_items_n, .inl a_ends_items_f))] t.heap ∧ va_D (va_A [(a, .inr (2, [.ref a_texts, .int a_textsSize, .ref a_ends, .ref a_older, .ref a_newest, .int a_sizeBefore])), (a_ends, .inr (1, [.ref a_ends_items, .int a_ends_size])), (a_ends_items, .inl (cs 0, a_ends_items_n, .inl a_ends_items_f))] sz) [(a, .inr (2, [.ref a_texts, .int a_textsSize, .ref a_ends, .ref a_older, .ref a_newest, .int a_sizeBefore])), (a_ends, .inr (1, [.ref a_ends_items, .int a_ends_size])), (a_ends_items, .inl (cs 0, a_ends_items_n, .inl a_ends_items_f))]) (va_A [(a, .inr (2, [.ref a_texts, .int a_textsSize, .ref a_ends, .ref a_older, .ref a_newest, .int a_sizeBefore])), (a_ends, .inr (1, [.ref a_ends_items, .int a_ends_size])), (a_ends_items, .inl (cs 0, a_ends_items_n, .inl a_ends_items_f))] sz)) 0 0 (va_A [(a, .inr (2, [.ref a_texts, .int a_textsSize, .ref a_ends, .ref a_older, .ref a_newest, .int a_sizeBefore])), (a_ends, .inr (1, [.ref a_ends_items, .int a_ends_size])), (a_ends_items, .inl (cs 0, a_ends_items_n, .inl a_ends_items_f))] sz) := by
  refine Met.ofW (cc := b_Names_from) (maxL := 2) (ret := (some .int)) (by decide) rfl ?_
  intro p e s m args below meth c s₁ B hml hv
  obtain ⟨rfl, hsz, hP, hK, hD0, hgl, hkn, hkr⟩ := hv
  have hx := B.exec
  have hb := B.bytes
  have hr := B.returns
  have hg : ∀ w ∈ GW, w.before ([.ref a, .int name] : List Value).toArray s = true := fun w hw => atoms_spec (ws := .code y_Names_from b_Names_from 2 (some .int) :: GW) B.pre w (List.mem_cons_of_mem _ hw)
  have hown : s.vm.findClass R_Names = some m.cls := findClass_of_methodNamed B.named
  have hlocks := B.notSynchronized
  subst hsz
  have hD := hD0.self (sz := s.heap.size)
  generalize hAe : va_A [(a, .inr (2, [.ref a_texts, .int a_textsSize, .ref a_ends, .ref a_older, .ref a_newest, .int a_sizeBefore])), (a_ends, .inr (1, [.ref a_ends_items, .int a_ends_size])), (a_ends_items, .inl (cs 0, a_ends_items_n, .inl a_ends_items_f))] s.heap.size = A at hD hkn ⊢
  have hA : ∀ q : Nat, s.heap.size ≤ q → A q := fun q h => by rw [← hAe]; exact Or.inr h
  have hS : va_S A s.heap s.heap [] := va_S.rf
  have hP : va_P g classes [(a, .inr (2, [.ref a_texts, .int a_textsSize, .ref a_ends, .ref a_older, .ref a_newest, .int a_sizeBefore])), (a_ends, .inr (1, [.ref a_ends_items, .int a_ends_size])), (a_ends_items, .inl (cs 0, a_ends_items_n, .inl a_ends_items_f))] s.heap := hP
  have hl := lv_entry ([.ref a, .int name]) (n := 2) (Nat.le_of_ble_eq_true rfl)
  rw [lg_entry_eq]
  generalize (lg_sl ([.ref a, .int name]) ++ List.replicate (2 - (lg_sl ([.ref a, .int name])).length) Slot.unset).toArray = ls at hl ⊢
  have hl : lv_has ls 2 [(0, .ref a), (1, .int name)] := hl
  refine gq (fun Q hQ => ?_)
  obtain ⟨H, hH⟩ : ∃ H : Heap, H = s.heap := ⟨_, rfl⟩
  rw [← hH] at hP
  have hS : va_S A s.heap H [] := by rw [hH]; exact hS
  refine W.eqH hH ?_
  obtain ⟨locs, hlc⟩ : ∃ L : List Loc, L = [] := ⟨_, rfl⟩
  rw [← hlc] at hS ⊢
  unfold p_Names_from at hok
  refine lv_iload_n hx hb d_Names_from_0 rfl (lv_at hl 1 rfl) ?_
  refine lv_if_ne hx hb d_Names_from_1 rfl (fun h1 => ?_) (fun h1 => ?_)
  · rw [if_neg h1] at hok
    refine lv_aload_n hx hb d_Names_from_8 rfl (lv_at hl 0 rfl) ?_
    refine va_get (D := g) (ci := 2) (v := .ref a_ends) (C := R_Names) (T := F_Names) (N := 6) hx hb hg ul_Names hown hK hP 0 rfl rfl 2 (by decide) (hg _ wd_281) (fun _ h9 => h9) rfl d_Names_from_9 ?_
    refine lv_iload_n hx hb d_Names_from_12 rfl (lv_at hl 1 rfl) ?_
    refine lv_iconst (v := 1) hx hb d_Names_from_13 (by decide) ?_
    refine lv_isub hx hb d_Names_from_14 ?_
    obtain ⟨r2, hc2, hok⟩ := bd_some hok
    obtain ⟨hPc, hDc, hFc⟩ := cut0 (wc := [(a_ends, .inr (1, [.ref a_ends_items, .int a_ends_size])), (a_ends_items, .inl (cs 0, a_ends_items_n, .inl a_ends_items_f))]) hP hD hS hA [1, 2] (by decide) rfl
    refine va_calli (va_runV (As := [.int (name - 1)]) (rest := []) ⟨hx, hb, hml, hown, hg⟩ (c_Ints_at l g cs ka a_ends a_ends_items H.size (name - 1) a_ends_size a_ends_items_n a_ends_items_f r2 hc2) (cwV (C := R_Ints) 1 hg (gw_V wd_282 wd_270 wd_271 wd_234 wd_268) rfl rfl rfl (by decide +kernel) ⟨Nat.le_of_ble_eq_true rfl, Nat.le_of_ble_eq_true rfl⟩) ⟨gP_blind, va_recv (q0 := 1) (ci := 1) (q := (R_Ints, F_Ints, 2)) hK hP rfl rfl, gP_pre hPc hDc hK hgl hkn hkr hS hFc⟩ rfl rfl hl.1 rfl (lv_room (Nat.le_of_ble_eq_true rfl)) d_Names_from_15 ⟨Nat.le_of_ble_eq_true rfl, Nat.le_of_ble_eq_true rfl⟩) hS (fun q _ h => hFc q h) hFc (fun r2' u t H locs ht hvm hr2 hB hz1 hk1 hS => ?_)
    subst hr2
    rw [ht] at hB
    obtain ⟨hP1, hD1⟩ := hB
    obtain ⟨hP, hD⟩ := jn_A hP hD [1, 2] [0] rfl rfl (by decide) (by decide) hk1 hFc hP1 hD1
    obtain ⟨hP, hD⟩ : PD g A H [(a, .inr (2, [.ref a_texts, .int a_textsSize, .ref a_ends, .ref a_older, .ref a_newest, .int a_sizeBefore])), (a_ends, .inr (1, [.ref a_ends_items, .int a_ends_size])), (a_ends_items, .inl (cs 0, a_ends_items_n, .inl a_ends_items_f))] := ⟨hP, hD⟩
    have hq := Option.some.inj hok
    have hq0 := hq
    subst hq0
    obtain ⟨hP9, hD9⟩ := sub2 (ws' := [(a, .inr (2, [.ref a_texts, .int a_textsSize, .ref a_ends, .ref a_older, .ref a_newest, .int a_sizeBefore])), (a_ends, .inr (1, [.ref a_ends_items, .int a_ends_size])), (a_ends_items, .inl (cs 0, a_ends_items_n, .inl a_ends_items_f))]) hP hD [0, 1, 2] rfl (by decide) rfl
    rw [hQ]
    exact W.iret (v := r2) hx hb hr (fun t ht hW => ⟨⟨_, (), rfl, rfl, by rw [ht]; exact hP9, hD9⟩, hS.F ht⟩) hS.2.2 d_Names_from_18
  · rw [if_pos h1] at hok
    refine lv_iconst (v := 0) hx hb d_Names_from_4 (by decide) ?_
    refine lv_goto hx hb d_Names_from_5 rfl ?_
    have hq := Option.some.inj hok
    have hq0 := hq
    subst hq0
    obtain ⟨hP9, hD9⟩ := sub2 (ws' := [(a, .inr (2, [.ref a_texts, .int a_textsSize, .ref a_ends, .ref a_older, .ref a_newest, .int a_sizeBefore])), (a_ends, .inr (1, [.ref a_ends_items, .int a_ends_size])), (a_ends_items, .inl (cs 0, a_ends_items_n, .inl a_ends_items_f))]) hP hD [0, 1, 2] rfl (by decide) rfl
    rw [hQ]
    exact W.iret (v := 0) hx hb hr (fun t ht hW => ⟨⟨_, (), rfl, rfl, by rw [ht]; exact hP9, hD9⟩, hS.F ht⟩) hS.2.2 d_Names_from_18

theorem d_Names_to_0 : decode b_Names_to 0 = .ok (.aload_n 0, 1) := by decide +kernel
theorem d_Names_to_1 : decode b_Names_to 1 = .ok (.getfield 20, 3) := by decide +kernel
theorem d_Names_to_4 : decode b_Names_to 4 = .ok (.iload_n 1, 1) := by decide +kernel
theorem d_Names_to_5 : decode b_Names_to 5 = .ok (.invokevirtual 92, 3) := by decide +kernel
theorem d_Names_to_8 : decode b_Names_to 8 = .ok (.ireturn, 1) := by decide +kernel
def p_Names_to (name : Int32) (a_textsSize : Int32) (a_sizeBefore : Int32) (a_ends_size : Int32) (a_ends_items_n : Nat) (a_ends_items_f : Nat → Int32) : Option Int32 := (p_Ints_at name a_ends_size a_ends_items_n a_ends_items_f).bind (fun r1 => some r1)
set_option maxHeartbeats 4000000 in
set_option maxRecDepth 100000 in
theorem c_Names_to (l : Launch) (g : va_G) (cs : Nat → ClassId) (ka : Nat → Nat) (a_texts : Nat) (a_older : Nat) (a_newest : Nat) (a a_ends a_ends_items : Nat) (sz : Nat) (name : Int32) (a_textsSize : Int32) (a_sizeBefore : Int32) (a_ends_size : Int32) (a_ends_items_n : Nat) (a_ends_items_f : Nat → Int32) (r : Int32) (hok : p_Names_to name a_textsSize a_sizeBefore a_ends_size a_ends_items_n a_ends_items_f = some r) : Met l y_Names_to (.code y_Names_to b_Names_to 2 (some .int) :: GW) { frames := 1, cells := 0, slots := 0, locals := 21 } (va_Pc [.ref a, .int name] (gP g cs ka [(a, .inr (2, [.ref a_texts, .int a_textsSize, .ref a_ends, .ref a_older, .ref a_newest, .int a_sizeBefore])), (a_ends, .inr (1, [.ref a_ends_items, .int a_ends_size])), (a_ends_items, .inl (cs 0, a_ends_items_n, .inl a_ends_items_f))] sz)) (va_Qi (fun (r' : Int32) (_ : Unit) => r = r') (fun _ t => va_P g classes [(a, .inr (2, [.ref a_texts, .int a_textsSize, .ref a_ends, .ref a_older, .ref a_newest, .int a_sizeBefore])), (a_ends, .inr (1, [.ref a_ends_items, .int a_ends_size])), (a_ends_items, .inl (cs 0, a_ends_items_n, .inl a_ends_items_f))] t.heap ∧ va_D (va_A [(a, .inr (2, [.ref a_texts, .int a_textsSize, .ref a_ends, .ref a_older, .ref a_newest, .int a_sizeBefore])), (a_ends, .inr (1, [.ref a_ends_items, .int a_ends_size])), (a_ends_items, .inl (cs 0, a_ends_items_n, .inl a_ends_items_f))] sz) [(a, .inr (2, [.ref a_texts, .int a_textsSize, .ref a_ends, .ref a_older, .ref a_newest, .int a_sizeBefore])), (a_ends, .inr (1, [.ref a_ends_items, .int a_ends_size])), (a_ends_items, .inl (cs 0, a_ends_items_n, .inl a_ends_items_f))]) (va_A [(a, .inr (2, [.ref a_texts, .int a_textsSize, .ref a_ends, .ref a_older, .ref a_newest, .int a_sizeBefore])), (a_ends, .inr (1, [.ref a_ends_items, .int a_ends_size])), (a_ends_items, .inl (cs 0, a_ends_items_n, .inl a_ends_items_f))] sz)) 0 0 (va_A [(a, .inr (2, [.ref a_texts, .int a_textsSize, .ref a_ends, .ref a_older, .ref a_newest, .int a_sizeBefore])), (a_ends, .inr (1, [.ref a_ends_items, .int a_ends_size])), (a_ends_items, .inl (cs 0, a_ends_items_n, .inl a_ends_items_f))] sz) := by
  refine Met.ofW (cc := b_Names_to) (maxL := 2) (ret := (some .int)) (by decide) rfl ?_
  intro p e s m args below meth c s₁ B hml hv
  obtain ⟨rfl, hsz, hP, hK, hD0, hgl, hkn, hkr⟩ := hv
  have hx := B.exec
  have hb := B.bytes
  have hr := B.returns
  have hg : ∀ w ∈ GW, w.before ([.ref a, .int name] : List Value).toArray s = true := fun w hw => atoms_spec (ws := .code y_Names_to b_Names_to 2 (some .int) :: GW) B.pre w (List.mem_cons_of_mem _ hw)
  have hown : s.vm.findClass R_Names = some m.cls := findClass_of_methodNamed B.named
  have hlocks := B.notSynchronized
  subst hsz
  have hD := hD0.self (sz := s.heap.size)
  generalize hAe : va_A [(a, .inr (2, [.ref a_texts, .int a_textsSize, .ref a_ends, .ref a_older, .ref a_newest, .int a_sizeBefore])), (a_ends, .inr (1, [.ref a_ends_items, .int a_ends_size])), (a_ends_items, .inl (cs 0, a_ends_items_n, .inl a_ends_items_f))] s.heap.size = A at hD hkn ⊢
  have hA : ∀ q : Nat, s.heap.size ≤ q → A q := fun q h => by rw [← hAe]; exact Or.inr h
  have hS : va_S A s.heap s.heap [] := va_S.rf
  have hP : va_P g classes [(a, .inr (2, [.ref a_texts, .int a_textsSize, .ref a_ends, .ref a_older, .ref a_newest, .int a_sizeBefore])), (a_ends, .inr (1, [.ref a_ends_items, .int a_ends_size])), (a_ends_items, .inl (cs 0, a_ends_items_n, .inl a_ends_items_f))] s.heap := hP
  have hl := lv_entry ([.ref a, .int name]) (n := 2) (Nat.le_of_ble_eq_true rfl)
  rw [lg_entry_eq]
  generalize (lg_sl ([.ref a, .int name]) ++ List.replicate (2 - (lg_sl ([.ref a, .int name])).length) Slot.unset).toArray = ls at hl ⊢
  have hl : lv_has ls 2 [(0, .ref a), (1, .int name)] := hl
  refine gq (fun Q hQ => ?_)
  obtain ⟨H, hH⟩ : ∃ H : Heap, H = s.heap := ⟨_, rfl⟩
  rw [← hH] at hP
  have hS : va_S A s.heap H [] := by rw [hH]; exact hS
  refine W.eqH hH ?_
  obtain ⟨locs, hlc⟩ : ∃ L : List Loc, L = [] := ⟨_, rfl⟩
  rw [← hlc] at hS ⊢
  unfold p_Names_to at hok
  refine lv_aload_n hx hb d_Names_to_0 rfl (lv_at hl 0 rfl) ?_
  refine va_get (D := g) (ci := 2) (v := .ref a_ends) (C := R_Names) (T := F_Names) (N := 6) hx hb hg ul_Names hown hK hP 0 rfl rfl 2 (by decide) (hg _ wd_281) (fun _ h9 => h9) rfl d_Names_to_1 ?_
  refine lv_iload_n hx hb d_Names_to_4 rfl (lv_at hl 1 rfl) ?_
  obtain ⟨r1, hc1, hok⟩ := bd_some hok
  obtain ⟨hPc, hDc, hFc⟩ := cut0 (wc := [(a_ends, .inr (1, [.ref a_ends_items, .int a_ends_size])), (a_ends_items, .inl (cs 0, a_ends_items_n, .inl a_ends_items_f))]) hP hD hS hA [1, 2] (by decide) rfl
  refine va_calli (va_runV (As := [.int name]) (rest := []) ⟨hx, hb, hml, hown, hg⟩ (c_Ints_at l g cs ka a_ends a_ends_items H.size name a_ends_size a_ends_items_n a_ends_items_f r1 hc1) (cwV (C := R_Ints) 1 hg (gw_V wd_282 wd_270 wd_271 wd_234 wd_268) rfl rfl rfl (by decide +kernel) ⟨Nat.le_of_ble_eq_true rfl, Nat.le_of_ble_eq_true rfl⟩) ⟨gP_blind, va_recv (q0 := 1) (ci := 1) (q := (R_Ints, F_Ints, 2)) hK hP rfl rfl, gP_pre hPc hDc hK hgl hkn hkr hS hFc⟩ rfl rfl hl.1 rfl (lv_room (Nat.le_of_ble_eq_true rfl)) d_Names_to_5 ⟨Nat.le_of_ble_eq_true rfl, Nat.le_of_ble_eq_true rfl⟩) hS (fun q _ h => hFc q h) hFc (fun r1' u t H locs ht hvm hr1 hB hz1 hk1 hS => ?_)
  subst hr1
  rw [ht] at hB
  obtain ⟨hP1, hD1⟩ := hB
  obtain ⟨hP, hD⟩ := jn_A hP hD [1, 2] [0] rfl rfl (by decide) (by decide) hk1 hFc hP1 hD1
  obtain ⟨hP, hD⟩ : PD g A H [(a, .inr (2, [.ref a_texts, .int a_textsSize, .ref a_ends, .ref a_older, .ref a_newest, .int a_sizeBefore])), (a_ends, .inr (1, [.ref a_ends_items, .int a_ends_size])), (a_ends_items, .inl (cs 0, a_ends_items_n, .inl a_ends_items_f))] := ⟨hP, hD⟩
  have hq := Option.some.inj hok
  have hq0 := hq
  subst hq0
  obtain ⟨hP9, hD9⟩ := sub2 (ws' := [(a, .inr (2, [.ref a_texts, .int a_textsSize, .ref a_ends, .ref a_older, .ref a_newest, .int a_sizeBefore])), (a_ends, .inr (1, [.ref a_ends_items, .int a_ends_size])), (a_ends_items, .inl (cs 0, a_ends_items_n, .inl a_ends_items_f))]) hP hD [0, 1, 2] rfl (by decide) rfl
  rw [hQ]
  exact W.iret (v := r1) hx hb hr (fun t ht hW => ⟨⟨_, (), rfl, rfl, by rw [ht]; exact hP9, hD9⟩, hS.F ht⟩) hS.2.2 d_Names_to_8

theorem d_Names_byteAt_0 : decode b_Names_byteAt 0 = .ok (.iload_n 1, 1) := by decide +kernel
theorem d_Names_byteAt_1 : decode b_Names_byteAt 1 = .ok (.ifCond .lt 24, 3) := by decide +kernel
theorem d_Names_byteAt_4 : decode b_Names_byteAt 4 = .ok (.iload_n 1, 1) := by decide +kernel
theorem d_Names_byteAt_5 : decode b_Names_byteAt 5 = .ok (.aload_n 0, 1) := by decide +kernel
theorem d_Names_byteAt_6 : decode b_Names_byteAt 6 = .ok (.getfield 13, 3) := by decide +kernel
theorem d_Names_byteAt_9 : decode b_Names_byteAt 9 = .ok (.if_icmp .ge 16, 3) := by decide +kernel
theorem d_Names_byteAt_12 : decode b_Names_byteAt 12 = .ok (.aload_n 0, 1) := by decide +kernel
theorem d_Names_byteAt_13 : decode b_Names_byteAt 13 = .ok (.getfield 7, 3) := by decide +kernel
theorem d_Names_byteAt_16 : decode b_Names_byteAt 16 = .ok (.iload_n 1, 1) := by decide +kernel
theorem d_Names_byteAt_17 : decode b_Names_byteAt 17 = .ok (.baload, 1) := by decide +kernel
theorem d_Names_byteAt_18 : decode b_Names_byteAt 18 = .ok (.sipush 255, 3) := by decide +kernel
theorem d_Names_byteAt_21 : decode b_Names_byteAt 21 = .ok (.iand, 1) := by decide +kernel
theorem d_Names_byteAt_22 : decode b_Names_byteAt 22 = .ok (.goto 4, 3) := by decide +kernel
theorem d_Names_byteAt_25 : decode b_Names_byteAt 25 = .ok (.iconst 0, 1) := by decide +kernel
theorem d_Names_byteAt_26 : decode b_Names_byteAt 26 = .ok (.ireturn, 1) := by decide +kernel
def p_Names_byteAt (i : Int32) (a_textsSize : Int32) (a_sizeBefore : Int32) (a_texts_n : Nat) (a_texts_f : Nat → Int32) : Option Int32 := if i < 0 then (some (0 : Int32)) else (if a_textsSize ≤ i then (some (0 : Int32)) else (ck (ixb i a_texts_n) (some ((a_texts_f i.toNatClampNeg) &&& 255))))
set_option maxHeartbeats 4000000 in
set_option maxRecDepth 100000 in
theorem c_Names_byteAt (l : Launch) (g : va_G) (cs : Nat → ClassId) (ka : Nat → Nat) (a_ends : Nat) (a_older : Nat) (a_newest : Nat) (a a_texts : Nat) (sz : Nat) (i : Int32) (a_textsSize : Int32) (a_sizeBefore : Int32) (a_texts_n : Nat) (a_texts_f : Nat → Int32) (r : Int32) (hok : p_Names_byteAt i a_textsSize a_sizeBefore a_texts_n a_texts_f = some r) : Met l y_Names_byteAt (.code y_Names_byteAt b_Names_byteAt 2 (some .int) :: GW) { frames := 0, cells := 0, slots := 0, locals := 0 } (va_Pc [.ref a, .int i] (gP g cs ka [(a, .inr (2, [.ref a_texts, .int a_textsSize, .ref a_ends, .ref a_older, .ref a_newest, .int a_sizeBefore])), (a_texts, .inl (cs 1, a_texts_n, .inl a_texts_f))] sz)) (va_Qi (fun (r' : Int32) (_ : Unit) => r = r') (fun _ t => va_P g classes [(a, .inr (2, [.ref a_texts, .int a_textsSize, .ref a_ends, .ref a_older, .ref a_newest, .int a_sizeBefore])), (a_texts, .inl (cs 1, a_texts_n, .inl a_texts_f))] t.heap ∧ va_D (va_A [(a, .inr (2, [.ref a_texts, .int a_textsSize, .ref a_ends, .ref a_older, .ref a_newest, .int a_sizeBefore])), (a_texts, .inl (cs 1, a_texts_n, .inl a_texts_f))] sz) [(a, .inr (2, [.ref a_texts, .int a_textsSize, .ref a_ends, .ref a_older, .ref a_newest, .int a_sizeBefore])), (a_texts, .inl (cs 1, a_texts_n, .inl a_texts_f))]) (va_A [(a, .inr (2, [.ref a_texts, .int a_textsSize, .ref a_ends, .ref a_older, .ref a_newest, .int a_sizeBefore])), (a_texts, .inl (cs 1, a_texts_n, .inl a_texts_f))] sz)) 0 0 (va_A [(a, .inr (2, [.ref a_texts, .int a_textsSize, .ref a_ends, .ref a_older, .ref a_newest, .int a_sizeBefore])), (a_texts, .inl (cs 1, a_texts_n, .inl a_texts_f))] sz) := by
  refine Met.ofW (cc := b_Names_byteAt) (maxL := 2) (ret := (some .int)) (by decide) rfl ?_
  intro p e s m args below meth c s₁ B hml hv
  obtain ⟨rfl, hsz, hP, hK, hD0, hgl, hkn, hkr⟩ := hv
  have hx := B.exec
  have hb := B.bytes
  have hr := B.returns
  have hg : ∀ w ∈ GW, w.before ([.ref a, .int i] : List Value).toArray s = true := fun w hw => atoms_spec (ws := .code y_Names_byteAt b_Names_byteAt 2 (some .int) :: GW) B.pre w (List.mem_cons_of_mem _ hw)
  have hown : s.vm.findClass R_Names = some m.cls := findClass_of_methodNamed B.named
  have hlocks := B.notSynchronized
  subst hsz
  have hD := hD0.self (sz := s.heap.size)
  generalize hAe : va_A [(a, .inr (2, [.ref a_texts, .int a_textsSize, .ref a_ends, .ref a_older, .ref a_newest, .int a_sizeBefore])), (a_texts, .inl (cs 1, a_texts_n, .inl a_texts_f))] s.heap.size = A at hD hkn ⊢
  have hA : ∀ q : Nat, s.heap.size ≤ q → A q := fun q h => by rw [← hAe]; exact Or.inr h
  have hS : va_S A s.heap s.heap [] := va_S.rf
  have hP : va_P g classes [(a, .inr (2, [.ref a_texts, .int a_textsSize, .ref a_ends, .ref a_older, .ref a_newest, .int a_sizeBefore])), (a_texts, .inl (cs 1, a_texts_n, .inl a_texts_f))] s.heap := hP
  have hl := lv_entry ([.ref a, .int i]) (n := 2) (Nat.le_of_ble_eq_true rfl)
  rw [lg_entry_eq]
  generalize (lg_sl ([.ref a, .int i]) ++ List.replicate (2 - (lg_sl ([.ref a, .int i])).length) Slot.unset).toArray = ls at hl ⊢
  have hl : lv_has ls 2 [(0, .ref a), (1, .int i)] := hl
  refine gq (fun Q hQ => ?_)
  obtain ⟨H, hH⟩ : ∃ H : Heap, H = s.heap := ⟨_, rfl⟩
  rw [← hH] at hP
  have hS : va_S A s.heap H [] := by rw [hH]; exact hS
  refine W.eqH hH ?_
  obtain ⟨locs, hlc⟩ : ∃ L : List Loc, L = [] := ⟨_, rfl⟩
  rw [← hlc] at hS ⊢
  unfold p_Names_byteAt at hok
  refine lv_iload_n hx hb d_Names_byteAt_0 rfl (lv_at hl 1 rfl) ?_
  refine lv_if_lt hx hb d_Names_byteAt_1 rfl (fun h1 => ?_) (fun h1 => ?_)
  · rw [if_pos h1] at hok
    refine lv_iconst (v := 0) hx hb d_Names_byteAt_25 (by decide) ?_
    have hq := Option.some.inj hok
    have hq0 := hq
    subst hq0
    obtain ⟨hP9, hD9⟩ := sub2 (ws' := [(a, .inr (2, [.ref a_texts, .int a_textsSize, .ref a_ends, .ref a_older, .ref a_newest, .int a_sizeBefore])), (a_texts, .inl (cs 1, a_texts_n, .inl a_texts_f))]) hP hD [0, 1] rfl (by decide) rfl
    rw [hQ]
    exact W.iret (v := 0) hx hb hr (fun t ht hW => ⟨⟨_, (), rfl, rfl, by rw [ht]; exact hP9, hD9⟩, hS.F ht⟩) hS.2.2 d_Names_byteAt_26
  · rw [if_neg h1] at hok
    refine lv_iload_n hx hb d_Names_byteAt_4 rfl (lv_at hl 1 rfl) ?_
    refine lv_aload_n hx hb d_Names_byteAt_5 rfl (lv_at hl 0 rfl) ?_
    refine va_get (D := g) (ci := 2) (v := .int a_textsSize) (C := R_Names) (T := F_Names) (N := 6) hx hb hg ul_Names hown hK hP 0 rfl rfl 1 (by decide) (hg _ wd_283) (fun _ h9 => h9) rfl d_Names_byteAt_6 ?_
    refine lv_icmp_ge hx hb d_Names_byteAt_9 rfl (fun h2 => ?_) (fun h2 => ?_)
    · rw [if_pos h2] at hok
      refine lv_iconst (v := 0) hx hb d_Names_byteAt_25 (by decide) ?_
      have hq := Option.some.inj hok
      have hq0 := hq
      subst hq0
      obtain ⟨hP9, hD9⟩ := sub2 (ws' := [(a, .inr (2, [.ref a_texts, .int a_textsSize, .ref a_ends, .ref a_older, .ref a_newest, .int a_sizeBefore])), (a_texts, .inl (cs 1, a_texts_n, .inl a_texts_f))]) hP hD [0, 1] rfl (by decide) rfl
      rw [hQ]
      exact W.iret (v := 0) hx hb hr (fun t ht hW => ⟨⟨_, (), rfl, rfl, by rw [ht]; exact hP9, hD9⟩, hS.F ht⟩) hS.2.2 d_Names_byteAt_26
    · rw [if_neg h2] at hok
      refine lv_aload_n hx hb d_Names_byteAt_12 rfl (lv_at hl 0 rfl) ?_
      refine va_get (D := g) (ci := 2) (v := .ref a_texts) (C := R_Names) (T := F_Names) (N := 6) hx hb hg ul_Names hown hK hP 0 rfl rfl 0 (by decide) (hg _ wd_284) (fun _ h9 => h9) rfl d_Names_byteAt_13 ?_
      refine lv_iload_n hx hb d_Names_byteAt_16 rfl (lv_at hl 1 rfl) ?_
      obtain ⟨hi3, hok⟩ := ck_some hok
      refine va_bald hx hb hK hP 1 1 rfl rfl (ixb_in hi3) d_Names_byteAt_17 ?_
      refine lv_sipush (v := 255) hx hb d_Names_byteAt_18 (by decide) ?_
      refine lv_iand hx hb d_Names_byteAt_21 ?_
      refine lv_goto hx hb d_Names_byteAt_22 rfl ?_
      have hq := Option.some.inj hok
      have hq0 := hq
      subst hq0
      obtain ⟨hP9, hD9⟩ := sub2 (ws' := [(a, .inr (2, [.ref a_texts, .int a_textsSize, .ref a_ends, .ref a_older, .ref a_newest, .int a_sizeBefore])), (a_texts, .inl (cs 1, a_texts_n, .inl a_texts_f))]) hP hD [0, 1] rfl (by decide) rfl
      rw [hQ]
      exact W.iret (v := (a_texts_f i.toNatClampNeg) &&& 255) hx hb hr (fun t ht hW => ⟨⟨_, (), rfl, rfl, by rw [ht]; exact hP9, hD9⟩, hS.F ht⟩) hS.2.2 d_Names_byteAt_26

theorem d_Names_startText_0 : decode b_Names_startText 0 = .ok (.aload_n 0, 1) := by decide +kernel
theorem d_Names_startText_1 : decode b_Names_startText 1 = .ok (.aload_n 0, 1) := by decide +kernel
theorem d_Names_startText_2 : decode b_Names_startText 2 = .ok (.aload_n 0, 1) := by decide +kernel
theorem d_Names_startText_3 : decode b_Names_startText 3 = .ok (.getfield 20, 3) := by decide +kernel
theorem d_Names_startText_6 : decode b_Names_startText 6 = .ok (.invokevirtual 70, 3) := by decide +kernel
theorem d_Names_startText_9 : decode b_Names_startText 9 = .ok (.invokevirtual 73, 3) := by decide +kernel
theorem d_Names_startText_12 : decode b_Names_startText 12 = .ok (.putfield 13, 3) := by decide +kernel
theorem d_Names_startText_15 : decode b_Names_startText 15 = .ok (.return_, 1) := by decide +kernel
def p_Names_startText (a_textsSize : Int32) (a_sizeBefore : Int32) (a_ends_size : Int32) (a_ends_items_n : Nat) (a_ends_items_f : Nat → Int32) : Option Int32 := (p_Ints_size a_ends_size).bind (fun r1 => (p_Names_from r1 a_textsSize a_sizeBefore a_ends_size a_ends_items_n a_ends_items_f).bind (fun r2 => some r2))
set_option maxHeartbeats 4000000 in
set_option maxRecDepth 100000 in
theorem c_Names_startText (l : Launch) (g : va_G) (cs : Nat → ClassId) (ka : Nat → Nat) (a_texts : Nat) (a_older : Nat) (a_newest : Nat) (a a_ends a_ends_items : Nat) (sz : Nat) (a_textsSize : Int32) (a_sizeBefore : Int32) (a_ends_size : Int32) (a_ends_items_n : Nat) (a_ends_items_f : Nat → Int32) (o_a_textsSize : Int32) (hok : p_Names_startText a_textsSize a_sizeBefore a_ends_size a_ends_items_n a_ends_items_f = some o_a_textsSize) : Met l y_Names_startText (.code y_Names_startText b_Names_startText 1 none :: GW) { frames := 2, cells := 0, slots := 0, locals := 42 } (va_Pc [.ref a] (gP g cs ka [(a, .inr (2, [.ref a_texts, .int a_textsSize, .ref a_ends, .ref a_older, .ref a_newest, .int a_sizeBefore])), (a_ends, .inr (1, [.ref a_ends_items, .int a_ends_size])), (a_ends_items, .inl (cs 0, a_ends_items_n, .inl a_ends_items_f))] sz)) (va_Qv (fun _ : Unit => True) (fun _ t => va_P g classes [(a, .inr (2, [.ref a_texts, .int o_a_textsSize, .ref a_ends, .ref a_older, .ref a_newest, .int a_sizeBefore])), (a_ends, .inr (1, [.ref a_ends_items, .int a_ends_size])), (a_ends_items, .inl (cs 0, a_ends_items_n, .inl a_ends_items_f))] t.heap ∧ va_D (va_A [(a, .inr (2, [.ref a_texts, .int a_textsSize, .ref a_ends, .ref a_older, .ref a_newest, .int a_sizeBefore])), (a_ends, .inr (1, [.ref a_ends_items, .int a_ends_size])), (a_ends_items, .inl (cs 0, a_ends_items_n, .inl a_ends_items_f))] sz) [(a, .inr (2, [.ref a_texts, .int o_a_textsSize, .ref a_ends, .ref a_older, .ref a_newest, .int a_sizeBefore])), (a_ends, .inr (1, [.ref a_ends_items, .int a_ends_size])), (a_ends_items, .inl (cs 0, a_ends_items_n, .inl a_ends_items_f))]) (va_A [(a, .inr (2, [.ref a_texts, .int a_textsSize, .ref a_ends, .ref a_older, .ref a_newest, .int a_sizeBefore])), (a_ends, .inr (1, [.ref a_ends_items, .int a_ends_size])), (a_ends_items, .inl (cs 0, a_ends_items_n, .inl a_ends_items_f))] sz)) 0 0 (va_A [(a, .inr (2, [.ref a_texts, .int a_textsSize, .ref a_ends, .ref a_older, .ref a_newest, .int a_sizeBefore])), (a_ends, .inr (1, [.ref a_ends_items, .int a_ends_size])), (a_ends_items, .inl (cs 0, a_ends_items_n, .inl a_ends_items_f))] sz) := by
  refine Met.ofW (cc := b_Names_startText) (maxL := 1) (ret := none) (by decide) rfl ?_
  intro p e s m args below meth c s₁ B hml hv
  obtain ⟨rfl, hsz, hP, hK, hD0, hgl, hkn, hkr⟩ := hv
  have hx := B.exec
  have hb := B.bytes
  have hr := B.returns
  have hg : ∀ w ∈ GW, w.before ([.ref a] : List Value).toArray s = true := fun w hw => atoms_spec (ws := .code y_Names_startText b_Names_startText 1 none :: GW) B.pre w (List.mem_cons_of_mem _ hw)
  have hown : s.vm.findClass R_Names = some m.cls := findClass_of_methodNamed B.named
  have hlocks := B.notSynchronized
  subst hsz
  have hD := hD0.self (sz := s.heap.size)
  generalize hAe : va_A [(a, .inr (2, [.ref a_texts, .int a_textsSize, .ref a_ends, .ref a_older, .ref a_newest, .int a_sizeBefore])), (a_ends, .inr (1, [.ref a_ends_items, .int a_ends_size])), (a_ends_items, .inl (cs 0, a_ends_items_n, .inl a_ends_items_f))] s.heap.size = A at hD hkn ⊢
  have hA : ∀ q : Nat, s.heap.size ≤ q → A q := fun q h => by rw [← hAe]; exact Or.inr h
  have hS : va_S A s.heap s.heap [] := va_S.rf
  have hP : va_P g classes [(a, .inr (2, [.ref a_texts, .int a_textsSize, .ref a_ends, .ref a_older, .ref a_newest, .int a_sizeBefore])), (a_ends, .inr (1, [.ref a_ends_items, .int a_ends_size])), (a_ends_items, .inl (cs 0, a_ends_items_n, .inl a_ends_items_f))] s.heap := hP
  have hl := lv_entry ([.ref a]) (n := 1) (Nat.le_of_ble_eq_true rfl)
  rw [lg_entry_eq]
  generalize (lg_sl ([.ref a]) ++ List.replicate (1 - (lg_sl ([.ref a])).length) Slot.unset).toArray = ls at hl ⊢
  have hl : lv_has ls 1 [(0, .ref a)] := hl
  refine gq (fun Q hQ => ?_)
  obtain ⟨H, hH⟩ : ∃ H : Heap, H = s.heap := ⟨_, rfl⟩
  rw [← hH] at hP
  have hS : va_S A s.heap H [] := by rw [hH]; exact hS
  refine W.eqH hH ?_
  obtain ⟨locs, hlc⟩ : ∃ L : List Loc, L = [] := ⟨_, rfl⟩
  rw [← hlc] at hS ⊢
  unfold p_Names_startText at hok
  refine lv_aload_n hx hb d_Names_startText_0 rfl (lv_at hl 0 rfl) ?_
  refine lv_aload_n hx hb d_Names_startText_1 rfl (lv_at hl 0 rfl) ?_
  refine lv_aload_n hx hb d_Names_startText_2 rfl (lv_at hl 0 rfl) ?_
  refine va_get (D := g) (ci := 2) (v := .ref a_ends) (C := R_Names) (T := F_Names) (N := 6) hx hb hg ul_Names hown hK hP 0 rfl rfl 2 (by decide) (hg _ wd_281) (fun _ h9 => h9) rfl d_Names_startText_3 ?_
  obtain ⟨r1, hc1, hok⟩ := bd_some hok
  obtain ⟨hPc, hDc, hFc⟩ := cut0 (wc := [(a_ends, .inr (1, [.ref a_ends_items, .int a_ends_size]))]) hP hD hS hA [1] (by decide) rfl
  refine va_calli (va_runV (As := []) (rest := [.ref a, .ref a]) ⟨hx, hb, hml, hown, hg⟩ (c_Ints_size l g cs ka a_ends_items a_ends H.size a_ends_size r1 hc1) (cwV (C := R_Ints) 0 hg (gw_V wd_285 wd_249 wd_250 wd_234 wd_247) rfl rfl rfl (by decide +kernel) ⟨Nat.le_of_ble_eq_true rfl, Nat.le_of_ble_eq_true rfl⟩) ⟨gP_blind, va_recv (q0 := 1) (ci := 1) (q := (R_Ints, F_Ints, 2)) hK hP rfl rfl, gP_pre hPc hDc hK hgl hkn hkr hS hFc⟩ rfl rfl hl.1 rfl (lv_room (Nat.le_of_ble_eq_true rfl)) d_Names_startText_6 ⟨Nat.le_of_ble_eq_true rfl, Nat.le_of_ble_eq_true rfl⟩) hS (fun q _ h => hFc q h) hFc (fun r1' u t H locs ht hvm hr1 hB hz1 hk1 hS => ?_)
  subst hr1
  rw [ht] at hB
  obtain ⟨hP1, hD1⟩ := hB
  obtain ⟨hP, hD⟩ := jn_A hP hD [1] [0, 2] rfl rfl (by decide) (by decide) hk1 hFc hP1 hD1
  obtain ⟨hP, hD⟩ : PD g A H [(a, .inr (2, [.ref a_texts, .int a_textsSize, .ref a_ends, .ref a_older, .ref a_newest, .int a_sizeBefore])), (a_ends_items, .inl (cs 0, a_ends_items_n, .inl a_ends_items_f)), (a_ends, .inr (1, [.ref a_ends_items, .int a_ends_size]))] := ⟨hP, hD⟩
  obtain ⟨r2, hc2, hok⟩ := bd_some hok
  obtain ⟨hPc, hDc, hFc⟩ := cut0 (wc := [(a, .inr (2, [.ref a_texts, .int a_textsSize, .ref a_ends, .ref a_older, .ref a_newest, .int a_sizeBefore])), (a_ends, .inr (1, [.ref a_ends_items, .int a_ends_size])), (a_ends_items, .inl (cs 0, a_ends_items_n, .inl a_ends_items_f))]) hP hD hS hA [0, 2, 1] (by decide) rfl
  refine va_calli (va_runV (As := [.int r1]) (rest := [.ref a]) ⟨hx, hb, hml, hown, hg⟩ (c_Names_from l g cs ka a_texts a_older a_newest a a_ends a_ends_items H.size r1 a_textsSize a_sizeBefore a_ends_size a_ends_items_n a_ends_items_f r2 hc2) (cwV (C := R_Names) 1 hg (gw_V wd_288 wd_289 wd_290 wd_287 wd_286) rfl rfl rfl (by decide +kernel) ⟨Nat.le_of_ble_eq_true rfl, Nat.le_of_ble_eq_true rfl⟩) ⟨gP_blind, va_recv (q0 := 0) (ci := 2) (q := (R_Names, F_Names, 6)) hK hP rfl rfl, gP_pre hPc hDc hK hgl hkn hkr hS hFc⟩ rfl rfl hl.1 rfl (lv_room (Nat.le_of_ble_eq_true rfl)) d_Names_startText_9 ⟨Nat.le_of_ble_eq_true rfl, Nat.le_of_ble_eq_true rfl⟩) hS (fun q _ h => hFc q h) hFc (fun r2' u t H locs ht hvm hr2 hB hz1 hk1 hS => ?_)
  subst hr2
  rw [ht] at hB
  obtain ⟨hP1, hD1⟩ := hB
  obtain ⟨hP, hD⟩ := jn_A hP hD [0, 2, 1] [] rfl rfl (by decide) (by decide) hk1 hFc hP1 hD1
  obtain ⟨hP, hD⟩ : PD g A H [(a, .inr (2, [.ref a_texts, .int a_textsSize, .ref a_ends, .ref a_older, .ref a_newest, .int a_sizeBefore])), (a_ends, .inr (1, [.ref a_ends_items, .int a_ends_size])), (a_ends_items, .inl (cs 0, a_ends_items_n, .inl a_ends_items_f))] := ⟨hP, hD⟩
  refine va_put (D := g) (ci := 2) (v := .int r2) (ty := .int) (C := R_Names) (T := F_Names) (N := 6) hx hb hg ul_Names t_Names tk_Names n_Names hown hK hP hD hS 0 rfl rfl 1 (by decide) (hg _ wd_283) (fun _ h9 => h9) rfl (by decide +kernel) rfl rfl (Nat.le_of_ble_eq_true rfl) d_Names_startText_12 (fun H locs hP hD hS => ?_)
  obtain ⟨hP, hD⟩ : PD g A H [(a, .inr (2, [.ref a_texts, .int r2, .ref a_ends, .ref a_older, .ref a_newest, .int a_sizeBefore])), (a_ends, .inr (1, [.ref a_ends_items, .int a_ends_size])), (a_ends_items, .inl (cs 0, a_ends_items_n, .inl a_ends_items_f))] := ⟨hP, hD⟩
  have hq := Option.some.inj hok
  have hq0 := hq
  subst hq0
  obtain ⟨hP9, hD9⟩ := sub2 (ws' := [(a, .inr (2, [.ref a_texts, .int r2, .ref a_ends, .ref a_older, .ref a_newest, .int a_sizeBefore])), (a_ends, .inr (1, [.ref a_ends_items, .int a_ends_size])), (a_ends_items, .inl (cs 0, a_ends_items_n, .inl a_ends_items_f))]) hP hD [0, 1, 2] rfl (by decide) rfl
  rw [hQ]
  exact W.vret hx hb hr (fun t ht hW => ⟨⟨(), rfl, trivial, by rw [ht]; exact hP9, hD9⟩, hS.F ht⟩) hS.2.2 d_Names_startText_15

theorem d_Names_addToText_0 : decode b_Names_addToText 0 = .ok (.aload_n 0, 1) := by decide +kernel
theorem d_Names_addToText_1 : decode b_Names_addToText 1 = .ok (.getfield 13, 3) := by decide +kernel
theorem d_Names_addToText_4 : decode b_Names_addToText 4 = .ok (.aload_n 0, 1) := by decide +kernel
theorem d_Names_addToText_5 : decode b_Names_addToText 5 = .ok (.getfield 7, 3) := by decide +kernel
theorem d_Names_addToText_8 : decode b_Names_addToText 8 = .ok (.arraylength, 1) := by decide +kernel
theorem d_Names_addToText_9 : decode b_Names_addToText 9 = .ok (.if_icmp .ne 20, 3) := by decide +kernel
theorem d_Names_addToText_12 : decode b_Names_addToText 12 = .ok (.aload_n 0, 1) := by decide +kernel
theorem d_Names_addToText_13 : decode b_Names_addToText 13 = .ok (.aload_n 0, 1) := by decide +kernel
theorem d_Names_addToText_14 : decode b_Names_addToText 14 = .ok (.getfield 7, 3) := by decide +kernel
theorem d_Names_addToText_17 : decode b_Names_addToText 17 = .ok (.iconst 2, 1) := by decide +kernel
theorem d_Names_addToText_18 : decode b_Names_addToText 18 = .ok (.aload_n 0, 1) := by decide +kernel
theorem d_Names_addToText_19 : decode b_Names_addToText 19 = .ok (.getfield 13, 3) := by decide +kernel
theorem d_Names_addToText_22 : decode b_Names_addToText 22 = .ok (.imul, 1) := by decide +kernel
theorem d_Names_addToText_23 : decode b_Names_addToText 23 = .ok (.invokestatic 77, 3) := by decide +kernel
theorem d_Names_addToText_26 : decode b_Names_addToText 26 = .ok (.putfield 7, 3) := by decide +kernel
theorem d_Names_addToText_29 : decode b_Names_addToText 29 = .ok (.aload_n 0, 1) := by decide +kernel
theorem d_Names_addToText_30 : decode b_Names_addToText 30 = .ok (.getfield 7, 3) := by decide +kernel
theorem d_Names_addToText_33 : decode b_Names_addToText 33 = .ok (.aload_n 0, 1) := by decide +kernel
theorem d_Names_addToText_34 : decode b_Names_addToText 34 = .ok (.getfield 13, 3) := by decide +kernel
theorem d_Names_addToText_37 : decode b_Names_addToText 37 = .ok (.iload_n 1, 1) := by decide +kernel
theorem d_Names_addToText_38 : decode b_Names_addToText 38 = .ok (.i2b, 1) := by decide +kernel
theorem d_Names_addToText_39 : decode b_Names_addToText 39 = .ok (.bastore, 1) := by decide +kernel
theorem d_Names_addToText_40 : decode b_Names_addToText 40 = .ok (.aload_n 0, 1) := by decide +kernel
theorem d_Names_addToText_41 : decode b_Names_addToText 41 = .ok (.dup, 1) := by decide +kernel
theorem d_Names_addToText_42 : decode b_Names_addToText 42 = .ok (.getfield 13, 3) := by decide +kernel
theorem d_Names_addToText_45 : decode b_Names_addToText 45 = .ok (.iconst 1, 1) := by decide +kernel
theorem d_Names_addToText_46 : decode b_Names_addToText 46 = .ok (.iadd, 1) := by decide +kernel
theorem d_Names_addToText_47 : decode b_Names_addToText 47 = .ok (.putfield 13, 3) := by decide +kernel
theorem d_Names_addToText_50 : decode b_Names_addToText 50 = .ok (.return_, 1) := by decide +kernel
def p_Names_addToText (b : Int32) (a_textsSize : Int32) (a_sizeBefore : Int32) (a_texts_n : Nat) (a_texts_f : Nat → Int32) : Option ((Int32 × Nat × (Nat → Int32)) × Nat × Nat) := if a_textsSize = (Int32.ofNat a_texts_n) then ((p_Arrays_copyOf_aBI (2 * a_textsSize) a_texts_n a_texts_f).bind (fun ((ret_n_3, ret_f_3), mk3, sk3) => al mk3 sk3 (ck (ixb a_textsSize ret_n_3) (some ((a_textsSize + 1, ret_n_3, upd ret_f_3 a_textsSize.toNatClampNeg (vp_nar .byte b.toInt8.toInt32)), 0, 0))))) else (ck (ixb a_textsSize a_texts_n) (some ((a_textsSize + 1, a_texts_n, upd a_texts_f a_textsSize.toNatClampNeg (vp_nar .byte b.toInt8.toInt32)), 0, 0)))
set_option maxHeartbeats 4000000 in
set_option maxRecDepth 100000 in
theorem c_Names_addToText (l : Launch) (g : va_G) (cs : Nat → ClassId) (ka : Nat → Nat) (a_ends : Nat) (a_older : Nat) (a_newest : Nat) (a a_texts : Nat) (sz : Nat) (b : Int32) (a_textsSize : Int32) (a_sizeBefore : Int32) (a_texts_n : Nat) (a_texts_f : Nat → Int32) (o_a_textsSize : Int32) (o_a_texts_n : Nat) (o_a_texts_f : Nat → Int32) (mc ms : Nat) (hok : p_Names_addToText b a_textsSize a_sizeBefore a_texts_n a_texts_f = some ((o_a_textsSize, o_a_texts_n, o_a_texts_f), mc, ms)) : Met l y_Names_addToText (.code y_Names_addToText b_Names_addToText 2 none :: GW) { frames := 2, cells := mc, slots := ms, locals := 122 } (va_Pc [.ref a, .int b] (gP g cs ka [(a, .inr (2, [.ref a_texts, .int a_textsSize, .ref a_ends, .ref a_older, .ref a_newest, .int a_sizeBefore])), (a_texts, .inl (cs 1, a_texts_n, .inl a_texts_f))] sz)) (va_Qv (fun _ : Unit => True) (fun _ t => ∃ b_a_texts : Nat, va_P g classes [(a, .inr (2, [.ref b_a_texts, .int o_a_textsSize, .ref a_ends, .ref a_older, .ref a_newest, .int a_sizeBefore])), (b_a_texts, .inl (cs 1, o_a_texts_n, .inl o_a_texts_f))] t.heap ∧ va_D (va_A [(a, .inr (2, [.ref a_texts, .int a_textsSize, .ref a_ends, .ref a_older, .ref a_newest, .int a_sizeBefore])), (a_texts, .inl (cs 1, a_texts_n, .inl a_texts_f))] sz) [(a, .inr (2, [.ref b_a_texts, .int o_a_textsSize, .ref a_ends, .ref a_older, .ref a_newest, .int a_sizeBefore])), (b_a_texts, .inl (cs 1, o_a_texts_n, .inl o_a_texts_f))]) (va_A [(a, .inr (2, [.ref a_texts, .int a_textsSize, .ref a_ends, .ref a_older, .ref a_newest, .int a_sizeBefore])), (a_texts, .inl (cs 1, a_texts_n, .inl a_texts_f))] sz)) mc ms (va_A [(a, .inr (2, [.ref a_texts, .int a_textsSize, .ref a_ends, .ref a_older, .ref a_newest, .int a_sizeBefore])), (a_texts, .inl (cs 1, a_texts_n, .inl a_texts_f))] sz) := by
  refine Met.ofW (cc := b_Names_addToText) (maxL := 2) (ret := none) (by decide) rfl ?_
  intro p e s m args below meth c s₁ B hml hv
  obtain ⟨rfl, hsz, hP, hK, hD0, hgl, hkn, hkr⟩ := hv
  have hx := B.exec
  have hb := B.bytes
  have hr := B.returns
  have hg : ∀ w ∈ GW, w.before ([.ref a, .int b] : List Value).toArray s = true := fun w hw => atoms_spec (ws := .code y_Names_addToText b_Names_addToText 2 none :: GW) B.pre w (List.mem_cons_of_mem _ hw)
  have hown : s.vm.findClass R_Names = some m.cls := findClass_of_methodNamed B.named
  have hlocks := B.notSynchronized
  subst hsz
  have hD := hD0.self (sz := s.heap.size)
  generalize hAe : va_A [(a, .inr (2, [.ref a_texts, .int a_textsSize, .ref a_ends, .ref a_older, .ref a_newest, .int a_sizeBefore])), (a_texts, .inl (cs 1, a_texts_n, .inl a_texts_f))] s.heap.size = A at hD hkn ⊢
  have hA : ∀ q : Nat, s.heap.size ≤ q → A q := fun q h => by rw [← hAe]; exact Or.inr h
  have hS : va_S A s.heap s.heap [] := va_S.rf
  have hP : va_P g classes [(a, .inr (2, [.ref a_texts, .int a_textsSize, .ref a_ends, .ref a_older, .ref a_newest, .int a_sizeBefore])), (a_texts, .inl (cs 1, a_texts_n, .inl a_texts_f))] s.heap := hP
  have hl := lv_entry ([.ref a, .int b]) (n := 2) (Nat.le_of_ble_eq_true rfl)
  rw [lg_entry_eq]
  generalize (lg_sl ([.ref a, .int b]) ++ List.replicate (2 - (lg_sl ([.ref a, .int b])).length) Slot.unset).toArray = ls at hl ⊢
  have hl : lv_has ls 2 [(0, .ref a), (1, .int b)] := hl
  refine gq (fun Q hQ => ?_)
  obtain ⟨H, hH⟩ : ∃ H : Heap, H = s.heap := ⟨_, rfl⟩
  rw [← hH] at hP
  have hS : va_S A s.heap H [] := by rw [hH]; exact hS
  refine W.eqH hH ?_
  obtain ⟨locs, hlc⟩ : ∃ L : List Loc, L = [] := ⟨_, rfl⟩
  rw [← hlc] at hS ⊢
  unfold p_Names_addToText at hok
  refine lv_aload_n hx hb d_Names_addToText_0 rfl (lv_at hl 0 rfl) ?_
  refine va_get (D := g) (ci := 2) (v := .int a_textsSize) (C := R_Names) (T := F_Names) (N := 6) hx hb hg ul_Names hown hK hP 0 rfl rfl 1 (by decide) (hg _ wd_283) (fun _ h9 => h9) rfl d_Names_addToText_1 ?_
  refine lv_aload_n hx hb d_Names_addToText_4 rfl (lv_at hl 0 rfl) ?_
  refine va_get (D := g) (ci := 2) (v := .ref a_texts) (C := R_Names) (T := F_Names) (N := 6) hx hb hg ul_Names hown hK hP 0 rfl rfl 0 (by decide) (hg _ wd_284) (fun _ h9 => h9) rfl d_Names_addToText_5 ?_
  refine va_alen (v := Int32.ofNat a_texts_n) hx hb hK hP 1 1 rfl rfl rfl d_Names_addToText_8 ?_
  refine lv_icmp_ne hx hb d_Names_addToText_9 rfl (fun h1 => ?_) (fun h1 => ?_)
  · rw [if_neg h1] at hok
    refine lv_aload_n hx hb d_Names_addToText_29 rfl (lv_at hl 0 rfl) ?_
    refine va_get (D := g) (ci := 2) (v := .ref a_texts) (C := R_Names) (T := F_Names) (N := 6) hx hb hg ul_Names hown hK hP 0 rfl rfl 0 (by decide) (hg _ wd_284) (fun _ h9 => h9) rfl d_Names_addToText_30 ?_
    refine lv_aload_n hx hb d_Names_addToText_33 rfl (lv_at hl 0 rfl) ?_
    refine va_get (D := g) (ci := 2) (v := .int a_textsSize) (C := R_Names) (T := F_Names) (N := 6) hx hb hg ul_Names hown hK hP 0 rfl rfl 1 (by decide) (hg _ wd_283) (fun _ h9 => h9) rfl d_Names_addToText_34 ?_
    refine lv_iload_n hx hb d_Names_addToText_37 rfl (lv_at hl 1 rfl) ?_
    refine lv_i2b hx hb d_Names_addToText_38 rfl ?_
    obtain ⟨hi2, hok⟩ := ck_some hok
    refine va_bast hx hb hK hP hD hS 1 1 rfl rfl (ixb_in hi2) d_Names_addToText_39 (fun H locs hP hD hS => ?_)
    obtain ⟨hP, hD⟩ : PD g A H [(a, .inr (2, [.ref a_texts, .int a_textsSize, .ref a_ends, .ref a_older, .ref a_newest, .int a_sizeBefore])), (a_texts, .inl (cs 1, a_texts_n, .inl (upd a_texts_f a_textsSize.toNatClampNeg (vp_nar .byte b.toInt8.toInt32))))] := ⟨hP, hD⟩
    refine lv_aload_n hx hb d_Names_addToText_40 rfl (lv_at hl 0 rfl) ?_
    refine lv_dup hx hb d_Names_addToText_41 rfl ?_
    refine va_get (D := g) (ci := 2) (v := .int a_textsSize) (C := R_Names) (T := F_Names) (N := 6) hx hb hg ul_Names hown hK hP 0 rfl rfl 1 (by decide) (hg _ wd_283) (fun _ h9 => h9) rfl d_Names_addToText_42 ?_
    refine lv_iconst (v := 1) hx hb d_Names_addToText_45 (by decide) ?_
    refine lv_iadd hx hb d_Names_addToText_46 ?_
    refine va_put (D := g) (ci := 2) (v := .int (a_textsSize + 1)) (ty := .int) (C := R_Names) (T := F_Names) (N := 6) hx hb hg ul_Names t_Names tk_Names n_Names hown hK hP hD hS 0 rfl rfl 1 (by decide) (hg _ wd_283) (fun _ h9 => h9) rfl (by decide +kernel) rfl rfl (Nat.le_of_ble_eq_true rfl) d_Names_addToText_47 (fun H locs hP hD hS => ?_)
    obtain ⟨hP, hD⟩ : PD g A H [(a, .inr (2, [.ref a_texts, .int (a_textsSize + 1), .ref a_ends, .ref a_older, .ref a_newest, .int a_sizeBefore])), (a_texts, .inl (cs 1, a_texts_n, .inl (upd a_texts_f a_textsSize.toNatClampNeg (vp_nar .byte b.toInt8.toInt32))))] := ⟨hP, hD⟩
    obtain ⟨hq, hw⟩ := Prod.mk.inj (Option.some.inj hok)
    obtain ⟨hmc0, hms0⟩ := Prod.mk.inj hw
    obtain ⟨hq0, hq⟩ := Prod.mk.inj hq
    obtain ⟨hq1, hq⟩ := Prod.mk.inj hq
    have hq2 := hq
    subst hq0
    subst hq1
    subst hq2
    obtain ⟨hP9, hD9⟩ := sub2 (ws' := [(a, .inr (2, [.ref a_texts, .int (a_textsSize + 1), .ref a_ends, .ref a_older, .ref a_newest, .int a_sizeBefore])), (a_texts, .inl (cs 1, a_texts_n, .inl (upd a_texts_f a_textsSize.toNatClampNeg (vp_nar .byte b.toInt8.toInt32))))]) hP hD [0, 1] rfl (by decide) rfl
    refine W.widen (k := mc) (n := ms) (by omega) (by omega) ?_
    rw [hQ]
    exact W.vret hx hb hr (fun t ht hW => ⟨⟨(), rfl, trivial, a_texts, by rw [ht]; exact hP9, hD9⟩, hS.F ht⟩) hS.2.2 d_Names_addToText_50
  · rw [if_pos h1] at hok
    refine lv_aload_n hx hb d_Names_addToText_12 rfl (lv_at hl 0 rfl) ?_
    refine lv_aload_n hx hb d_Names_addToText_13 rfl (lv_at hl 0 rfl) ?_
    refine va_get (D := g) (ci := 2) (v := .ref a_texts) (C := R_Names) (T := F_Names) (N := 6) hx hb hg ul_Names hown hK hP 0 rfl rfl 0 (by decide) (hg _ wd_284) (fun _ h9 => h9) rfl d_Names_addToText_14 ?_
    refine lv_iconst (v := 2) hx hb d_Names_addToText_17 (by decide) ?_
    refine lv_aload_n hx hb d_Names_addToText_18 rfl (lv_at hl 0 rfl) ?_
    refine va_get (D := g) (ci := 2) (v := .int a_textsSize) (C := R_Names) (T := F_Names) (N := 6) hx hb hg ul_Names hown hK hP 0 rfl rfl 1 (by decide) (hg _ wd_283) (fun _ h9 => h9) rfl d_Names_addToText_19 ?_
    refine lv_imul hx hb d_Names_addToText_22 ?_
    obtain ⟨⟨⟨ret_n_3, ret_f_3⟩, mk3, sk3⟩, hc3, hok⟩ := bd_some hok
    dsimp only at hok
    obtain ⟨m3, s3, hok, hmc3, hms3⟩ := al_some hok
    obtain ⟨hPc, hDc, hFc⟩ := cut0 (wc := [(a_texts, .inl (cs 1, a_texts_n, .inl a_texts_f))]) hP hD hS hA [1] (by decide) rfl
    refine va_callr (va_runS (As := [.ref a_texts, .int (2 * a_textsSize)]) (rest := [.ref a]) ⟨hx, hb, hml, hown, hg⟩ (c_Arrays_copyOf_aBI l g cs ka a_texts H.size (2 * a_textsSize) a_texts_n a_texts_f ret_n_3 ret_f_3 mk3 sk3 hc3) (va_cwS 2 hg (gw_S wd_291 wd_215 wd_154 wd_213) rfl rfl rfl (by decide +kernel) ⟨Nat.le_of_ble_eq_true rfl, Nat.le_of_ble_eq_true rfl⟩) ⟨gP_blind, gP_pre hPc hDc hK hgl hkn hkr hS hFc⟩ rfl rfl hl.1 rfl (lv_room (Nat.le_of_ble_eq_true rfl)) d_Names_addToText_23 ⟨show 0 + mk3 ≤ mc from by omega, show 0 + sk3 ≤ ms from by omega⟩) hS (fun q _ h => hFc q h) hFc (fun u ra3 t H locs ht hvm hr3 hB hz1 hk1 hS => ?_)
    rw [ht] at hB
    obtain ⟨ret_3, hra3, hP1, hD1⟩ := hB
    subst hra3
    obtain ⟨hP, hD⟩ := jn_A hP hD [1] [0] rfl rfl (by decide) (by decide) hk1 hFc hP1 hD1
    obtain ⟨hP, hD⟩ : PD g A H [(a, .inr (2, [.ref a_texts, .int a_textsSize, .ref a_ends, .ref a_older, .ref a_newest, .int a_sizeBefore])), (a_texts, .inl (cs 1, a_texts_n, .inl a_texts_f)), (ret_3, .inl (cs 1, ret_n_3, .inl ret_f_3))] := ⟨hP, hD⟩
    refine va_put (D := g) (ci := 2) (v := .ref ret_3) (ty := .array .byte) (C := R_Names) (T := F_Names) (N := 6) hx hb hg ul_Names t_Names tk_Names n_Names hown hK hP hD hS 0 rfl rfl 0 (by decide) (hg _ wd_284) (fun _ h9 => h9) rfl (by decide +kernel) rfl rfl (Nat.le_of_ble_eq_true rfl) d_Names_addToText_26 (fun H locs hP hD hS => ?_)
    obtain ⟨hP, hD⟩ : PD g A H [(a, .inr (2, [.ref ret_3, .int a_textsSize, .ref a_ends, .ref a_older, .ref a_newest, .int a_sizeBefore])), (a_texts, .inl (cs 1, a_texts_n, .inl a_texts_f)), (ret_3, .inl (cs 1, ret_n_3, .inl ret_f_3))] := ⟨hP, hD⟩
    refine lv_aload_n hx hb d_Names_addToText_29 rfl (lv_at hl 0 rfl) ?_
    refine va_get (D := g) (ci := 2) (v := .ref ret_3) (C := R_Names) (T := F_Names) (N := 6) hx hb hg ul_Names hown hK hP 0 rfl rfl 0 (by decide) (hg _ wd_284) (fun _ h9 => h9) rfl d_Names_addToText_30 ?_
    refine lv_aload_n hx hb d_Names_addToText_33 rfl (lv_at hl 0 rfl) ?_
    refine va_get (D := g) (ci := 2) (v := .int a_textsSize) (C := R_Names) (T := F_Names) (N := 6) hx hb hg ul_Names hown hK hP 0 rfl rfl 1 (by decide) (hg _ wd_283) (fun _ h9 => h9) rfl d_Names_addToText_34 ?_
    refine lv_iload_n hx hb d_Names_addToText_37 rfl (lv_at hl 1 rfl) ?_
    refine lv_i2b hx hb d_Names_addToText_38 rfl ?_
    obtain ⟨hi4, hok⟩ := ck_some hok
    refine va_bast hx hb hK hP hD hS 2 1 rfl rfl (ixb_in hi4) d_Names_addToText_39 (fun H locs hP hD hS => ?_)
    obtain ⟨hP, hD⟩ : PD g A H [(a, .inr (2, [.ref ret_3, .int a_textsSize, .ref a_ends, .ref a_older, .ref a_newest, .int a_sizeBefore])), (a_texts, .inl (cs 1, a_texts_n, .inl a_texts_f)), (ret_3, .inl (cs 1, ret_n_3, .inl (upd ret_f_3 a_textsSize.toNatClampNeg (vp_nar .byte b.toInt8.toInt32))))] := ⟨hP, hD⟩
    refine lv_aload_n hx hb d_Names_addToText_40 rfl (lv_at hl 0 rfl) ?_
    refine lv_dup hx hb d_Names_addToText_41 rfl ?_
    refine va_get (D := g) (ci := 2) (v := .int a_textsSize) (C := R_Names) (T := F_Names) (N := 6) hx hb hg ul_Names hown hK hP 0 rfl rfl 1 (by decide) (hg _ wd_283) (fun _ h9 => h9) rfl d_Names_addToText_42 ?_
    refine lv_iconst (v := 1) hx hb d_Names_addToText_45 (by decide) ?_
    refine lv_iadd hx hb d_Names_addToText_46 ?_
    refine va_put (D := g) (ci := 2) (v := .int (a_textsSize + 1)) (ty := .int) (C := R_Names) (T := F_Names) (N := 6) hx hb hg ul_Names t_Names tk_Names n_Names hown hK hP hD hS 0 rfl rfl 1 (by decide) (hg _ wd_283) (fun _ h9 => h9) rfl (by decide +kernel) rfl rfl (Nat.le_of_ble_eq_true rfl) d_Names_addToText_47 (fun H locs hP hD hS => ?_)
    obtain ⟨hP, hD⟩ : PD g A H [(a, .inr (2, [.ref ret_3, .int (a_textsSize + 1), .ref a_ends, .ref a_older, .ref a_newest, .int a_sizeBefore])), (a_texts, .inl (cs 1, a_texts_n, .inl a_texts_f)), (ret_3, .inl (cs 1, ret_n_3, .inl (upd ret_f_3 a_textsSize.toNatClampNeg (vp_nar .byte b.toInt8.toInt32))))] := ⟨hP, hD⟩
    obtain ⟨hq, hw⟩ := Prod.mk.inj (Option.some.inj hok)
    obtain ⟨hmc0, hms0⟩ := Prod.mk.inj hw
    obtain ⟨hq0, hq⟩ := Prod.mk.inj hq
    obtain ⟨hq1, hq⟩ := Prod.mk.inj hq
    have hq2 := hq
    subst hq0
    subst hq1
    subst hq2
    obtain ⟨hP9, hD9⟩ := sub2 (ws' := [(a, .inr (2, [.ref ret_3, .int (a_textsSize + 1), .ref a_ends, .ref a_older, .ref a_newest, .int a_sizeBefore])), (ret_3, .inl (cs 1, ret_n_3, .inl (upd ret_f_3 a_textsSize.toNatClampNeg (vp_nar .byte b.toInt8.toInt32))))]) hP hD [0, 2] rfl (by decide) rfl
    refine W.widen (k := mc) (n := ms) (by omega) (by omega) ?_
    rw [hQ]
    exact W.vret hx hb hr (fun t ht hW => ⟨⟨(), rfl, trivial, ret_3, by rw [ht]; exact hP9, hD9⟩, hS.F ht⟩) hS.2.2 d_Names_addToText_50

theorem d_Names_rowOf_0 : decode b_Names_rowOf 0 = .ok (.iconst 0, 1) := by decide +kernel
theorem d_Names_rowOf_1 : decode b_Names_rowOf 1 = .ok (.istore_n 3, 1) := by decide +kernel
theorem d_Names_rowOf_2 : decode b_Names_rowOf 2 = .ok (.iload_n 1, 1) := by decide +kernel
theorem d_Names_rowOf_3 : decode b_Names_rowOf 3 = .ok (.istore 4, 2) := by decide +kernel
theorem d_Names_rowOf_5 : decode b_Names_rowOf 5 = .ok (.iload 4, 2) := by decide +kernel
theorem d_Names_rowOf_7 : decode b_Names_rowOf 7 = .ok (.iload_n 2, 1) := by decide +kernel
theorem d_Names_rowOf_8 : decode b_Names_rowOf 8 = .ok (.if_icmp .ge 21, 3) := by decide +kernel
theorem d_Names_rowOf_11 : decode b_Names_rowOf 11 = .ok (.iload_n 3, 1) := by decide +kernel
theorem d_Names_rowOf_12 : decode b_Names_rowOf 12 = .ok (.bipush 31, 2) := by decide +kernel
theorem d_Names_rowOf_14 : decode b_Names_rowOf 14 = .ok (.imul, 1) := by decide +kernel
theorem d_Names_rowOf_15 : decode b_Names_rowOf 15 = .ok (.aload_n 0, 1) := by decide +kernel
theorem d_Names_rowOf_16 : decode b_Names_rowOf 16 = .ok (.iload 4, 2) := by decide +kernel
theorem d_Names_rowOf_18 : decode b_Names_rowOf 18 = .ok (.invokevirtual 121, 3) := by decide +kernel
theorem d_Names_rowOf_21 : decode b_Names_rowOf 21 = .ok (.iadd, 1) := by decide +kernel
theorem d_Names_rowOf_22 : decode b_Names_rowOf 22 = .ok (.istore_n 3, 1) := by decide +kernel
theorem d_Names_rowOf_23 : decode b_Names_rowOf 23 = .ok (.iinc 4 1, 3) := by decide +kernel
theorem d_Names_rowOf_26 : decode b_Names_rowOf 26 = .ok (.goto (-21), 3) := by decide +kernel
theorem d_Names_rowOf_29 : decode b_Names_rowOf 29 = .ok (.iload_n 3, 1) := by decide +kernel
theorem d_Names_rowOf_30 : decode b_Names_rowOf 30 = .ok (.bipush 127, 2) := by decide +kernel
theorem d_Names_rowOf_32 : decode b_Names_rowOf 32 = .ok (.iand, 1) := by decide +kernel
theorem d_Names_rowOf_33 : decode b_Names_rowOf 33 = .ok (.ireturn, 1) := by decide +kernel
def p_Names_rowOf_5 (n : Nat) (end_ : Int32) (a_textsSize : Int32) (a_sizeBefore : Int32) (a_texts_n : Nat) (a_texts_f : Nat → Int32) (kf1 : Nat) (x4_1 : Int32) (x3_1 : Int32) : Option Int32 := match kf1 with
  | 0 => none
  | kf1 + 1 => if end_ ≤ x4_1 then (some (x3_1 &&& 127)) else ((p_Names_byteAt x4_1 a_textsSize a_sizeBefore a_texts_n a_texts_f).bind (fun r3 => p_Names_rowOf_5 n end_ a_textsSize a_sizeBefore a_texts_n a_texts_f kf1 (x4_1 + 1) ((x3_1 * 31) + r3)))
def p_Names_rowOf (n : Nat) (start : Int32) (end_ : Int32) (a_textsSize : Int32) (a_sizeBefore : Int32) (a_texts_n : Nat) (a_texts_f : Nat → Int32) : Option Int32 := p_Names_rowOf_5 n end_ a_textsSize a_sizeBefore a_texts_n a_texts_f n start (0 : Int32)
set_option maxHeartbeats 4000000 in
set_option maxRecDepth 100000 in
theorem c_Names_rowOf (l : Launch) (g : va_G) (cs : Nat → ClassId) (ka : Nat → Nat) (a_ends : Nat) (a_older : Nat) (a_newest : Nat) (a a_texts : Nat) (sz : Nat) (n : Nat) (start : Int32) (end_ : Int32) (a_textsSize : Int32) (a_sizeBefore : Int32) (a_texts_n : Nat) (a_texts_f : Nat → Int32) (r : Int32) (hok : p_Names_rowOf n start end_ a_textsSize a_sizeBefore a_texts_n a_texts_f = some r) : Met l y_Names_rowOf (.code y_Names_rowOf b_Names_rowOf 5 (some .int) :: GW) { frames := 1, cells := 0, slots := 0, locals := 21 } (va_Pc [.ref a, .int start, .int end_] (gP g cs ka [(a, .inr (2, [.ref a_texts, .int a_textsSize, .ref a_ends, .ref a_older, .ref a_newest, .int a_sizeBefore])), (a_texts, .inl (cs 1, a_texts_n, .inl a_texts_f))] sz)) (va_Qi (fun (r' : Int32) (_ : Unit) => r = r') (fun _ t => va_P g classes [(a, .inr (2, [.ref a_texts, .int a_textsSize, .ref a_ends, .ref a_older, .ref a_newest, .int a_sizeBefore])), (a_texts, .inl (cs 1, a_texts_n, .inl a_texts_f))] t.heap ∧ va_D (va_A [(a, .inr (2, [.ref a_texts, .int a_textsSize, .ref a_ends, .ref a_older, .ref a_newest, .int a_sizeBefore])), (a_texts, .inl (cs 1, a_texts_n, .inl a_texts_f))] sz) [(a, .inr (2, [.ref a_texts, .int a_textsSize, .ref a_ends, .ref a_older, .ref a_newest, .int a_sizeBefore])), (a_texts, .inl (cs 1, a_texts_n, .inl a_texts_f))]) (va_A [(a, .inr (2, [.ref a_texts, .int a_textsSize, .ref a_ends, .ref a_older, .ref a_newest, .int a_sizeBefore])), (a_texts, .inl (cs 1, a_texts_n, .inl a_texts_f))] sz)) 0 0 (va_A [(a, .inr (2, [.ref a_texts, .int a_textsSize, .ref a_ends, .ref a_older, .ref a_newest, .int a_sizeBefore])), (a_texts, .inl (cs 1, a_texts_n, .inl a_texts_f))] sz) := by
  refine Met.ofW (cc := b_Names_rowOf) (maxL := 5) (ret := (some .int)) (by decide) rfl ?_
  intro p e s m args below meth c s₁ B hml hv
  obtain ⟨rfl, hsz, hP, hK, hD0, hgl, hkn, hkr⟩ := hv
  have hx := B.exec
  have hb := B.bytes
  have hr := B.returns
  have hg : ∀ w ∈ GW, w.before ([.ref a, .int start, .int end_] : List Value).toArray s = true := fun w hw => atoms_spec (ws := .code y_Names_rowOf b_Names_rowOf 5 (some .int) :: GW) B.pre w (List.mem_cons_of_mem _ hw)
  have hown : s.vm.findClass R_Names = some m.cls := findClass_of_methodNamed B.named
  have hlocks := B.notSynchronized
  subst hsz
  have hD := hD0.self (sz := s.heap.size)
  generalize hAe : va_A [(a, .inr (2, [.ref a_texts, .int a_textsSize, .ref a_ends, .ref a_older, .ref a_newest, .int a_sizeBefore])), (a_texts, .inl (cs 1, a_texts_n, .inl a_texts_f))] s.heap.size = A at hD hkn ⊢
  have hA : ∀ q : Nat, s.heap.size ≤ q → A q := fun q h => by rw [← hAe]; exact Or.inr h
  have hS : va_S A s.heap s.heap [] := va_S.rf
  have hP : va_P g classes [(a, .inr (2, [.ref a_texts, .int a_textsSize, .ref a_ends, .ref a_older, .ref a_newest, .int a_sizeBefore])), (a_texts, .inl (cs 1, a_texts_n, .inl a_texts_f))] s.heap := hP
  have hl := lv_entry ([.ref a, .int start, .int end_]) (n := 5) (Nat.le_of_ble_eq_true rfl)
  rw [lg_entry_eq]
  generalize (lg_sl ([.ref a, .int start, .int end_]) ++ List.replicate (5 - (lg_sl ([.ref a, .int start, .int end_])).length) Slot.unset).toArray = ls at hl ⊢
  have hl : lv_has ls 5 [(0, .ref a), (1, .int start), (2, .int end_)] := hl
  refine gq (fun Q hQ => ?_)
  obtain ⟨H, hH⟩ : ∃ H : Heap, H = s.heap := ⟨_, rfl⟩
  rw [← hH] at hP
  have hS : va_S A s.heap H [] := by rw [hH]; exact hS
  refine W.eqH hH ?_
  obtain ⟨locs, hlc⟩ : ∃ L : List Loc, L = [] := ⟨_, rfl⟩
  rw [← hlc] at hS ⊢
  unfold p_Names_rowOf at hok
  refine lv_iconst (v := 0) hx hb d_Names_rowOf_0 (by decide) ?_
  refine lv_istore_n hx hb d_Names_rowOf_1 rfl hl (by decide) rfl (fun ls hl => ?_)
  have hl : lv_has ls 5 [(3, .int 0), (0, .ref a), (1, .int start), (2, .int end_)] := hl
  refine lv_iload_n hx hb d_Names_rowOf_2 rfl (lv_at hl 2 rfl) ?_
  refine lv_istore hx hb d_Names_rowOf_3 hl (by decide) rfl (fun ls hl => ?_)
  have hl : lv_has ls 5 [(4, .int start), (3, .int 0), (0, .ref a), (1, .int start), (2, .int end_)] := hl
  have J1 : ∀ (kf1 : Nat) (H : Heap) (locs : List Loc) (ls : Array Slot) (x4_1 : Int32) (x3_1 : Int32), lv_has ls 5 [(4, .int x4_1), (3, .int x3_1), (0, .ref a), (1, .int start), (2, .int end_)] → PD g A H [(a, .inr (2, [.ref a_texts, .int a_textsSize, .ref a_ends, .ref a_older, .ref a_newest, .int a_sizeBefore])), (a_texts, .inl (cs 1, a_texts_n, .inl a_texts_f))] → va_S A s.heap H locs → p_Names_rowOf_5 n end_ a_textsSize a_sizeBefore a_texts_n a_texts_f kf1 x4_1 x3_1 = some r → W p l e (headSpec (.code y_Names_rowOf b_Names_rowOf 5 (some .int) :: GW) { frames := 1, cells := 0, slots := 0, locals := 21 }).room s m ([.ref a, .int start, .int end_] : List Value).toArray below meth c H locs 0 0 Q (F0 m 5 ls []) := by
    intro kf1
    induction kf1 with
    | zero => intro H locs ls x4_1 x3_1 hl ⟨hP, hD⟩ hS hok; rw [p_Names_rowOf_5] at hok; cases hok
    | succ kf1 ih1 =>
      intro H locs ls x4_1 x3_1 hl ⟨hP, hD⟩ hS hok
      rw [p_Names_rowOf_5] at hok
      refine lv_iload hx hb d_Names_rowOf_5 (lv_at hl 0 rfl) ?_
      refine lv_iload_n hx hb d_Names_rowOf_7 rfl (lv_at hl 4 rfl) ?_
      refine lv_icmp_ge hx hb d_Names_rowOf_8 rfl (fun h2 => ?_) (fun h2 => ?_)
      · rw [if_pos h2] at hok
        refine lv_iload_n hx hb d_Names_rowOf_29 rfl (lv_at hl 1 rfl) ?_
        refine lv_bipush (v := 127) hx hb d_Names_rowOf_30 (by decide) ?_
        refine lv_iand hx hb d_Names_rowOf_32 ?_
        have hq := Option.some.inj hok
        have hq0 := hq
        subst hq0
        obtain ⟨hP9, hD9⟩ := sub2 (ws' := [(a, .inr (2, [.ref a_texts, .int a_textsSize, .ref a_ends, .ref a_older, .ref a_newest, .int a_sizeBefore])), (a_texts, .inl (cs 1, a_texts_n, .inl a_texts_f))]) hP hD [0, 1] rfl (by decide) rfl
        rw [hQ]
        exact W.iret (v := x3_1 &&& 127) hx hb hr (fun t ht hW => ⟨⟨_, (), rfl, rfl, by rw [ht]; exact hP9, hD9⟩, hS.F ht⟩) hS.2.2 d_Names_rowOf_33
      · rw [if_neg h2] at hok
        refine lv_iload_n hx hb d_Names_rowOf_11 rfl (lv_at hl 1 rfl) ?_
        refine lv_bipush (v := 31) hx hb d_Names_rowOf_12 (by decide) ?_
        refine lv_imul hx hb d_Names_rowOf_14 ?_
        refine lv_aload_n hx hb d_Names_rowOf_15 rfl (lv_at hl 2 rfl) ?_
        refine lv_iload hx hb d_Names_rowOf_16 (lv_at hl 0 rfl) ?_
        obtain ⟨r3, hc3, hok⟩ := bd_some hok
        obtain ⟨hPc, hDc, hFc⟩ := cut0 (wc := [(a, .inr (2, [.ref a_texts, .int a_textsSize, .ref a_ends, .ref a_older, .ref a_newest, .int a_sizeBefore])), (a_texts, .inl (cs 1, a_texts_n, .inl a_texts_f))]) hP hD hS hA [0, 1] (by decide) rfl
        refine va_calli (va_runV (As := [.int x4_1]) (rest := [.int (x3_1 * 31)]) ⟨hx, hb, hml, hown, hg⟩ (c_Names_byteAt l g cs ka a_ends a_older a_newest a a_texts H.size x4_1 a_textsSize a_sizeBefore a_texts_n a_texts_f r3 hc3) (cwV (C := R_Names) 1 hg (gw_V wd_293 wd_294 wd_295 wd_287 wd_292) rfl rfl rfl (by decide +kernel) ⟨Nat.le_of_ble_eq_true rfl, Nat.le_of_ble_eq_true rfl⟩) ⟨gP_blind, va_recv (q0 := 0) (ci := 2) (q := (R_Names, F_Names, 6)) hK hP rfl rfl, gP_pre hPc hDc hK hgl hkn hkr hS hFc⟩ rfl rfl hl.1 rfl (lv_room (Nat.le_of_ble_eq_true rfl)) d_Names_rowOf_18 ⟨Nat.le_of_ble_eq_true rfl, Nat.le_of_ble_eq_true rfl⟩) hS (fun q _ h => hFc q h) hFc (fun r3' u t H locs ht hvm hr3 hB hz1 hk1 hS => ?_)
        subst hr3
        rw [ht] at hB
        obtain ⟨hP1, hD1⟩ := hB
        obtain ⟨hP, hD⟩ := jn_A hP hD [0, 1] [] rfl rfl (by decide) (by decide) hk1 hFc hP1 hD1
        obtain ⟨hP, hD⟩ : PD g A H [(a, .inr (2, [.ref a_texts, .int a_textsSize, .ref a_ends, .ref a_older, .ref a_newest, .int a_sizeBefore])), (a_texts, .inl (cs 1, a_texts_n, .inl a_texts_f))] := ⟨hP, hD⟩
        refine lv_iadd hx hb d_Names_rowOf_21 ?_
        refine lv_istore_n hx hb d_Names_rowOf_22 rfl hl (by decide) rfl (fun ls hl => ?_)
        have hl : lv_has ls 5 [(3, .int ((x3_1 * 31) + r3)), (4, .int x4_1), (0, .ref a), (1, .int start), (2, .int end_)] := hl
        refine lv_iinc (k := 1) (v := x4_1 + 1) hx hb d_Names_rowOf_23 hl rfl rfl (by decide) rfl (fun ls hl => ?_)
        have hl : lv_has ls 5 [(4, .int (x4_1 + 1)), (3, .int ((x3_1 * 31) + r3)), (0, .ref a), (1, .int start), (2, .int end_)] := hl
        refine lv_goto hx hb d_Names_rowOf_26 rfl ?_
        exact ih1 _ _ _ (x4_1 + 1) ((x3_1 * 31) + r3) (lv_sub hl [0, 1, 2, 3, 4] rfl) (sub3 hP hD [0, 1] (by decide)) hS hok
  exact J1 n H locs ls start (0 : Int32) hl ⟨hP, hD⟩ hS hok

theorem d_Names_areSameTexts_0 : decode b_Names_areSameTexts 0 = .ok (.iload_n 2, 1) := by decide +kernel
theorem d_Names_areSameTexts_1 : decode b_Names_areSameTexts 1 = .ok (.iload_n 1, 1) := by decide +kernel
theorem d_Names_areSameTexts_2 : decode b_Names_areSameTexts 2 = .ok (.isub, 1) := by decide +kernel
theorem d_Names_areSameTexts_3 : decode b_Names_areSameTexts 3 = .ok (.aload_n 0, 1) := by decide +kernel
theorem d_Names_areSameTexts_4 : decode b_Names_areSameTexts 4 = .ok (.getfield 13, 3) := by decide +kernel
theorem d_Names_areSameTexts_7 : decode b_Names_areSameTexts 7 = .ok (.iload_n 3, 1) := by decide +kernel
theorem d_Names_areSameTexts_8 : decode b_Names_areSameTexts 8 = .ok (.isub, 1) := by decide +kernel
theorem d_Names_areSameTexts_9 : decode b_Names_areSameTexts 9 = .ok (.if_icmp .eq 5, 3) := by decide +kernel
theorem d_Names_areSameTexts_12 : decode b_Names_areSameTexts 12 = .ok (.iconst 0, 1) := by decide +kernel
theorem d_Names_areSameTexts_13 : decode b_Names_areSameTexts 13 = .ok (.ireturn, 1) := by decide +kernel
theorem d_Names_areSameTexts_14 : decode b_Names_areSameTexts 14 = .ok (.iload_n 1, 1) := by decide +kernel
theorem d_Names_areSameTexts_15 : decode b_Names_areSameTexts 15 = .ok (.istore 4, 2) := by decide +kernel
theorem d_Names_areSameTexts_17 : decode b_Names_areSameTexts 17 = .ok (.iload 4, 2) := by decide +kernel
theorem d_Names_areSameTexts_19 : decode b_Names_areSameTexts 19 = .ok (.iload_n 2, 1) := by decide +kernel
theorem d_Names_areSameTexts_20 : decode b_Names_areSameTexts 20 = .ok (.if_icmp .ge 32, 3) := by decide +kernel
theorem d_Names_areSameTexts_23 : decode b_Names_areSameTexts 23 = .ok (.aload_n 0, 1) := by decide +kernel
theorem d_Names_areSameTexts_24 : decode b_Names_areSameTexts 24 = .ok (.getfield 7, 3) := by decide +kernel
theorem d_Names_areSameTexts_27 : decode b_Names_areSameTexts 27 = .ok (.iload 4, 2) := by decide +kernel
theorem d_Names_areSameTexts_29 : decode b_Names_areSameTexts 29 = .ok (.baload, 1) := by decide +kernel
theorem d_Names_areSameTexts_30 : decode b_Names_areSameTexts 30 = .ok (.aload_n 0, 1) := by decide +kernel
theorem d_Names_areSameTexts_31 : decode b_Names_areSameTexts 31 = .ok (.getfield 7, 3) := by decide +kernel
theorem d_Names_areSameTexts_34 : decode b_Names_areSameTexts 34 = .ok (.iload_n 3, 1) := by decide +kernel
theorem d_Names_areSameTexts_35 : decode b_Names_areSameTexts 35 = .ok (.iload 4, 2) := by decide +kernel
theorem d_Names_areSameTexts_37 : decode b_Names_areSameTexts 37 = .ok (.iadd, 1) := by decide +kernel
theorem d_Names_areSameTexts_38 : decode b_Names_areSameTexts 38 = .ok (.iload_n 1, 1) := by decide +kernel
theorem d_Names_areSameTexts_39 : decode b_Names_areSameTexts 39 = .ok (.isub, 1) := by decide +kernel
theorem d_Names_areSameTexts_40 : decode b_Names_areSameTexts 40 = .ok (.baload, 1) := by decide +kernel
theorem d_Names_areSameTexts_41 : decode b_Names_areSameTexts 41 = .ok (.if_icmp .eq 5, 3) := by decide +kernel
theorem d_Names_areSameTexts_44 : decode b_Names_areSameTexts 44 = .ok (.iconst 0, 1) := by decide +kernel
theorem d_Names_areSameTexts_45 : decode b_Names_areSameTexts 45 = .ok (.ireturn, 1) := by decide +kernel
theorem d_Names_areSameTexts_46 : decode b_Names_areSameTexts 46 = .ok (.iinc 4 1, 3) := by decide +kernel
theorem d_Names_areSameTexts_49 : decode b_Names_areSameTexts 49 = .ok (.goto (-32), 3) := by decide +kernel
theorem d_Names_areSameTexts_52 : decode b_Names_areSameTexts 52 = .ok (.iconst 1, 1) := by decide +kernel
theorem d_Names_areSameTexts_53 : decode b_Names_areSameTexts 53 = .ok (.ireturn, 1) := by decide +kernel
def p_Names_areSameTexts_17 (n : Nat) (from_ : Int32) (to_ : Int32) (start : Int32) (a_texts_n : Nat) (a_texts_f : Nat → Int32) (kf2 : Nat) (x4_2 : Int32) : Option Int32 := match kf2 with
  | 0 => none
  | kf2 + 1 => if to_ ≤ x4_2 then (some (1 : Int32)) else (ck (ixb x4_2 a_texts_n) (ck (ixb ((start + x4_2) - from_) a_texts_n) (if (a_texts_f x4_2.toNatClampNeg) = (a_texts_f ((start + x4_2) - from_).toNatClampNeg) then (p_Names_areSameTexts_17 n from_ to_ start a_texts_n a_texts_f kf2 (x4_2 + 1)) else (some (0 : Int32)))))
def p_Names_areSameTexts (n : Nat) (from_ : Int32) (to_ : Int32) (start : Int32) (a_textsSize : Int32) (a_sizeBefore : Int32) (a_texts_n : Nat) (a_texts_f : Nat → Int32) : Option Int32 := if (to_ - from_) = (a_textsSize - start) then (p_Names_areSameTexts_17 n from_ to_ start a_texts_n a_texts_f n from_) else (some (0 : Int32))
set_option maxHeartbeats 4000000 in
set_option maxRecDepth 100000 in
theorem c_Names_areSameTexts (l : Launch) (g : va_G) (cs : Nat → ClassId) (ka : Nat → Nat) (a_ends : Nat) (a_older : Nat) (a_newest : Nat) (a a_texts : Nat) (sz : Nat) (n : Nat) (from_ : Int32) (to_ : Int32) (start : Int32) (a_textsSize : Int32) (a_sizeBefore : Int32) (a_texts_n : Nat) (a_texts_f : Nat → Int32) (r : Int32) (hok : p_Names_areSameTexts n from_ to_ start a_textsSize a_sizeBefore a_texts_n a_texts_f = some r) : Met l y_Names_areSameTexts (.code y_Names_areSameTexts b_Names_areSameTexts 5 (some .boolean) :: GW) { frames := 0, cells := 0, slots := 0, locals := 0 } (va_Pc [.ref a, .int from_, .int to_, .int start] (gP g cs ka [(a, .inr (2, [.ref a_texts, .int a_textsSize, .ref a_ends, .ref a_older, .ref a_newest, .int a_sizeBefore])), (a_texts, .inl (cs 1, a_texts_n, .inl a_texts_f))] sz)) (va_Qi (fun (r' : Int32) (_ : Unit) => r = r') (fun _ t => va_P g classes [(a, .inr (2, [.ref a_texts, .int a_textsSize, .ref a_ends, .ref a_older, .ref a_newest, .int a_sizeBefore])), (a_texts, .inl (cs 1, a_texts_n, .inl a_texts_f))] t.heap ∧ va_D (va_A [(a, .inr (2, [.ref a_texts, .int a_textsSize, .ref a_ends, .ref a_older, .ref a_newest, .int a_sizeBefore])), (a_texts, .inl (cs 1, a_texts_n, .inl a_texts_f))] sz) [(a, .inr (2, [.ref a_texts, .int a_textsSize, .ref a_ends, .ref a_older, .ref a_newest, .int a_sizeBefore])), (a_texts, .inl (cs 1, a_texts_n, .inl a_texts_f))]) (va_A [(a, .inr (2, [.ref a_texts, .int a_textsSize, .ref a_ends, .ref a_older, .ref a_newest, .int a_sizeBefore])), (a_texts, .inl (cs 1, a_texts_n, .inl a_texts_f))] sz)) 0 0 (va_A [(a, .inr (2, [.ref a_texts, .int a_textsSize, .ref a_ends, .ref a_older, .ref a_newest, .int a_sizeBefore])), (a_texts, .inl (cs 1, a_texts_n, .inl a_texts_f))] sz) := by
  refine Met.ofW (cc := b_Names_areSameTexts) (maxL := 5) (ret := (some .boolean)) (by decide) rfl ?_
  intro p e s m args below meth c s₁ B hml hv
  obtain ⟨rfl, hsz, hP, hK, hD0, hgl, hkn, hkr⟩ := hv
  have hx := B.exec
  have hb := B.bytes
  have hr := B.returns
  have hg : ∀ w ∈ GW, w.before ([.ref a, .int from_, .int to_, .int start] : List Value).toArray s = true := fun w hw => atoms_spec (ws := .code y_Names_areSameTexts b_Names_areSameTexts 5 (some .boolean) :: GW) B.pre w (List.mem_cons_of_mem _ hw)
  have hown : s.vm.findClass R_Names = some m.cls := findClass_of_methodNamed B.named
  have hlocks := B.notSynchronized
  subst hsz
  have hD := hD0.self (sz := s.heap.size)
  generalize hAe : va_A [(a, .inr (2, [.ref a_texts, .int a_textsSize, .ref a_ends, .ref a_older, .ref a_newest, .int a_sizeBefore])), (a_texts, .inl (cs 1, a_texts_n, .inl a_texts_f))] s.heap.size = A at hD hkn ⊢
  have hA : ∀ q : Nat, s.heap.size ≤ q → A q := fun q h => by rw [← hAe]; exact Or.inr h
  have hS : va_S A s.heap s.heap [] := va_S.rf
  have hP : va_P g classes [(a, .inr (2, [.ref a_texts, .int a_textsSize, .ref a_ends, .ref a_older, .ref a_newest, .int a_sizeBefore])), (a_texts, .inl (cs 1, a_texts_n, .inl a_texts_f))] s.heap := hP
  have hl := lv_entry ([.ref a, .int from_, .int to_, .int start]) (n := 5) (Nat.le_of_ble_eq_true rfl)
  rw [lg_entry_eq]
  generalize (lg_sl ([.ref a, .int from_, .int to_, .int start]) ++ List.replicate (5 - (lg_sl ([.ref a, .int from_, .int to_, .int start])).length) Slot.unset).toArray = ls at hl ⊢
  have hl : lv_has ls 5 [(0, .ref a), (1, .int from_), (2, .int to_), (3, .int start)] := hl
  refine gq (fun Q hQ => ?_)
  obtain ⟨H, hH⟩ : ∃ H : Heap, H = s.heap := ⟨_, rfl⟩
  rw [← hH] at hP
  have hS : va_S A s.heap H [] := by rw [hH]; exact hS
  refine W.eqH hH ?_
  obtain ⟨locs, hlc⟩ : ∃ L : List Loc, L = [] := ⟨_, rfl⟩
  rw [← hlc] at hS ⊢
  unfold p_Names_areSameTexts at hok
  refine lv_iload_n hx hb d_Names_areSameTexts_0 rfl (lv_at hl 2 rfl) ?_
  refine lv_iload_n hx hb d_Names_areSameTexts_1 rfl (lv_at hl 1 rfl) ?_
  refine lv_isub hx hb d_Names_areSameTexts_2 ?_
  refine lv_aload_n hx hb d_Names_areSameTexts_3 rfl (lv_at hl 0 rfl) ?_
  refine va_get (D := g) (ci := 2) (v := .int a_textsSize) (C := R_Names) (T := F_Names) (N := 6) hx hb hg ul_Names hown hK hP 0 rfl rfl 1 (by decide) (hg _ wd_283) (fun _ h9 => h9) rfl d_Names_areSameTexts_4 ?_
  refine lv_iload_n hx hb d_Names_areSameTexts_7 rfl (lv_at hl 3 rfl) ?_
  refine lv_isub hx hb d_Names_areSameTexts_8 ?_
  refine lv_icmp_eq hx hb d_Names_areSameTexts_9 rfl (fun h1 => ?_) (fun h1 => ?_)
  · rw [if_pos h1] at hok
    refine lv_iload_n hx hb d_Names_areSameTexts_14 rfl (lv_at hl 1 rfl) ?_
    refine lv_istore hx hb d_Names_areSameTexts_15 hl (by decide) rfl (fun ls hl => ?_)
    have hl : lv_has ls 5 [(4, .int from_), (0, .ref a), (1, .int from_), (2, .int to_), (3, .int start)] := hl
    have J2 : ∀ (kf2 : Nat) (H : Heap) (locs : List Loc) (ls : Array Slot) (x4_2 : Int32), lv_has ls 5 [(4, .int x4_2), (0, .ref a), (1, .int from_), (2, .int to_), (3, .int start)] → PD g A H [(a, .inr (2, [.ref a_texts, .int a_textsSize, .ref a_ends, .ref a_older, .ref a_newest, .int a_sizeBefore])), (a_texts, .inl (cs 1, a_texts_n, .inl a_texts_f))] → va_S A s.heap H locs → p_Names_areSameTexts_17 n from_ to_ start a_texts_n a_texts_f kf2 x4_2 = some r → W p l e (headSpec (.code y_Names_areSameTexts b_Names_areSameTexts 5 (some .boolean) :: GW) { frames := 0, cells := 0, slots := 0, locals := 0 }).room s m ([.ref a, .int from_, .int to_, .int start] : List Value).toArray below meth c H locs 0 0 Q (F0 m 17 ls []) := by
      intro kf2
      induction kf2 with
      | zero => intro H locs ls x4_2 hl ⟨hP, hD⟩ hS hok; rw [p_Names_areSameTexts_17] at hok; cases hok
      | succ kf2 ih2 =>
        intro H locs ls x4_2 hl ⟨hP, hD⟩ hS hok
        rw [p_Names_areSameTexts_17] at hok
        refine lv_iload hx hb d_Names_areSameTexts_17 (lv_at hl 0 rfl) ?_
        refine lv_iload_n hx hb d_Names_areSameTexts_19 rfl (lv_at hl 3 rfl) ?_
        refine lv_icmp_ge hx hb d_Names_areSameTexts_20 rfl (fun h3 => ?_) (fun h3 => ?_)
        · rw [if_pos h3] at hok
          refine lv_iconst (v := 1) hx hb d_Names_areSameTexts_52 (by decide) ?_
          have hq := Option.some.inj hok
          have hq0 := hq
          subst hq0
          obtain ⟨hP9, hD9⟩ := sub2 (ws' := [(a, .inr (2, [.ref a_texts, .int a_textsSize, .ref a_ends, .ref a_older, .ref a_newest, .int a_sizeBefore])), (a_texts, .inl (cs 1, a_texts_n, .inl a_texts_f))]) hP hD [0, 1] rfl (by decide) rfl
          rw [hQ]
          exact W.zret (v := 1) hx hb hr rfl (fun t ht hW => ⟨⟨_, (), rfl, rfl, by rw [ht]; exact hP9, hD9⟩, hS.F ht⟩) hS.2.2 d_Names_areSameTexts_53
        · rw [if_neg h3] at hok
          refine lv_aload_n hx hb d_Names_areSameTexts_23 rfl (lv_at hl 1 rfl) ?_
          refine va_get (D := g) (ci := 2) (v := .ref a_texts) (C := R_Names) (T := F_Names) (N := 6) hx hb hg ul_Names hown hK hP 0 rfl rfl 0 (by decide) (hg _ wd_284) (fun _ h9 => h9) rfl d_Names_areSameTexts_24 ?_
          refine lv_iload hx hb d_Names_areSameTexts_27 (lv_at hl 0 rfl) ?_
          obtain ⟨hi4, hok⟩ := ck_some hok
          refine va_bald hx hb hK hP 1 1 rfl rfl (ixb_in hi4) d_Names_areSameTexts_29 ?_
          refine lv_aload_n hx hb d_Names_areSameTexts_30 rfl (lv_at hl 1 rfl) ?_
          refine va_get (D := g) (ci := 2) (v := .ref a_texts) (C := R_Names) (T := F_Names) (N := 6) hx hb hg ul_Names hown hK hP 0 rfl rfl 0 (by decide) (hg _ wd_284) (fun _ h9 => h9) rfl d_Names_areSameTexts_31 ?_
          refine lv_iload_n hx hb d_Names_areSameTexts_34 rfl (lv_at hl 4 rfl) ?_
          refine lv_iload hx hb d_Names_areSameTexts_35 (lv_at hl 0 rfl) ?_
          refine lv_iadd hx hb d_Names_areSameTexts_37 ?_
          refine lv_iload_n hx hb d_Names_areSameTexts_38 rfl (lv_at hl 2 rfl) ?_
          refine lv_isub hx hb d_Names_areSameTexts_39 ?_
          obtain ⟨hi5, hok⟩ := ck_some hok
          refine va_bald hx hb hK hP 1 1 rfl rfl (ixb_in hi5) d_Names_areSameTexts_40 ?_
          refine lv_icmp_eq hx hb d_Names_areSameTexts_41 rfl (fun h6 => ?_) (fun h6 => ?_)
          · rw [if_pos h6] at hok
            refine lv_iinc (k := 0) (v := x4_2 + 1) hx hb d_Names_areSameTexts_46 hl rfl rfl (by decide) rfl (fun ls hl => ?_)
            have hl : lv_has ls 5 [(4, .int (x4_2 + 1)), (0, .ref a), (1, .int from_), (2, .int to_), (3, .int start)] := hl
            refine lv_goto hx hb d_Names_areSameTexts_49 rfl ?_
            exact ih2 _ _ _ (x4_2 + 1) (lv_sub hl [0, 1, 2, 3, 4] rfl) (sub3 hP hD [0, 1] (by decide)) hS hok
          · rw [if_neg h6] at hok
            refine lv_iconst (v := 0) hx hb d_Names_areSameTexts_44 (by decide) ?_
            have hq := Option.some.inj hok
            have hq0 := hq
            subst hq0
            obtain ⟨hP9, hD9⟩ := sub2 (ws' := [(a, .inr (2, [.ref a_texts, .int a_textsSize, .ref a_ends, .ref a_older, .ref a_newest, .int a_sizeBefore])), (a_texts, .inl (cs 1, a_texts_n, .inl a_texts_f))]) hP hD [0, 1] rfl (by decide) rfl
            rw [hQ]
            exact W.zret (v := 0) hx hb hr rfl (fun t ht hW => ⟨⟨_, (), rfl, rfl, by rw [ht]; exact hP9, hD9⟩, hS.F ht⟩) hS.2.2 d_Names_areSameTexts_45
    exact J2 n H locs ls from_ hl ⟨hP, hD⟩ hS hok
  · rw [if_neg h1] at hok
    refine lv_iconst (v := 0) hx hb d_Names_areSameTexts_12 (by decide) ?_
    have hq := Option.some.inj hok
    have hq0 := hq
    subst hq0
    obtain ⟨hP9, hD9⟩ := sub2 (ws' := [(a, .inr (2, [.ref a_texts, .int a_textsSize, .ref a_ends, .ref a_older, .ref a_newest, .int a_sizeBefore])), (a_texts, .inl (cs 1, a_texts_n, .inl a_texts_f))]) hP hD [0, 1] rfl (by decide) rfl
    rw [hQ]
    exact W.zret (v := 0) hx hb hr rfl (fun t ht hW => ⟨⟨_, (), rfl, rfl, by rw [ht]; exact hP9, hD9⟩, hS.F ht⟩) hS.2.2 d_Names_areSameTexts_13

theorem d_Names_numberOfText_0 : decode b_Names_numberOfText 0 = .ok (.aload_n 0, 1) := by decide +kernel
theorem d_Names_numberOfText_1 : decode b_Names_numberOfText 1 = .ok (.aload_n 0, 1) := by decide +kernel
theorem d_Names_numberOfText_2 : decode b_Names_numberOfText 2 = .ok (.getfield 20, 3) := by decide +kernel
theorem d_Names_numberOfText_5 : decode b_Names_numberOfText 5 = .ok (.invokevirtual 70, 3) := by decide +kernel
theorem d_Names_numberOfText_8 : decode b_Names_numberOfText 8 = .ok (.invokevirtual 73, 3) := by decide +kernel
theorem d_Names_numberOfText_11 : decode b_Names_numberOfText 11 = .ok (.istore_n 1, 1) := by decide +kernel
theorem d_Names_numberOfText_12 : decode b_Names_numberOfText 12 = .ok (.aload_n 0, 1) := by decide +kernel
theorem d_Names_numberOfText_13 : decode b_Names_numberOfText 13 = .ok (.iload_n 1, 1) := by decide +kernel
theorem d_Names_numberOfText_14 : decode b_Names_numberOfText 14 = .ok (.aload_n 0, 1) := by decide +kernel
theorem d_Names_numberOfText_15 : decode b_Names_numberOfText 15 = .ok (.getfield 13, 3) := by decide +kernel
theorem d_Names_numberOfText_18 : decode b_Names_numberOfText 18 = .ok (.invokevirtual 81, 3) := by decide +kernel
theorem d_Names_numberOfText_21 : decode b_Names_numberOfText 21 = .ok (.istore_n 2, 1) := by decide +kernel
theorem d_Names_numberOfText_22 : decode b_Names_numberOfText 22 = .ok (.aload_n 0, 1) := by decide +kernel
theorem d_Names_numberOfText_23 : decode b_Names_numberOfText 23 = .ok (.getfield 27, 3) := by decide +kernel
theorem d_Names_numberOfText_26 : decode b_Names_numberOfText 26 = .ok (.iload_n 2, 1) := by decide +kernel
theorem d_Names_numberOfText_27 : decode b_Names_numberOfText 27 = .ok (.iaload, 1) := by decide +kernel
theorem d_Names_numberOfText_28 : decode b_Names_numberOfText 28 = .ok (.istore_n 3, 1) := by decide +kernel
theorem d_Names_numberOfText_29 : decode b_Names_numberOfText 29 = .ok (.aload_n 0, 1) := by decide +kernel
theorem d_Names_numberOfText_30 : decode b_Names_numberOfText 30 = .ok (.getfield 20, 3) := by decide +kernel
theorem d_Names_numberOfText_33 : decode b_Names_numberOfText 33 = .ok (.invokevirtual 70, 3) := by decide +kernel
theorem d_Names_numberOfText_36 : decode b_Names_numberOfText 36 = .ok (.istore 4, 2) := by decide +kernel
theorem d_Names_numberOfText_38 : decode b_Names_numberOfText 38 = .ok (.iload 4, 2) := by decide +kernel
theorem d_Names_numberOfText_40 : decode b_Names_numberOfText 40 = .ok (.ifCond .le 42, 3) := by decide +kernel
theorem d_Names_numberOfText_43 : decode b_Names_numberOfText 43 = .ok (.iload_n 3, 1) := by decide +kernel
theorem d_Names_numberOfText_44 : decode b_Names_numberOfText 44 = .ok (.ifCond .lt 38, 3) := by decide +kernel
theorem d_Names_numberOfText_47 : decode b_Names_numberOfText 47 = .ok (.aload_n 0, 1) := by decide +kernel
theorem d_Names_numberOfText_48 : decode b_Names_numberOfText 48 = .ok (.aload_n 0, 1) := by decide +kernel
theorem d_Names_numberOfText_49 : decode b_Names_numberOfText 49 = .ok (.iload_n 3, 1) := by decide +kernel
theorem d_Names_numberOfText_50 : decode b_Names_numberOfText 50 = .ok (.invokevirtual 73, 3) := by decide +kernel
theorem d_Names_numberOfText_53 : decode b_Names_numberOfText 53 = .ok (.aload_n 0, 1) := by decide +kernel
theorem d_Names_numberOfText_54 : decode b_Names_numberOfText 54 = .ok (.iload_n 3, 1) := by decide +kernel
theorem d_Names_numberOfText_55 : decode b_Names_numberOfText 55 = .ok (.invokevirtual 85, 3) := by decide +kernel
theorem d_Names_numberOfText_58 : decode b_Names_numberOfText 58 = .ok (.iload_n 1, 1) := by decide +kernel
theorem d_Names_numberOfText_59 : decode b_Names_numberOfText 59 = .ok (.invokevirtual 88, 3) := by decide +kernel
theorem d_Names_numberOfText_62 : decode b_Names_numberOfText 62 = .ok (.ifCond .eq 5, 3) := by decide +kernel
theorem d_Names_numberOfText_65 : decode b_Names_numberOfText 65 = .ok (.iload_n 3, 1) := by decide +kernel
theorem d_Names_numberOfText_66 : decode b_Names_numberOfText 66 = .ok (.ireturn, 1) := by decide +kernel
theorem d_Names_numberOfText_67 : decode b_Names_numberOfText 67 = .ok (.aload_n 0, 1) := by decide +kernel
theorem d_Names_numberOfText_68 : decode b_Names_numberOfText 68 = .ok (.getfield 24, 3) := by decide +kernel
theorem d_Names_numberOfText_71 : decode b_Names_numberOfText 71 = .ok (.iload_n 3, 1) := by decide +kernel
theorem d_Names_numberOfText_72 : decode b_Names_numberOfText 72 = .ok (.invokevirtual 92, 3) := by decide +kernel
theorem d_Names_numberOfText_75 : decode b_Names_numberOfText 75 = .ok (.istore_n 3, 1) := by decide +kernel
theorem d_Names_numberOfText_76 : decode b_Names_numberOfText 76 = .ok (.iinc 4 (-1), 3) := by decide +kernel
theorem d_Names_numberOfText_79 : decode b_Names_numberOfText 79 = .ok (.goto (-41), 3) := by decide +kernel
theorem d_Names_numberOfText_82 : decode b_Names_numberOfText 82 = .ok (.aload_n 0, 1) := by decide +kernel
theorem d_Names_numberOfText_83 : decode b_Names_numberOfText 83 = .ok (.getfield 20, 3) := by decide +kernel
theorem d_Names_numberOfText_86 : decode b_Names_numberOfText 86 = .ok (.aload_n 0, 1) := by decide +kernel
theorem d_Names_numberOfText_87 : decode b_Names_numberOfText 87 = .ok (.getfield 13, 3) := by decide +kernel
theorem d_Names_numberOfText_90 : decode b_Names_numberOfText 90 = .ok (.invokevirtual 95, 3) := by decide +kernel
theorem d_Names_numberOfText_93 : decode b_Names_numberOfText 93 = .ok (.aload_n 0, 1) := by decide +kernel
theorem d_Names_numberOfText_94 : decode b_Names_numberOfText 94 = .ok (.getfield 24, 3) := by decide +kernel
theorem d_Names_numberOfText_97 : decode b_Names_numberOfText 97 = .ok (.aload_n 0, 1) := by decide +kernel
theorem d_Names_numberOfText_98 : decode b_Names_numberOfText 98 = .ok (.getfield 27, 3) := by decide +kernel
theorem d_Names_numberOfText_101 : decode b_Names_numberOfText 101 = .ok (.iload_n 2, 1) := by decide +kernel
theorem d_Names_numberOfText_102 : decode b_Names_numberOfText 102 = .ok (.iaload, 1) := by decide +kernel
theorem d_Names_numberOfText_103 : decode b_Names_numberOfText 103 = .ok (.invokevirtual 95, 3) := by decide +kernel
theorem d_Names_numberOfText_106 : decode b_Names_numberOfText 106 = .ok (.aload_n 0, 1) := by decide +kernel
theorem d_Names_numberOfText_107 : decode b_Names_numberOfText 107 = .ok (.getfield 27, 3) := by decide +kernel
theorem d_Names_numberOfText_110 : decode b_Names_numberOfText 110 = .ok (.iload_n 2, 1) := by decide +kernel
theorem d_Names_numberOfText_111 : decode b_Names_numberOfText 111 = .ok (.aload_n 0, 1) := by decide +kernel
theorem d_Names_numberOfText_112 : decode b_Names_numberOfText 112 = .ok (.getfield 20, 3) := by decide +kernel
theorem d_Names_numberOfText_115 : decode b_Names_numberOfText 115 = .ok (.invokevirtual 70, 3) := by decide +kernel
theorem d_Names_numberOfText_118 : decode b_Names_numberOfText 118 = .ok (.iconst 1, 1) := by decide +kernel
theorem d_Names_numberOfText_119 : decode b_Names_numberOfText 119 = .ok (.isub, 1) := by decide +kernel
theorem d_Names_numberOfText_120 : decode b_Names_numberOfText 120 = .ok (.iastore, 1) := by decide +kernel
theorem d_Names_numberOfText_121 : decode b_Names_numberOfText 121 = .ok (.aload_n 0, 1) := by decide +kernel
theorem d_Names_numberOfText_122 : decode b_Names_numberOfText 122 = .ok (.getfield 27, 3) := by decide +kernel
theorem d_Names_numberOfText_125 : decode b_Names_numberOfText 125 = .ok (.iload_n 2, 1) := by decide +kernel
theorem d_Names_numberOfText_126 : decode b_Names_numberOfText 126 = .ok (.iaload, 1) := by decide +kernel
theorem d_Names_numberOfText_127 : decode b_Names_numberOfText 127 = .ok (.ireturn, 1) := by decide +kernel
def p_Names_numberOfText_38 (n : Nat) (a_textsSize : Int32) (a_sizeBefore : Int32) (a_texts_n : Nat) (a_texts_f : Nat → Int32) (a_ends_size : Int32) (a_ends_items_n : Nat) (a_ends_items_f : Nat → Int32) (a_older_size : Int32) (a_older_items_n : Nat) (a_older_items_f : Nat → Int32) (a_newest_n : Nat) (a_newest_f : Nat → Int32) (r2 : Int32) (r3 : Int32) (kf6 : Nat) (x4_6 : Int32) (x3_6 : Int32) : Option ((Int32 × Int32 × Nat × (Nat → Int32) × Int32 × Nat × (Nat → Int32) × (Nat → Int32)) × Nat × Nat) := match kf6 with
  | 0 => none
  | kf6 + 1 => if x4_6 ≤ 0 then ((p_Ints_push a_textsSize a_ends_size a_ends_items_n a_ends_items_f).bind (fun ((a_size_8, a_items_n_8, a_items_f_8), mk8, sk8) => al mk8 sk8 (ck (ixb r3 a_newest_n) ((p_Ints_push (a_newest_f r3.toNatClampNeg) a_older_size a_older_items_n a_older_items_f).bind (fun ((a_size_10, a_items_n_10, a_items_f_10), mk10, sk10) => al mk10 sk10 ((p_Ints_size a_size_8).bind (fun r11 => ck (ixb r3 a_newest_n) (ck (ixb r3 a_newest_n) (some (((upd a_newest_f r3.toNatClampNeg (r11 - 1)) r3.toNatClampNeg, a_size_8, a_items_n_8, a_items_f_8, a_size_10, a_items_n_10, a_items_f_10, upd a_newest_f r3.toNatClampNeg (r11 - 1)), 0, 0)))))))))) else (if x3_6 < 0 then ((p_Ints_push a_textsSize a_ends_size a_ends_items_n a_ends_items_f).bind (fun ((a_size_15, a_items_n_15, a_items_f_15), mk15, sk15) => al mk15 sk15 (ck (ixb r3 a_newest_n) ((p_Ints_push (a_newest_f r3.toNatClampNeg) a_older_size a_older_items_n a_older_items_f).bind (fun ((a_size_17, a_items_n_17, a_items_f_17), mk17, sk17) => al mk17 sk17 ((p_Ints_size a_size_15).bind (fun r18 => ck (ixb r3 a_newest_n) (ck (ixb r3 a_newest_n) (some (((upd a_newest_f r3.toNatClampNeg (r18 - 1)) r3.toNatClampNeg, a_size_15, a_items_n_15, a_items_f_15, a_size_17, a_items_n_17, a_items_f_17, upd a_newest_f r3.toNatClampNeg (r18 - 1)), 0, 0)))))))))) else ((p_Names_from x3_6 a_textsSize a_sizeBefore a_ends_size a_ends_items_n a_ends_items_f).bind (fun r21 => (p_Names_to x3_6 a_textsSize a_sizeBefore a_ends_size a_ends_items_n a_ends_items_f).bind (fun r22 => (p_Names_areSameTexts n r21 r22 r2 a_textsSize a_sizeBefore a_texts_n a_texts_f).bind (fun r23 => if r23 = 0 then ((p_Ints_at x3_6 a_older_size a_older_items_n a_older_items_f).bind (fun r25 => p_Names_numberOfText_38 n a_textsSize a_sizeBefore a_texts_n a_texts_f a_ends_size a_ends_items_n a_ends_items_f a_older_size a_older_items_n a_older_items_f a_newest_n a_newest_f r2 r3 kf6 (x4_6 + (-1)) r25)) else (some ((x3_6, a_ends_size, a_ends_items_n, a_ends_items_f, a_older_size, a_older_items_n, a_older_items_f, a_newest_f), 0, 0)))))))
def p_Names_numberOfText (n : Nat) (a_textsSize : Int32) (a_sizeBefore : Int32) (a_texts_n : Nat) (a_texts_f : Nat → Int32) (a_ends_size : Int32) (a_ends_items_n : Nat) (a_ends_items_f : Nat → Int32) (a_older_size : Int32) (a_older_items_n : Nat) (a_older_items_f : Nat → Int32) (a_newest_n : Nat) (a_newest_f : Nat → Int32) : Option ((Int32 × Int32 × Nat × (Nat → Int32) × Int32 × Nat × (Nat → Int32) × (Nat → Int32)) × Nat × Nat) := (p_Ints_size a_ends_size).bind (fun r1 => (p_Names_from r1 a_textsSize a_sizeBefore a_ends_size a_ends_items_n a_ends_items_f).bind (fun r2 => (p_Names_rowOf n r2 a_textsSize a_textsSize a_sizeBefore a_texts_n a_texts_f).bind (fun r3 => ck (ixb r3 a_newest_n) ((p_Ints_size a_ends_size).bind (fun r5 => p_Names_numberOfText_38 n a_textsSize a_sizeBefore a_texts_n a_texts_f a_ends_size a_ends_items_n a_ends_items_f a_older_size a_older_items_n a_older_items_f a_newest_n a_newest_f r2 r3 n r5 (a_newest_f r3.toNatClampNeg))))))
set_option maxHeartbeats 4000000 in
set_option maxRecDepth 100000 in
theorem c_Names_numberOfText (l : Launch) (g : va_G) (cs : Nat → ClassId) (ka : Nat → Nat) (a a_texts a_ends a_ends_items a_older a_older_items a_newest : Nat) (sz : Nat) (n : Nat) (a_textsSize : Int32) (a_sizeBefore : Int32) (a_texts_n : Nat) (a_texts_f : Nat → Int32) (a_ends_size : Int32) (a_ends_items_n : Nat) (a_ends_items_f : Nat → Int32) (a_older_size : Int32) (a_older_items_n : Nat) (a_older_items_f : Nat → Int32) (a_newest_n : Nat) (a_newest_f : Nat → Int32) (r : Int32) (o_a_ends_size : Int32) (o_a_ends_items_n : Nat) (o_a_ends_items_f : Nat → Int32) (o_a_older_size : Int32) (o_a_older_items_n : Nat) (o_a_older_items_f : Nat → Int32) (o_a_newest_f : Nat → Int32) (mc ms : Nat) (hok : p_Names_numberOfText n a_textsSize a_sizeBefore a_texts_n a_texts_f a_ends_size a_ends_items_n a_ends_items_f a_older_size a_older_items_n a_older_items_f a_newest_n a_newest_f = some ((r, o_a_ends_size, o_a_ends_items_n, o_a_ends_items_f, o_a_older_size, o_a_older_items_n, o_a_older_items_f, o_a_newest_f), mc, ms)) : Met l y_Names_numberOfText (.code y_Names_numberOfText b_Names_numberOfText 5 (some .int) :: GW) { frames := 3, cells := mc, slots := ms, locals := 143 } (va_Pc [.ref a] (gP g cs ka [(a, .inr (2, [.ref a_texts, .int a_textsSize, .ref a_ends, .ref a_older, .ref a_newest, .int a_sizeBefore])), (a_texts, .inl (cs 1, a_texts_n, .inl a_texts_f)), (a_ends, .inr (1, [.ref a_ends_items, .int a_ends_size])), (a_ends_items, .inl (cs 0, a_ends_items_n, .inl a_ends_items_f)), (a_older, .inr (1, [.ref a_older_items, .int a_older_size])), (a_older_items, .inl (cs 0, a_older_items_n, .inl a_older_items_f)), (a_newest, .inl (cs 0, a_newest_n, .inl a_newest_f))] sz)) (va_Qi (fun (r' : Int32) (_ : Unit) => r = r') (fun _ t => ∃ b_a_ends_items b_a_older_items : Nat, va_P g classes [(a, .inr (2, [.ref a_texts, .int a_textsSize, .ref a_ends, .ref a_older, .ref a_newest, .int a_sizeBefore])), (a_texts, .inl (cs 1, a_texts_n, .inl a_texts_f)), (a_ends, .inr (1, [.ref b_a_ends_items, .int o_a_ends_size])), (b_a_ends_items, .inl (cs 0, o_a_ends_items_n, .inl o_a_ends_items_f)), (a_older, .inr (1, [.ref b_a_older_items, .int o_a_older_size])), (b_a_older_items, .inl (cs 0, o_a_older_items_n, .inl o_a_older_items_f)), (a_newest, .inl (cs 0, a_newest_n, .inl o_a_newest_f))] t.heap ∧ va_D (va_A [(a, .inr (2, [.ref a_texts, .int a_textsSize, .ref a_ends, .ref a_older, .ref a_newest, .int a_sizeBefore])), (a_texts, .inl (cs 1, a_texts_n, .inl a_texts_f)), (a_ends, .inr (1, [.ref a_ends_items, .int a_ends_size])), (a_ends_items, .inl (cs 0, a_ends_items_n, .inl a_ends_items_f)), (a_older, .inr (1, [.ref a_older_items, .int a_older_size])), (a_older_items, .inl (cs 0, a_older_items_n, .inl a_older_items_f)), (a_newest, .inl (cs 0, a_newest_n, .inl a_newest_f))] sz) [(a, .inr (2, [.ref a_texts, .int a_textsSize, .ref a_ends, .ref a_older, .ref a_newest, .int a_sizeBefore])), (a_texts, .inl (cs 1, a_texts_n, .inl a_texts_f)), (a_ends, .inr (1, [.ref b_a_ends_items, .int o_a_ends_size])), (b_a_ends_items, .inl (cs 0, o_a_ends_items_n, .inl o_a_ends_items_f)), (a_older, .inr (1, [.ref b_a_older_items, .int o_a_older_size])), (b_a_older_items, .inl (cs 0, o_a_older_items_n, .inl o_a_older_items_f)), (a_newest, .inl (cs 0, a_newest_n, .inl o_a_newest_f))]) (va_A [(a, .inr (2, [.ref a_texts, .int a_textsSize, .ref a_ends, .ref a_older, .ref a_newest, .int a_sizeBefore])), (a_texts, .inl (cs 1, a_texts_n, .inl a_texts_f)), (a_ends, .inr (1, [.ref a_ends_items, .int a_ends_size])), (a_ends_items, .inl (cs 0, a_ends_items_n, .inl a_ends_items_f)), (a_older, .inr (1, [.ref a_older_items, .int a_older_size])), (a_older_items, .inl (cs 0, a_older_items_n, .inl a_older_items_f)), (a_newest, .inl (cs 0, a_newest_n, .inl a_newest_f))] sz)) mc ms (va_A [(a, .inr (2, [.ref a_texts, .int a_textsSize, .ref a_ends, .ref a_older, .ref a_newest, .int a_sizeBefore])), (a_texts, .inl (cs 1, a_texts_n, .inl a_texts_f)), (a_ends, .inr (1, [.ref a_ends_items, .int a_ends_size])), (a_ends_items, .inl (cs 0, a_ends_items_n, .inl a_ends_items_f)), (a_older, .inr (1, [.ref a_older_items, .int a_older_size])), (a_older_items, .inl (cs 0, a_older_items_n, .inl a_older_items_f)), (a_newest, .inl (cs 0, a_newest_n, .inl a_newest_f))] sz) := by
  refine Met.ofW (cc := b_Names_numberOfText) (maxL := 5) (ret := (some .int)) (by decide) rfl ?_
  intro p e s m args below meth c s₁ B hml hv
  obtain ⟨rfl, hsz, hP, hK, hD0, hgl, hkn, hkr⟩ := hv
  have hx := B.exec
  have hb := B.bytes
  have hr := B.returns
  have hg : ∀ w ∈ GW, w.before ([.ref a] : List Value).toArray s = true := fun w hw => atoms_spec (ws := .code y_Names_numberOfText b_Names_numberOfText 5 (some .int) :: GW) B.pre w (List.mem_cons_of_mem _ hw)
  have hown : s.vm.findClass R_Names = some m.cls := findClass_of_methodNamed B.named
  have hlocks := B.notSynchronized
  subst hsz
  have hD := hD0.self (sz := s.heap.size)
  generalize hAe : va_A [(a, .inr (2, [.ref a_texts, .int a_textsSize, .ref a_ends, .ref a_older, .ref a_newest, .int a_sizeBefore])), (a_texts, .inl (cs 1, a_texts_n, .inl a_texts_f)), (a_ends, .inr (1, [.ref a_ends_items, .int a_ends_size])), (a_ends_items, .inl (cs 0, a_ends_items_n, .inl a_ends_items_f)), (a_older, .inr (1, [.ref a_older_items, .int a_older_size])), (a_older_items, .inl (cs 0, a_older_items_n, .inl a_older_items_f)), (a_newest, .inl (cs 0, a_newest_n, .inl a_newest_f))] s.heap.size = A at hD hkn ⊢
  have hA : ∀ q : Nat, s.heap.size ≤ q → A q := fun q h => by rw [← hAe]; exact Or.inr h
  have hS : va_S A s.heap s.heap [] := va_S.rf
  have hP : va_P g classes [(a, .inr (2, [.ref a_texts, .int a_textsSize, .ref a_ends, .ref a_older, .ref a_newest, .int a_sizeBefore])), (a_texts, .inl (cs 1, a_texts_n, .inl a_texts_f)), (a_ends, .inr (1, [.ref a_ends_items, .int a_ends_size])), (a_ends_items, .inl (cs 0, a_ends_items_n, .inl a_ends_items_f)), (a_older, .inr (1, [.ref a_older_items, .int a_older_size])), (a_older_items, .inl (cs 0, a_older_items_n, .inl a_older_items_f)), (a_newest, .inl (cs 0, a_newest_n, .inl a_newest_f))] s.heap := hP
  have hl := lv_entry ([.ref a]) (n := 5) (Nat.le_of_ble_eq_true rfl)
  rw [lg_entry_eq]
  generalize (lg_sl ([.ref a]) ++ List.replicate (5 - (lg_sl ([.ref a])).length) Slot.unset).toArray = ls at hl ⊢
  have hl : lv_has ls 5 [(0, .ref a)] := hl
  refine gq (fun Q hQ => ?_)
  obtain ⟨H, hH⟩ : ∃ H : Heap, H = s.heap := ⟨_, rfl⟩
  rw [← hH] at hP
  have hS : va_S A s.heap H [] := by rw [hH]; exact hS
  refine W.eqH hH ?_
  obtain ⟨locs, hlc⟩ : ∃ L : List Loc, L = [] := ⟨_, rfl⟩
  rw [← hlc] at hS ⊢
  unfold p_Names_numberOfText at hok
  refine lv_aload_n hx hb d_Names_numberOfText_0 rfl (lv_at hl 0 rfl) ?_
  refine lv_aload_n hx hb d_Names_numberOfText_1 rfl (lv_at hl 0 rfl) ?_
  refine va_get (D := g) (ci := 2) (v := .ref a_ends) (C := R_Names) (T := F_Names) (N := 6) hx hb hg ul_Names hown hK hP 0 rfl rfl 2 (by decide) (hg _ wd_281) (fun _ h9 => h9) rfl d_Names_numberOfText_2 ?_
  obtain ⟨r1, hc1, hok⟩ := bd_some hok
  obtain ⟨hPc, hDc, hFc⟩ := cut0 (wc := [(a_ends, .inr (1, [.ref a_ends_items, .int a_ends_size]))]) hP hD hS hA [2] (by decide) rfl
  refine va_calli (va_runV (As := []) (rest := [.ref a]) ⟨hx, hb, hml, hown, hg⟩ (c_Ints_size l g cs ka a_ends_items a_ends H.size a_ends_size r1 hc1) (cwV (C := R_Ints) 0 hg (gw_V wd_285 wd_249 wd_250 wd_234 wd_247) rfl rfl rfl (by decide +kernel) ⟨Nat.le_of_ble_eq_true rfl, Nat.le_of_ble_eq_true rfl⟩) ⟨gP_blind, va_recv (q0 := 2) (ci := 1) (q := (R_Ints, F_Ints, 2)) hK hP rfl rfl, gP_pre hPc hDc hK hgl hkn hkr hS hFc⟩ rfl rfl hl.1 rfl (lv_room (Nat.le_of_ble_eq_true rfl)) d_Names_numberOfText_5 ⟨show 0 + 0 ≤ mc from by omega, show 0 + 0 ≤ ms from by omega⟩) hS (fun q _ h => hFc q h) hFc (fun r1' u t H locs ht hvm hr1 hB hz1 hk1 hS => ?_)
  subst hr1
  rw [ht] at hB
  obtain ⟨hP1, hD1⟩ := hB
  obtain ⟨hP, hD⟩ := jn_A hP hD [2] [0, 1, 3, 4, 5, 6] rfl rfl (by decide) (by decide) hk1 hFc hP1 hD1
  obtain ⟨hP, hD⟩ : PD g A H [(a, .inr (2, [.ref a_texts, .int a_textsSize, .ref a_ends, .ref a_older, .ref a_newest, .int a_sizeBefore])), (a_texts, .inl (cs 1, a_texts_n, .inl a_texts_f)), (a_ends_items, .inl (cs 0, a_ends_items_n, .inl a_ends_items_f)), (a_older, .inr (1, [.ref a_older_items, .int a_older_size])), (a_older_items, .inl (cs 0, a_older_items_n, .inl a_older_items_f)), (a_newest, .inl (cs 0, a_newest_n, .inl a_newest_f)), (a_ends, .inr (1, [.ref a_ends_items, .int a_ends_size]))] := ⟨hP, hD⟩
  obtain ⟨r2, hc2, hok⟩ := bd_some hok
  obtain ⟨hPc, hDc, hFc⟩ := cut0 (wc := [(a, .inr (2, [.ref a_texts, .int a_textsSize, .ref a_ends, .ref a_older, .ref a_newest, .int a_sizeBefore])), (a_ends, .inr (1, [.ref a_ends_items, .int a_ends_size])), (a_ends_items, .inl (cs 0, a_ends_items_n, .inl a_ends_items_f))]) hP hD hS hA [0, 6, 2] (by decide) rfl
  refine va_calli (va_runV (As := [.int r1]) (rest := []) ⟨hx, hb, hml, hown, hg⟩ (c_Names_from l g cs ka a_texts a_older a_newest a a_ends a_ends_items H.size r1 a_textsSize a_sizeBefore a_ends_size a_ends_items_n a_ends_items_f r2 hc2) (cwV (C := R_Names) 1 hg (gw_V wd_288 wd_289 wd_290 wd_287 wd_286) rfl rfl rfl (by decide +kernel) ⟨Nat.le_of_ble_eq_true rfl, Nat.le_of_ble_eq_true rfl⟩) ⟨gP_blind, va_recv (q0 := 0) (ci := 2) (q := (R_Names, F_Names, 6)) hK hP rfl rfl, gP_pre hPc hDc hK hgl hkn hkr hS hFc⟩ rfl rfl hl.1 rfl (lv_room (Nat.le_of_ble_eq_true rfl)) d_Names_numberOfText_8 ⟨show 0 + 0 + 0 ≤ mc from by omega, show 0 + 0 + 0 ≤ ms from by omega⟩) hS (fun q _ h => hFc q h) hFc (fun r2' u t H locs ht hvm hr2 hB hz1 hk1 hS => ?_)
  subst hr2
  rw [ht] at hB
  obtain ⟨hP1, hD1⟩ := hB
  obtain ⟨hP, hD⟩ := jn_A hP hD [0, 6, 2] [1, 3, 4, 5] rfl rfl (by decide) (by decide) hk1 hFc hP1 hD1
  obtain ⟨hP, hD⟩ : PD g A H [(a_texts, .inl (cs 1, a_texts_n, .inl a_texts_f)), (a_older, .inr (1, [.ref a_older_items, .int a_older_size])), (a_older_items, .inl (cs 0, a_older_items_n, .inl a_older_items_f)), (a_newest, .inl (cs 0, a_newest_n, .inl a_newest_f)), (a, .inr (2, [.ref a_texts, .int a_textsSize, .ref a_ends, .ref a_older, .ref a_newest, .int a_sizeBefore])), (a_ends, .inr (1, [.ref a_ends_items, .int a_ends_size])), (a_ends_items, .inl (cs 0, a_ends_items_n, .inl a_ends_items_f))] := ⟨hP, hD⟩
  refine lv_istore_n hx hb d_Names_numberOfText_11 rfl hl (by decide) rfl (fun ls hl => ?_)
  have hl : lv_has ls 5 [(1, .int r2), (0, .ref a)] := hl
  refine lv_aload_n hx hb d_Names_numberOfText_12 rfl (lv_at hl 1 rfl) ?_
  refine lv_iload_n hx hb d_Names_numberOfText_13 rfl (lv_at hl 0 rfl) ?_
  refine lv_aload_n hx hb d_Names_numberOfText_14 rfl (lv_at hl 1 rfl) ?_
  refine va_get (D := g) (ci := 2) (v := .int a_textsSize) (C := R_Names) (T := F_Names) (N := 6) hx hb hg ul_Names hown hK hP 4 rfl rfl 1 (by decide) (hg _ wd_283) (fun _ h9 => h9) rfl d_Names_numberOfText_15 ?_
  obtain ⟨r3, hc3, hok⟩ := bd_some hok
  obtain ⟨hPc, hDc, hFc⟩ := cut0 (wc := [(a, .inr (2, [.ref a_texts, .int a_textsSize, .ref a_ends, .ref a_older, .ref a_newest, .int a_sizeBefore])), (a_texts, .inl (cs 1, a_texts_n, .inl a_texts_f))]) hP hD hS hA [4, 0] (by decide) rfl
  refine va_calli (va_runV (As := [.int r2, .int a_textsSize]) (rest := []) ⟨hx, hb, hml, hown, hg⟩ (c_Names_rowOf l g cs ka a_ends a_older a_newest a a_texts H.size n r2 a_textsSize a_textsSize a_sizeBefore a_texts_n a_texts_f r3 hc3) (cwV (C := R_Names) 2 hg (gw_V wd_297 wd_298 wd_299 wd_287 wd_296) rfl rfl rfl (by decide +kernel) ⟨Nat.le_of_ble_eq_true rfl, Nat.le_of_ble_eq_true rfl⟩) ⟨gP_blind, va_recv (q0 := 4) (ci := 2) (q := (R_Names, F_Names, 6)) hK hP rfl rfl, gP_pre hPc hDc hK hgl hkn hkr hS hFc⟩ rfl rfl hl.1 rfl (lv_room (Nat.le_of_ble_eq_true rfl)) d_Names_numberOfText_18 ⟨show 0 + 0 + 0 + 0 ≤ mc from by omega, show 0 + 0 + 0 + 0 ≤ ms from by omega⟩) hS (fun q _ h => hFc q h) hFc (fun r3' u t H locs ht hvm hr3 hB hz1 hk1 hS => ?_)
  subst hr3
  rw [ht] at hB
  obtain ⟨hP1, hD1⟩ := hB
  obtain ⟨hP, hD⟩ := jn_A hP hD [4, 0] [1, 2, 3, 5, 6] rfl rfl (by decide) (by decide) hk1 hFc hP1 hD1
  obtain ⟨hP, hD⟩ : PD g A H [(a_older, .inr (1, [.ref a_older_items, .int a_older_size])), (a_older_items, .inl (cs 0, a_older_items_n, .inl a_older_items_f)), (a_newest, .inl (cs 0, a_newest_n, .inl a_newest_f)), (a_ends, .inr (1, [.ref a_ends_items, .int a_ends_size])), (a_ends_items, .inl (cs 0, a_ends_items_n, .inl a_ends_items_f)), (a, .inr (2, [.ref a_texts, .int a_textsSize, .ref a_ends, .ref a_older, .ref a_newest, .int a_sizeBefore])), (a_texts, .inl (cs 1, a_texts_n, .inl a_texts_f))] := ⟨hP, hD⟩
  refine lv_istore_n hx hb d_Names_numberOfText_21 rfl hl (by decide) rfl (fun ls hl => ?_)
  have hl : lv_has ls 5 [(2, .int r3), (1, .int r2), (0, .ref a)] := hl
  refine lv_aload_n hx hb d_Names_numberOfText_22 rfl (lv_at hl 2 rfl) ?_
  refine va_get (D := g) (ci := 2) (v := .ref a_newest) (C := R_Names) (T := F_Names) (N := 6) hx hb hg ul_Names hown hK hP 5 rfl rfl 4 (by decide) (hg _ wd_300) (fun _ h9 => h9) rfl d_Names_numberOfText_23 ?_
  refine lv_iload_n hx hb d_Names_numberOfText_26 rfl (lv_at hl 0 rfl) ?_
  obtain ⟨hi4, hok⟩ := ck_some hok
  refine va_iald hx hb hK hP 2 0 rfl rfl (ixb_in hi4) d_Names_numberOfText_27 ?_
  refine lv_istore_n hx hb d_Names_numberOfText_28 rfl hl (by decide) rfl (fun ls hl => ?_)
  have hl : lv_has ls 5 [(3, .int (a_newest_f r3.toNatClampNeg)), (2, .int r3), (1, .int r2), (0, .ref a)] := hl
  refine lv_aload_n hx hb d_Names_numberOfText_29 rfl (lv_at hl 3 rfl) ?_
  refine va_get (D := g) (ci := 2) (v := .ref a_ends) (C := R_Names) (T := F_Names) (N := 6) hx hb hg ul_Names hown hK hP 5 rfl rfl 2 (by decide) (hg _ wd_281) (fun _ h9 => h9) rfl d_Names_numberOfText_30 ?_
  obtain ⟨r5, hc5, hok⟩ := bd_some hok
  obtain ⟨hPc, hDc, hFc⟩ := cut0 (wc := [(a_ends, .inr (1, [.ref a_ends_items, .int a_ends_size]))]) hP hD hS hA [3] (by decide) rfl
  refine va_calli (va_runV (As := []) (rest := []) ⟨hx, hb, hml, hown, hg⟩ (c_Ints_size l g cs ka a_ends_items a_ends H.size a_ends_size r5 hc5) (cwV (C := R_Ints) 0 hg (gw_V wd_285 wd_249 wd_250 wd_234 wd_247) rfl rfl rfl (by decide +kernel) ⟨Nat.le_of_ble_eq_true rfl, Nat.le_of_ble_eq_true rfl⟩) ⟨gP_blind, va_recv (q0 := 3) (ci := 1) (q := (R_Ints, F_Ints, 2)) hK hP rfl rfl, gP_pre hPc hDc hK hgl hkn hkr hS hFc⟩ rfl rfl hl.1 rfl (lv_room (Nat.le_of_ble_eq_true rfl)) d_Names_numberOfText_33 ⟨show 0 + 0 + 0 + 0 + 0 ≤ mc from by omega, show 0 + 0 + 0 + 0 + 0 ≤ ms from by omega⟩) hS (fun q _ h => hFc q h) hFc (fun r5' u t H locs ht hvm hr5 hB hz1 hk1 hS => ?_)
  subst hr5
  rw [ht] at hB
  obtain ⟨hP1, hD1⟩ := hB
  obtain ⟨hP, hD⟩ := jn_A hP hD [3] [0, 1, 2, 4, 5, 6] rfl rfl (by decide) (by decide) hk1 hFc hP1 hD1
  obtain ⟨hP, hD⟩ : PD g A H [(a_older, .inr (1, [.ref a_older_items, .int a_older_size])), (a_older_items, .inl (cs 0, a_older_items_n, .inl a_older_items_f)), (a_newest, .inl (cs 0, a_newest_n, .inl a_newest_f)), (a_ends_items, .inl (cs 0, a_ends_items_n, .inl a_ends_items_f)), (a, .inr (2, [.ref a_texts, .int a_textsSize, .ref a_ends, .ref a_older, .ref a_newest, .int a_sizeBefore])), (a_texts, .inl (cs 1, a_texts_n, .inl a_texts_f)), (a_ends, .inr (1, [.ref a_ends_items, .int a_ends_size]))] := ⟨hP, hD⟩
  refine lv_istore hx hb d_Names_numberOfText_36 hl (by decide) rfl (fun ls hl => ?_)
  have hl : lv_has ls 5 [(4, .int r5), (3, .int (a_newest_f r3.toNatClampNeg)), (2, .int r3), (1, .int r2), (0, .ref a)] := hl
  have J6 : ∀ (kf6 : Nat) (H : Heap) (locs : List Loc) (ls : Array Slot) (cells6 slots6 mr6 sr6 : Nat) (x4_6 : Int32) (x3_6 : Int32), lv_has ls 5 [(4, .int x4_6), (3, .int x3_6), (2, .int r3), (1, .int r2), (0, .ref a)] → PD g A H [(a_older, .inr (1, [.ref a_older_items, .int a_older_size])), (a_older_items, .inl (cs 0, a_older_items_n, .inl a_older_items_f)), (a_newest, .inl (cs 0, a_newest_n, .inl a_newest_f)), (a_ends_items, .inl (cs 0, a_ends_items_n, .inl a_ends_items_f)), (a, .inr (2, [.ref a_texts, .int a_textsSize, .ref a_ends, .ref a_older, .ref a_newest, .int a_sizeBefore])), (a_texts, .inl (cs 1, a_texts_n, .inl a_texts_f)), (a_ends, .inr (1, [.ref a_ends_items, .int a_ends_size]))] → va_S A s.heap H locs → cells6 + mr6 = mc → slots6 + sr6 = ms → p_Names_numberOfText_38 n a_textsSize a_sizeBefore a_texts_n a_texts_f a_ends_size a_ends_items_n a_ends_items_f a_older_size a_older_items_n a_older_items_f a_newest_n a_newest_f r2 r3 kf6 x4_6 x3_6 = some ((r, o_a_ends_size, o_a_ends_items_n, o_a_ends_items_f, o_a_older_size, o_a_older_items_n, o_a_older_items_f, o_a_newest_f), mr6, sr6) → W p l e (headSpec (.code y_Names_numberOfText b_Names_numberOfText 5 (some .int) :: GW) { frames := 3, cells := mc, slots := ms, locals := 143 }).room s m ([.ref a] : List Value).toArray below meth c H locs cells6 slots6 Q (F0 m 38 ls []) := by
    intro kf6
    induction kf6 with
    | zero => intro H locs ls cells6 slots6 mr6 sr6 x4_6 x3_6 hl ⟨hP, hD⟩ hS hmr6 hsr6 hok; rw [p_Names_numberOfText_38] at hok; cases hok
    | succ kf6 ih6 =>
      intro H locs ls cells6 slots6 mr6 sr6 x4_6 x3_6 hl ⟨hP, hD⟩ hS hmr6 hsr6 hok
      rw [p_Names_numberOfText_38] at hok
      refine lv_iload hx hb d_Names_numberOfText_38 (lv_at hl 0 rfl) ?_
      refine lv_if_le hx hb d_Names_numberOfText_40 rfl (fun h7 => ?_) (fun h7 => ?_)
      · rw [if_pos h7] at hok
        refine lv_aload_n hx hb d_Names_numberOfText_82 rfl (lv_at hl 4 rfl) ?_
        refine va_get (D := g) (ci := 2) (v := .ref a_ends) (C := R_Names) (T := F_Names) (N := 6) hx hb hg ul_Names hown hK hP 4 rfl rfl 2 (by decide) (hg _ wd_281) (fun _ h9 => h9) rfl d_Names_numberOfText_83 ?_
        refine lv_aload_n hx hb d_Names_numberOfText_86 rfl (lv_at hl 4 rfl) ?_
        refine va_get (D := g) (ci := 2) (v := .int a_textsSize) (C := R_Names) (T := F_Names) (N := 6) hx hb hg ul_Names hown hK hP 4 rfl rfl 1 (by decide) (hg _ wd_283) (fun _ h9 => h9) rfl d_Names_numberOfText_87 ?_
        obtain ⟨⟨⟨a_size_8, a_items_n_8, a_items_f_8⟩, mk8, sk8⟩, hc8, hok⟩ := bd_some hok
        dsimp only at hok
        obtain ⟨m8, s8, hok, hmc8, hms8⟩ := al_some hok
        obtain ⟨hPc, hDc, hFc⟩ := cut0 (wc := [(a_ends, .inr (1, [.ref a_ends_items, .int a_ends_size])), (a_ends_items, .inl (cs 0, a_ends_items_n, .inl a_ends_items_f))]) hP hD hS hA [6, 3] (by decide) rfl
        refine va_callv (va_runV (As := [.int a_textsSize]) (rest := []) ⟨hx, hb, hml, hown, hg⟩ (c_Ints_push l g cs ka a_ends a_ends_items H.size a_textsSize a_ends_size a_ends_items_n a_ends_items_f a_size_8 a_items_n_8 a_items_f_8 mk8 sk8 hc8) (cwV (C := R_Ints) 1 hg (gw_V wd_301 wd_274 wd_275 wd_234 wd_272) rfl rfl rfl (by decide +kernel) ⟨Nat.le_of_ble_eq_true rfl, Nat.le_of_ble_eq_true rfl⟩) ⟨gP_blind, va_recv (q0 := 6) (ci := 1) (q := (R_Ints, F_Ints, 2)) hK hP rfl rfl, gP_pre hPc hDc hK hgl hkn hkr hS hFc⟩ rfl rfl hl.1 rfl (lv_room (Nat.le_of_ble_eq_true rfl)) d_Names_numberOfText_90 ⟨show cells6 + mk8 ≤ mc from by omega, show slots6 + sk8 ≤ ms from by omega⟩) hS (fun q _ h => hFc q h) hFc (fun u t H locs ht hvm hr8 hB hz1 hk1 hS => ?_)
        rw [ht] at hB
        obtain ⟨a_items_8, hP1, hD1⟩ := hB
        obtain ⟨hP, hD⟩ := jn_A hP hD [6, 3] [0, 1, 2, 4, 5] rfl rfl (by decide) (by decide) hk1 hFc hP1 hD1
        obtain ⟨hP, hD⟩ : PD g A H [(a_older, .inr (1, [.ref a_older_items, .int a_older_size])), (a_older_items, .inl (cs 0, a_older_items_n, .inl a_older_items_f)), (a_newest, .inl (cs 0, a_newest_n, .inl a_newest_f)), (a, .inr (2, [.ref a_texts, .int a_textsSize, .ref a_ends, .ref a_older, .ref a_newest, .int a_sizeBefore])), (a_texts, .inl (cs 1, a_texts_n, .inl a_texts_f)), (a_ends, .inr (1, [.ref a_items_8, .int a_size_8])), (a_items_8, .inl (cs 0, a_items_n_8, .inl a_items_f_8))] := ⟨hP, hD⟩
        refine lv_aload_n hx hb d_Names_numberOfText_93 rfl (lv_at hl 4 rfl) ?_
        refine va_get (D := g) (ci := 2) (v := .ref a_older) (C := R_Names) (T := F_Names) (N := 6) hx hb hg ul_Names hown hK hP 3 rfl rfl 3 (by decide) (hg _ wd_302) (fun _ h9 => h9) rfl d_Names_numberOfText_94 ?_
        refine lv_aload_n hx hb d_Names_numberOfText_97 rfl (lv_at hl 4 rfl) ?_
        refine va_get (D := g) (ci := 2) (v := .ref a_newest) (C := R_Names) (T := F_Names) (N := 6) hx hb hg ul_Names hown hK hP 3 rfl rfl 4 (by decide) (hg _ wd_300) (fun _ h9 => h9) rfl d_Names_numberOfText_98 ?_
        refine lv_iload_n hx hb d_Names_numberOfText_101 rfl (lv_at hl 2 rfl) ?_
        obtain ⟨hi9, hok⟩ := ck_some hok
        refine va_iald hx hb hK hP 2 0 rfl rfl (ixb_in hi9) d_Names_numberOfText_102 ?_
        obtain ⟨⟨⟨a_size_10, a_items_n_10, a_items_f_10⟩, mk10, sk10⟩, hc10, hok⟩ := bd_some hok
        dsimp only at hok
        obtain ⟨m10, s10, hok, hmc10, hms10⟩ := al_some hok
        obtain ⟨hPc, hDc, hFc⟩ := cut0 (wc := [(a_older, .inr (1, [.ref a_older_items, .int a_older_size])), (a_older_items, .inl (cs 0, a_older_items_n, .inl a_older_items_f))]) hP hD hS hA [0, 1] (by decide) rfl
        refine va_callv (va_runV (As := [.int (a_newest_f r3.toNatClampNeg)]) (rest := []) ⟨hx, hb, hml, hown, hg⟩ (c_Ints_push l g cs ka a_older a_older_items H.size (a_newest_f r3.toNatClampNeg) a_older_size a_older_items_n a_older_items_f a_size_10 a_items_n_10 a_items_f_10 mk10 sk10 hc10) (cwV (C := R_Ints) 1 hg (gw_V wd_301 wd_274 wd_275 wd_234 wd_272) rfl rfl rfl (by decide +kernel) ⟨Nat.le_of_ble_eq_true rfl, Nat.le_of_ble_eq_true rfl⟩) ⟨gP_blind, va_recv (q0 := 0) (ci := 1) (q := (R_Ints, F_Ints, 2)) hK hP rfl rfl, gP_pre hPc hDc hK hgl hkn hkr hS hFc⟩ rfl rfl hl.1 rfl (lv_room (Nat.le_of_ble_eq_true rfl)) d_Names_numberOfText_103 ⟨show cells6 + mk8 + mk10 ≤ mc from by omega, show slots6 + sk8 + sk10 ≤ ms from by omega⟩) hS (fun q _ h => hFc q h) hFc (fun u t H locs ht hvm hr10 hB hz1 hk1 hS => ?_)
        rw [ht] at hB
        obtain ⟨a_items_10, hP1, hD1⟩ := hB
        obtain ⟨hP, hD⟩ := jn_A hP hD [0, 1] [2, 3, 4, 5, 6] rfl rfl (by decide) (by decide) hk1 hFc hP1 hD1
        obtain ⟨hP, hD⟩ : PD g A H [(a_newest, .inl (cs 0, a_newest_n, .inl a_newest_f)), (a, .inr (2, [.ref a_texts, .int a_textsSize, .ref a_ends, .ref a_older, .ref a_newest, .int a_sizeBefore])), (a_texts, .inl (cs 1, a_texts_n, .inl a_texts_f)), (a_ends, .inr (1, [.ref a_items_8, .int a_size_8])), (a_items_8, .inl (cs 0, a_items_n_8, .inl a_items_f_8)), (a_older, .inr (1, [.ref a_items_10, .int a_size_10])), (a_items_10, .inl (cs 0, a_items_n_10, .inl a_items_f_10))] := ⟨hP, hD⟩
        refine lv_aload_n hx hb d_Names_numberOfText_106 rfl (lv_at hl 4 rfl) ?_
        refine va_get (D := g) (ci := 2) (v := .ref a_newest) (C := R_Names) (T := F_Names) (N := 6) hx hb hg ul_Names hown hK hP 1 rfl rfl 4 (by decide) (hg _ wd_300) (fun _ h9 => h9) rfl d_Names_numberOfText_107 ?_
        refine lv_iload_n hx hb d_Names_numberOfText_110 rfl (lv_at hl 2 rfl) ?_
        refine lv_aload_n hx hb d_Names_numberOfText_111 rfl (lv_at hl 4 rfl) ?_
        refine va_get (D := g) (ci := 2) (v := .ref a_ends) (C := R_Names) (T := F_Names) (N := 6) hx hb hg ul_Names hown hK hP 1 rfl rfl 2 (by decide) (hg _ wd_281) (fun _ h9 => h9) rfl d_Names_numberOfText_112 ?_
        obtain ⟨r11, hc11, hok⟩ := bd_some hok
        obtain ⟨hPc, hDc, hFc⟩ := cut0 (wc := [(a_ends, .inr (1, [.ref a_items_8, .int a_size_8]))]) hP hD hS hA [3] (by decide) rfl
        refine va_calli (va_runV (As := []) (rest := [.int r3, .ref a_newest]) ⟨hx, hb, hml, hown, hg⟩ (c_Ints_size l g cs ka a_items_8 a_ends H.size a_size_8 r11 hc11) (cwV (C := R_Ints) 0 hg (gw_V wd_285 wd_249 wd_250 wd_234 wd_247) rfl rfl rfl (by decide +kernel) ⟨Nat.le_of_ble_eq_true rfl, Nat.le_of_ble_eq_true rfl⟩) ⟨gP_blind, va_recv (q0 := 3) (ci := 1) (q := (R_Ints, F_Ints, 2)) hK hP rfl rfl, gP_pre hPc hDc hK hgl hkn hkr hS hFc⟩ rfl rfl hl.1 rfl (lv_room (Nat.le_of_ble_eq_true rfl)) d_Names_numberOfText_115 ⟨show cells6 + mk8 + mk10 + 0 ≤ mc from by omega, show slots6 + sk8 + sk10 + 0 ≤ ms from by omega⟩) hS (fun q _ h => hFc q h) hFc (fun r11' u t H locs ht hvm hr11 hB hz1 hk1 hS => ?_)
        subst hr11
        rw [ht] at hB
        obtain ⟨hP1, hD1⟩ := hB
        obtain ⟨hP, hD⟩ := jn_A hP hD [3] [0, 1, 2, 4, 5, 6] rfl rfl (by decide) (by decide) hk1 hFc hP1 hD1
        obtain ⟨hP, hD⟩ : PD g A H [(a_newest, .inl (cs 0, a_newest_n, .inl a_newest_f)), (a, .inr (2, [.ref a_texts, .int a_textsSize, .ref a_ends, .ref a_older, .ref a_newest, .int a_sizeBefore])), (a_texts, .inl (cs 1, a_texts_n, .inl a_texts_f)), (a_items_8, .inl (cs 0, a_items_n_8, .inl a_items_f_8)), (a_older, .inr (1, [.ref a_items_10, .int a_size_10])), (a_items_10, .inl (cs 0, a_items_n_10, .inl a_items_f_10)), (a_ends, .inr (1, [.ref a_items_8, .int a_size_8]))] := ⟨hP, hD⟩
        refine lv_iconst (v := 1) hx hb d_Names_numberOfText_118 (by decide) ?_
        refine lv_isub hx hb d_Names_numberOfText_119 ?_
        obtain ⟨hi12, hok⟩ := ck_some hok
        refine va_iast hx hb hK hP hD hS 0 0 rfl rfl (ixb_in hi12) d_Names_numberOfText_120 (fun H locs hP hD hS => ?_)
        obtain ⟨hP, hD⟩ : PD g A H [(a_newest, .inl (cs 0, a_newest_n, .inl (upd a_newest_f r3.toNatClampNeg (r11 - 1)))), (a, .inr (2, [.ref a_texts, .int a_textsSize, .ref a_ends, .ref a_older, .ref a_newest, .int a_sizeBefore])), (a_texts, .inl (cs 1, a_texts_n, .inl a_texts_f)), (a_items_8, .inl (cs 0, a_items_n_8, .inl a_items_f_8)), (a_older, .inr (1, [.ref a_items_10, .int a_size_10])), (a_items_10, .inl (cs 0, a_items_n_10, .inl a_items_f_10)), (a_ends, .inr (1, [.ref a_items_8, .int a_size_8]))] := ⟨hP, hD⟩
        refine lv_aload_n hx hb d_Names_numberOfText_121 rfl (lv_at hl 4 rfl) ?_
        refine va_get (D := g) (ci := 2) (v := .ref a_newest) (C := R_Names) (T := F_Names) (N := 6) hx hb hg ul_Names hown hK hP 1 rfl rfl 4 (by decide) (hg _ wd_300) (fun _ h9 => h9) rfl d_Names_numberOfText_122 ?_
        refine lv_iload_n hx hb d_Names_numberOfText_125 rfl (lv_at hl 2 rfl) ?_
        obtain ⟨hi13, hok⟩ := ck_some hok
        refine va_iald hx hb hK hP 0 0 rfl rfl (ixb_in hi13) d_Names_numberOfText_126 ?_
        obtain ⟨hq, hw⟩ := Prod.mk.inj (Option.some.inj hok)
        obtain ⟨hmc0, hms0⟩ := Prod.mk.inj hw
        obtain ⟨hq0, hq⟩ := Prod.mk.inj hq
        obtain ⟨hq1, hq⟩ := Prod.mk.inj hq
        obtain ⟨hq2, hq⟩ := Prod.mk.inj hq
        obtain ⟨hq3, hq⟩ := Prod.mk.inj hq
        obtain ⟨hq4, hq⟩ := Prod.mk.inj hq
        obtain ⟨hq5, hq⟩ := Prod.mk.inj hq
        obtain ⟨hq6, hq⟩ := Prod.mk.inj hq
        have hq7 := hq
        subst hq0
        subst hq1
        subst hq2
        subst hq3
        subst hq4
        subst hq5
        subst hq6
        subst hq7
        obtain ⟨hP9, hD9⟩ := sub2 (ws' := [(a, .inr (2, [.ref a_texts, .int a_textsSize, .ref a_ends, .ref a_older, .ref a_newest, .int a_sizeBefore])), (a_texts, .inl (cs 1, a_texts_n, .inl a_texts_f)), (a_ends, .inr (1, [.ref a_items_8, .int a_size_8])), (a_items_8, .inl (cs 0, a_items_n_8, .inl a_items_f_8)), (a_older, .inr (1, [.ref a_items_10, .int a_size_10])), (a_items_10, .inl (cs 0, a_items_n_10, .inl a_items_f_10)), (a_newest, .inl (cs 0, a_newest_n, .inl (upd a_newest_f r3.toNatClampNeg (r11 - 1))))]) hP hD [1, 2, 6, 3, 4, 5, 0] rfl (by decide) rfl
        refine W.widen (k := mc) (n := ms) (by omega) (by omega) ?_
        rw [hQ]
        exact W.iret (v := (upd a_newest_f r3.toNatClampNeg (r11 - 1)) r3.toNatClampNeg) hx hb hr (fun t ht hW => ⟨⟨_, (), rfl, rfl, a_items_8, a_items_10, by rw [ht]; exact hP9, hD9⟩, hS.F ht⟩) hS.2.2 d_Names_numberOfText_127
      · rw [if_neg h7] at hok
        refine lv_iload_n hx hb d_Names_numberOfText_43 rfl (lv_at hl 1 rfl) ?_
        refine lv_if_lt hx hb d_Names_numberOfText_44 rfl (fun h14 => ?_) (fun h14 => ?_)
        · rw [if_pos h14] at hok
          refine lv_aload_n hx hb d_Names_numberOfText_82 rfl (lv_at hl 4 rfl) ?_
          refine va_get (D := g) (ci := 2) (v := .ref a_ends) (C := R_Names) (T := F_Names) (N := 6) hx hb hg ul_Names hown hK hP 4 rfl rfl 2 (by decide) (hg _ wd_281) (fun _ h9 => h9) rfl d_Names_numberOfText_83 ?_
          refine lv_aload_n hx hb d_Names_numberOfText_86 rfl (lv_at hl 4 rfl) ?_
          refine va_get (D := g) (ci := 2) (v := .int a_textsSize) (C := R_Names) (T := F_Names) (N := 6) hx hb hg ul_Names hown hK hP 4 rfl rfl 1 (by decide) (hg _ wd_283) (fun _ h9 => h9) rfl d_Names_numberOfText_87 ?_
          obtain ⟨⟨⟨a_size_15, a_items_n_15, a_items_f_15⟩, mk15, sk15⟩, hc15, hok⟩ := bd_some hok
          dsimp only at hok
          obtain ⟨m15, s15, hok, hmc15, hms15⟩ := al_some hok
          obtain ⟨hPc, hDc, hFc⟩ := cut0 (wc := [(a_ends, .inr (1, [.ref a_ends_items, .int a_ends_size])), (a_ends_items, .inl (cs 0, a_ends_items_n, .inl a_ends_items_f))]) hP hD hS hA [6, 3] (by decide) rfl
          refine va_callv (va_runV (As := [.int a_textsSize]) (rest := []) ⟨hx, hb, hml, hown, hg⟩ (c_Ints_push l g cs ka a_ends a_ends_items H.size a_textsSize a_ends_size a_ends_items_n a_ends_items_f a_size_15 a_items_n_15 a_items_f_15 mk15 sk15 hc15) (cwV (C := R_Ints) 1 hg (gw_V wd_301 wd_274 wd_275 wd_234 wd_272) rfl rfl rfl (by decide +kernel) ⟨Nat.le_of_ble_eq_true rfl, Nat.le_of_ble_eq_true rfl⟩) ⟨gP_blind, va_recv (q0 := 6) (ci := 1) (q := (R_Ints, F_Ints, 2)) hK hP rfl rfl, gP_pre hPc hDc hK hgl hkn hkr hS hFc⟩ rfl rfl hl.1 rfl (lv_room (Nat.le_of_ble_eq_true rfl)) d_Names_numberOfText_90 ⟨show cells6 + mk15 ≤ mc from by omega, show slots6 + sk15 ≤ ms from by omega⟩) hS (fun q _ h => hFc q h) hFc (fun u t H locs ht hvm hr15 hB hz1 hk1 hS => ?_)
          rw [ht] at hB
          obtain ⟨a_items_15, hP1, hD1⟩ := hB
          obtain ⟨hP, hD⟩ := jn_A hP hD [6, 3] [0, 1, 2, 4, 5] rfl rfl (by decide) (by decide) hk1 hFc hP1 hD1
          obtain ⟨hP, hD⟩ : PD g A H [(a_older, .inr (1, [.ref a_older_items, .int a_older_size])), (a_older_items, .inl (cs 0, a_older_items_n, .inl a_older_items_f)), (a_newest, .inl (cs 0, a_newest_n, .inl a_newest_f)), (a, .inr (2, [.ref a_texts, .int a_textsSize, .ref a_ends, .ref a_older, .ref a_newest, .int a_sizeBefore])), (a_texts, .inl (cs 1, a_texts_n, .inl a_texts_f)), (a_ends, .inr (1, [.ref a_items_15, .int a_size_15])), (a_items_15, .inl (cs 0, a_items_n_15, .inl a_items_f_15))] := ⟨hP, hD⟩
          refine lv_aload_n hx hb d_Names_numberOfText_93 rfl (lv_at hl 4 rfl) ?_
          refine va_get (D := g) (ci := 2) (v := .ref a_older) (C := R_Names) (T := F_Names) (N := 6) hx hb hg ul_Names hown hK hP 3 rfl rfl 3 (by decide) (hg _ wd_302) (fun _ h9 => h9) rfl d_Names_numberOfText_94 ?_
          refine lv_aload_n hx hb d_Names_numberOfText_97 rfl (lv_at hl 4 rfl) ?_
          refine va_get (D := g) (ci := 2) (v := .ref a_newest) (C := R_Names) (T := F_Names) (N := 6) hx hb hg ul_Names hown hK hP 3 rfl rfl 4 (by decide) (hg _ wd_300) (fun _ h9 => h9) rfl d_Names_numberOfText_98 ?_
          refine lv_iload_n hx hb d_Names_numberOfText_101 rfl (lv_at hl 2 rfl) ?_
          obtain ⟨hi16, hok⟩ := ck_some hok
          refine va_iald hx hb hK hP 2 0 rfl rfl (ixb_in hi16) d_Names_numberOfText_102 ?_
          obtain ⟨⟨⟨a_size_17, a_items_n_17, a_items_f_17⟩, mk17, sk17⟩, hc17, hok⟩ := bd_some hok
          dsimp only at hok
          obtain ⟨m17, s17, hok, hmc17, hms17⟩ := al_some hok
          obtain ⟨hPc, hDc, hFc⟩ := cut0 (wc := [(a_older, .inr (1, [.ref a_older_items, .int a_older_size])), (a_older_items, .inl (cs 0, a_older_items_n, .inl a_older_items_f))]) hP hD hS hA [0, 1] (by decide) rfl
          refine va_callv (va_runV (As := [.int (a_newest_f r3.toNatClampNeg)]) (rest := []) ⟨hx, hb, hml, hown, hg⟩ (c_Ints_push l g cs ka a_older a_older_items H.size (a_newest_f r3.toNatClampNeg) a_older_size a_older_items_n a_older_items_f a_size_17 a_items_n_17 a_items_f_17 mk17 sk17 hc17) (cwV (C := R_Ints) 1 hg (gw_V wd_301 wd_274 wd_275 wd_234 wd_272) rfl rfl rfl (by decide +kernel) ⟨Nat.le_of_ble_eq_true rfl, Nat.le_of_ble_eq_true rfl⟩) ⟨gP_blind, va_recv (q0 := 0) (ci := 1) (q := (R_Ints, F_Ints, 2)) hK hP rfl rfl, gP_pre hPc hDc hK hgl hkn hkr hS hFc⟩ rfl rfl hl.1 rfl (lv_room (Nat.le_of_ble_eq_true rfl)) d_Names_numberOfText_103 ⟨show cells6 + mk15 + mk17 ≤ mc from by omega, show slots6 + sk15 + sk17 ≤ ms from by omega⟩) hS (fun q _ h => hFc q h) hFc (fun u t H locs ht hvm hr17 hB hz1 hk1 hS => ?_)
          rw [ht] at hB
          obtain ⟨a_items_17, hP1, hD1⟩ := hB
          obtain ⟨hP, hD⟩ := jn_A hP hD [0, 1] [2, 3, 4, 5, 6] rfl rfl (by decide) (by decide) hk1 hFc hP1 hD1
          obtain ⟨hP, hD⟩ : PD g A H [(a_newest, .inl (cs 0, a_newest_n, .inl a_newest_f)), (a, .inr (2, [.ref a_texts, .int a_textsSize, .ref a_ends, .ref a_older, .ref a_newest, .int a_sizeBefore])), (a_texts, .inl (cs 1, a_texts_n, .inl a_texts_f)), (a_ends, .inr (1, [.ref a_items_15, .int a_size_15])), (a_items_15, .inl (cs 0, a_items_n_15, .inl a_items_f_15)), (a_older, .inr (1, [.ref a_items_17, .int a_size_17])), (a_items_17, .inl (cs 0, a_items_n_17, .inl a_items_f_17))] := ⟨hP, hD⟩
          refine lv_aload_n hx hb d_Names_numberOfText_106 rfl (lv_at hl 4 rfl) ?_
          refine va_get (D := g) (ci := 2) (v := .ref a_newest) (C := R_Names) (T := F_Names) (N := 6) hx hb hg ul_Names hown hK hP 1 rfl rfl 4 (by decide) (hg _ wd_300) (fun _ h9 => h9) rfl d_Names_numberOfText_107 ?_
          refine lv_iload_n hx hb d_Names_numberOfText_110 rfl (lv_at hl 2 rfl) ?_
          refine lv_aload_n hx hb d_Names_numberOfText_111 rfl (lv_at hl 4 rfl) ?_
          refine va_get (D := g) (ci := 2) (v := .ref a_ends) (C := R_Names) (T := F_Names) (N := 6) hx hb hg ul_Names hown hK hP 1 rfl rfl 2 (by decide) (hg _ wd_281) (fun _ h9 => h9) rfl d_Names_numberOfText_112 ?_
          obtain ⟨r18, hc18, hok⟩ := bd_some hok
          obtain ⟨hPc, hDc, hFc⟩ := cut0 (wc := [(a_ends, .inr (1, [.ref a_items_15, .int a_size_15]))]) hP hD hS hA [3] (by decide) rfl
          refine va_calli (va_runV (As := []) (rest := [.int r3, .ref a_newest]) ⟨hx, hb, hml, hown, hg⟩ (c_Ints_size l g cs ka a_items_15 a_ends H.size a_size_15 r18 hc18) (cwV (C := R_Ints) 0 hg (gw_V wd_285 wd_249 wd_250 wd_234 wd_247) rfl rfl rfl (by decide +kernel) ⟨Nat.le_of_ble_eq_true rfl, Nat.le_of_ble_eq_true rfl⟩) ⟨gP_blind, va_recv (q0 := 3) (ci := 1) (q := (R_Ints, F_Ints, 2)) hK hP rfl rfl, gP_pre hPc hDc hK hgl hkn hkr hS hFc⟩ rfl rfl hl.1 rfl (lv_room (Nat.le_of_ble_eq_true rfl)) d_Names_numberOfText_115 ⟨show cells6 + mk15 + mk17 + 0 ≤ mc from by omega, show slots6 + sk15 + sk17 + 0 ≤ ms from by omega⟩) hS (fun q _ h => hFc q h) hFc (fun r18' u t H locs ht hvm hr18 hB hz1 hk1 hS => ?_)
          subst hr18
          rw [ht] at hB
          obtain ⟨hP1, hD1⟩ := hB
          obtain ⟨hP, hD⟩ := jn_A hP hD [3] [0, 1, 2, 4, 5, 6] rfl rfl (by decide) (by decide) hk1 hFc hP1 hD1
          obtain ⟨hP, hD⟩ : PD g A H [(a_newest, .inl (cs 0, a_newest_n, .inl a_newest_f)), (a, .inr (2, [.ref a_texts, .int a_textsSize, .ref a_ends, .ref a_older, .ref a_newest, .int a_sizeBefore])), (a_texts, .inl (cs 1, a_texts_n, .inl a_texts_f)), (a_items_15, .inl (cs 0, a_items_n_15, .inl a_items_f_15)), (a_older, .inr (1, [.ref a_items_17, .int a_size_17])), (a_items_17, .inl (cs 0, a_items_n_17, .inl a_items_f_17)), (a_ends, .inr (1, [.ref a_items_15, .int a_size_15]))] := ⟨hP, hD⟩
          refine lv_iconst (v := 1) hx hb d_Names_numberOfText_118 (by decide) ?_
          refine lv_isub hx hb d_Names_numberOfText_119 ?_
          obtain ⟨hi19, hok⟩ := ck_some hok
          refine va_iast hx hb hK hP hD hS 0 0 rfl rfl (ixb_in hi19) d_Names_numberOfText_120 (fun H locs hP hD hS => ?_)
          obtain ⟨hP, hD⟩ : PD g A H [(a_newest, .inl (cs 0, a_newest_n, .inl (upd a_newest_f r3.toNatClampNeg (r18 - 1)))), (a, .inr (2, [.ref a_texts, .int a_textsSize, .ref a_ends, .ref a_older, .ref a_newest, .int a_sizeBefore])), (a_texts, .inl (cs 1, a_texts_n, .inl a_texts_f)), (a_items_15, .inl (cs 0, a_items_n_15, .inl a_items_f_15)), (a_older, .inr (1, [.ref a_items_17, .int a_size_17])), (a_items_17, .inl (cs 0, a_items_n_17, .inl a_items_f_17)), (a_ends, .inr (1, [.ref a_items_15, .int a_size_15]))] := ⟨hP, hD⟩
          refine lv_aload_n hx hb d_Names_numberOfText_121 rfl (lv_at hl 4 rfl) ?_
          refine va_get (D := g) (ci := 2) (v := .ref a_newest) (C := R_Names) (T := F_Names) (N := 6) hx hb hg ul_Names hown hK hP 1 rfl rfl 4 (by decide) (hg _ wd_300) (fun _ h9 => h9) rfl d_Names_numberOfText_122 ?_
          refine lv_iload_n hx hb d_Names_numberOfText_125 rfl (lv_at hl 2 rfl) ?_
          obtain ⟨hi20, hok⟩ := ck_some hok
          refine va_iald hx hb hK hP 0 0 rfl rfl (ixb_in hi20) d_Names_numberOfText_126 ?_
          obtain ⟨hq, hw⟩ := Prod.mk.inj (Option.some.inj hok)
          obtain ⟨hmc0, hms0⟩ := Prod.mk.inj hw
          obtain ⟨hq0, hq⟩ := Prod.mk.inj hq
          obtain ⟨hq1, hq⟩ := Prod.mk.inj hq
          obtain ⟨hq2, hq⟩ := Prod.mk.inj hq
          obtain ⟨hq3, hq⟩ := Prod.mk.inj hq
          obtain ⟨hq4, hq⟩ := Prod.mk.inj hq
          obtain ⟨hq5, hq⟩ := Prod.mk.inj hq
          obtain ⟨hq6, hq⟩ := Prod.mk.inj hq
          have hq7 := hq
          subst hq0
          subst hq1
          subst hq2
          subst hq3
          subst hq4
          subst hq5
          subst hq6
          subst hq7
          obtain ⟨hP9, hD9⟩ := sub2 (ws' := [(a, .inr (2, [.ref a_texts, .int a_textsSize, .ref a_ends, .ref a_older, .ref a_newest, .int a_sizeBefore])), (a_texts, .inl (cs 1, a_texts_n, .inl a_texts_f)), (a_ends, .inr (1, [.ref a_items_15, .int a_size_15])), (a_items_15, .inl (cs 0, a_items_n_15, .inl a_items_f_15)), (a_older, .inr (1, [.ref a_items_17, .int a_size_17])), (a_items_17, .inl (cs 0, a_items_n_17, .inl a_items_f_17)), (a_newest, .inl (cs 0, a_newest_n, .inl (upd a_newest_f r3.toNatClampNeg (r18 - 1))))]) hP hD [1, 2, 6, 3, 4, 5, 0] rfl (by decide) rfl
          refine W.widen (k := mc) (n := ms) (by omega) (by omega) ?_
          rw [hQ]
          exact W.iret (v := (upd a_newest_f r3.toNatClampNeg (r18 - 1)) r3.toNatClampNeg) hx hb hr (fun t ht hW => ⟨⟨_, (), rfl, rfl, a_items_15, a_items_17, by rw [ht]; exact hP9, hD9⟩, hS.F ht⟩) hS.2.2 d_Names_numberOfText_127
        · rw [if_neg h14] at hok
          refine lv_aload_n hx hb d_Names_numberOfText_47 rfl (lv_at hl 4 rfl) ?_
          refine lv_aload_n hx hb d_Names_numberOfText_48 rfl (lv_at hl 4 rfl) ?_
          refine lv_iload_n hx hb d_Names_numberOfText_49 rfl (lv_at hl 1 rfl) ?_
          obtain ⟨r21, hc21, hok⟩ := bd_some hok
          obtain ⟨hPc, hDc, hFc⟩ := cut0 (wc := [(a, .inr (2, [.ref a_texts, .int a_textsSize, .ref a_ends, .ref a_older, .ref a_newest, .int a_sizeBefore])), (a_ends, .inr (1, [.ref a_ends_items, .int a_ends_size])), (a_ends_items, .inl (cs 0, a_ends_items_n, .inl a_ends_items_f))]) hP hD hS hA [4, 6, 3] (by decide) rfl
          refine va_calli (va_runV (As := [.int x3_6]) (rest := [.ref a]) ⟨hx, hb, hml, hown, hg⟩ (c_Names_from l g cs ka a_texts a_older a_newest a a_ends a_ends_items H.size x3_6 a_textsSize a_sizeBefore a_ends_size a_ends_items_n a_ends_items_f r21 hc21) (cwV (C := R_Names) 1 hg (gw_V wd_288 wd_289 wd_290 wd_287 wd_286) rfl rfl rfl (by decide +kernel) ⟨Nat.le_of_ble_eq_true rfl, Nat.le_of_ble_eq_true rfl⟩) ⟨gP_blind, va_recv (q0 := 4) (ci := 2) (q := (R_Names, F_Names, 6)) hK hP rfl rfl, gP_pre hPc hDc hK hgl hkn hkr hS hFc⟩ rfl rfl hl.1 rfl (lv_room (Nat.le_of_ble_eq_true rfl)) d_Names_numberOfText_50 ⟨show cells6 + 0 ≤ mc from by omega, show slots6 + 0 ≤ ms from by omega⟩) hS (fun q _ h => hFc q h) hFc (fun r21' u t H locs ht hvm hr21 hB hz1 hk1 hS => ?_)
          subst hr21
          rw [ht] at hB
          obtain ⟨hP1, hD1⟩ := hB
          obtain ⟨hP, hD⟩ := jn_A hP hD [4, 6, 3] [0, 1, 2, 5] rfl rfl (by decide) (by decide) hk1 hFc hP1 hD1
          obtain ⟨hP, hD⟩ : PD g A H [(a_older, .inr (1, [.ref a_older_items, .int a_older_size])), (a_older_items, .inl (cs 0, a_older_items_n, .inl a_older_items_f)), (a_newest, .inl (cs 0, a_newest_n, .inl a_newest_f)), (a_texts, .inl (cs 1, a_texts_n, .inl a_texts_f)), (a, .inr (2, [.ref a_texts, .int a_textsSize, .ref a_ends, .ref a_older, .ref a_newest, .int a_sizeBefore])), (a_ends, .inr (1, [.ref a_ends_items, .int a_ends_size])), (a_ends_items, .inl (cs 0, a_ends_items_n, .inl a_ends_items_f))] := ⟨hP, hD⟩
          refine lv_aload_n hx hb d_Names_numberOfText_53 rfl (lv_at hl 4 rfl) ?_
          refine lv_iload_n hx hb d_Names_numberOfText_54 rfl (lv_at hl 1 rfl) ?_
          obtain ⟨r22, hc22, hok⟩ := bd_some hok
          obtain ⟨hPc, hDc, hFc⟩ := cut0 (wc := [(a, .inr (2, [.ref a_texts, .int a_textsSize, .ref a_ends, .ref a_older, .ref a_newest, .int a_sizeBefore])), (a_ends, .inr (1, [.ref a_ends_items, .int a_ends_size])), (a_ends_items, .inl (cs 0, a_ends_items_n, .inl a_ends_items_f))]) hP hD hS hA [4, 5, 6] (by decide) rfl
          refine va_calli (va_runV (As := [.int x3_6]) (rest := [.int r21, .ref a]) ⟨hx, hb, hml, hown, hg⟩ (c_Names_to l g cs ka a_texts a_older a_newest a a_ends a_ends_items H.size x3_6 a_textsSize a_sizeBefore a_ends_size a_ends_items_n a_ends_items_f r22 hc22) (cwV (C := R_Names) 1 hg (gw_V wd_304 wd_305 wd_306 wd_287 wd_303) rfl rfl rfl (by decide +kernel) ⟨Nat.le_of_ble_eq_true rfl, Nat.le_of_ble_eq_true rfl⟩) ⟨gP_blind, va_recv (q0 := 4) (ci := 2) (q := (R_Names, F_Names, 6)) hK hP rfl rfl, gP_pre hPc hDc hK hgl hkn hkr hS hFc⟩ rfl rfl hl.1 rfl (lv_room (Nat.le_of_ble_eq_true rfl)) d_Names_numberOfText_55 ⟨show cells6 + 0 + 0 ≤ mc from by omega, show slots6 + 0 + 0 ≤ ms from by omega⟩) hS (fun q _ h => hFc q h) hFc (fun r22' u t H locs ht hvm hr22 hB hz1 hk1 hS => ?_)
          subst hr22
          rw [ht] at hB
          obtain ⟨hP1, hD1⟩ := hB
          obtain ⟨hP, hD⟩ := jn_A hP hD [4, 5, 6] [0, 1, 2, 3] rfl rfl (by decide) (by decide) hk1 hFc hP1 hD1
          obtain ⟨hP, hD⟩ : PD g A H [(a_older, .inr (1, [.ref a_older_items, .int a_older_size])), (a_older_items, .inl (cs 0, a_older_items_n, .inl a_older_items_f)), (a_newest, .inl (cs 0, a_newest_n, .inl a_newest_f)), (a_texts, .inl (cs 1, a_texts_n, .inl a_texts_f)), (a, .inr (2, [.ref a_texts, .int a_textsSize, .ref a_ends, .ref a_older, .ref a_newest, .int a_sizeBefore])), (a_ends, .inr (1, [.ref a_ends_items, .int a_ends_size])), (a_ends_items, .inl (cs 0, a_ends_items_n, .inl a_ends_items_f))] := ⟨hP, hD⟩
          refine lv_iload_n hx hb d_Names_numberOfText_58 rfl (lv_at hl 3 rfl) ?_
          obtain ⟨r23, hc23, hok⟩ := bd_some hok
          obtain ⟨hPc, hDc, hFc⟩ := cut0 (wc := [(a, .inr (2, [.ref a_texts, .int a_textsSize, .ref a_ends, .ref a_older, .ref a_newest, .int a_sizeBefore])), (a_texts, .inl (cs 1, a_texts_n, .inl a_texts_f))]) hP hD hS hA [4, 3] (by decide) rfl
          refine va_calli (va_runV (As := [.int r21, .int r22, .int r2]) (rest := []) ⟨hx, hb, hml, hown, hg⟩ (c_Names_areSameTexts l g cs ka a_ends a_older a_newest a a_texts H.size n r21 r22 r2 a_textsSize a_sizeBefore a_texts_n a_texts_f r23 hc23) (cwV (C := R_Names) 3 hg (gw_V wd_308 wd_309 wd_310 wd_287 wd_307) rfl rfl rfl (by decide +kernel) ⟨Nat.le_of_ble_eq_true rfl, Nat.le_of_ble_eq_true rfl⟩) ⟨gP_blind, va_recv (q0 := 4) (ci := 2) (q := (R_Names, F_Names, 6)) hK hP rfl rfl, gP_pre hPc hDc hK hgl hkn hkr hS hFc⟩ rfl rfl hl.1 rfl (lv_room (Nat.le_of_ble_eq_true rfl)) d_Names_numberOfText_59 ⟨show cells6 + 0 + 0 + 0 ≤ mc from by omega, show slots6 + 0 + 0 + 0 ≤ ms from by omega⟩) hS (fun q _ h => hFc q h) hFc (fun r23' u t H locs ht hvm hr23 hB hz1 hk1 hS => ?_)
          subst hr23
          rw [ht] at hB
          obtain ⟨hP1, hD1⟩ := hB
          obtain ⟨hP, hD⟩ := jn_A hP hD [4, 3] [0, 1, 2, 5, 6] rfl rfl (by decide) (by decide) hk1 hFc hP1 hD1
          obtain ⟨hP, hD⟩ : PD g A H [(a_older, .inr (1, [.ref a_older_items, .int a_older_size])), (a_older_items, .inl (cs 0, a_older_items_n, .inl a_older_items_f)), (a_newest, .inl (cs 0, a_newest_n, .inl a_newest_f)), (a_ends, .inr (1, [.ref a_ends_items, .int a_ends_size])), (a_ends_items, .inl (cs 0, a_ends_items_n, .inl a_ends_items_f)), (a, .inr (2, [.ref a_texts, .int a_textsSize, .ref a_ends, .ref a_older, .ref a_newest, .int a_sizeBefore])), (a_texts, .inl (cs 1, a_texts_n, .inl a_texts_f))] := ⟨hP, hD⟩
          refine lv_if_eq hx hb d_Names_numberOfText_62 rfl (fun h24 => ?_) (fun h24 => ?_)
          · rw [if_pos h24] at hok
            refine lv_aload_n hx hb d_Names_numberOfText_67 rfl (lv_at hl 4 rfl) ?_
            refine va_get (D := g) (ci := 2) (v := .ref a_older) (C := R_Names) (T := F_Names) (N := 6) hx hb hg ul_Names hown hK hP 5 rfl rfl 3 (by decide) (hg _ wd_302) (fun _ h9 => h9) rfl d_Names_numberOfText_68 ?_
            refine lv_iload_n hx hb d_Names_numberOfText_71 rfl (lv_at hl 1 rfl) ?_
            obtain ⟨r25, hc25, hok⟩ := bd_some hok
            obtain ⟨hPc, hDc, hFc⟩ := cut0 (wc := [(a_older, .inr (1, [.ref a_older_items, .int a_older_size])), (a_older_items, .inl (cs 0, a_older_items_n, .inl a_older_items_f))]) hP hD hS hA [0, 1] (by decide) rfl
            refine va_calli (va_runV (As := [.int x3_6]) (rest := []) ⟨hx, hb, hml, hown, hg⟩ (c_Ints_at l g cs ka a_older a_older_items H.size x3_6 a_older_size a_older_items_n a_older_items_f r25 hc25) (cwV (C := R_Ints) 1 hg (gw_V wd_282 wd_270 wd_271 wd_234 wd_268) rfl rfl rfl (by decide +kernel) ⟨Nat.le_of_ble_eq_true rfl, Nat.le_of_ble_eq_true rfl⟩) ⟨gP_blind, va_recv (q0 := 0) (ci := 1) (q := (R_Ints, F_Ints, 2)) hK hP rfl rfl, gP_pre hPc hDc hK hgl hkn hkr hS hFc⟩ rfl rfl hl.1 rfl (lv_room (Nat.le_of_ble_eq_true rfl)) d_Names_numberOfText_72 ⟨show cells6 + 0 + 0 + 0 + 0 ≤ mc from by omega, show slots6 + 0 + 0 + 0 + 0 ≤ ms from by omega⟩) hS (fun q _ h => hFc q h) hFc (fun r25' u t H locs ht hvm hr25 hB hz1 hk1 hS => ?_)
            subst hr25
            rw [ht] at hB
            obtain ⟨hP1, hD1⟩ := hB
            obtain ⟨hP, hD⟩ := jn_A hP hD [0, 1] [2, 3, 4, 5, 6] rfl rfl (by decide) (by decide) hk1 hFc hP1 hD1
            obtain ⟨hP, hD⟩ : PD g A H [(a_newest, .inl (cs 0, a_newest_n, .inl a_newest_f)), (a_ends, .inr (1, [.ref a_ends_items, .int a_ends_size])), (a_ends_items, .inl (cs 0, a_ends_items_n, .inl a_ends_items_f)), (a, .inr (2, [.ref a_texts, .int a_textsSize, .ref a_ends, .ref a_older, .ref a_newest, .int a_sizeBefore])), (a_texts, .inl (cs 1, a_texts_n, .inl a_texts_f)), (a_older, .inr (1, [.ref a_older_items, .int a_older_size])), (a_older_items, .inl (cs 0, a_older_items_n, .inl a_older_items_f))] := ⟨hP, hD⟩
            refine lv_istore_n hx hb d_Names_numberOfText_75 rfl hl (by decide) rfl (fun ls hl => ?_)
            have hl : lv_has ls 5 [(3, .int r25), (4, .int x4_6), (2, .int r3), (1, .int r2), (0, .ref a)] := hl
            refine lv_iinc (k := 1) (v := x4_6 + (-1)) hx hb d_Names_numberOfText_76 hl rfl rfl (by decide) rfl (fun ls hl => ?_)
            have hl : lv_has ls 5 [(4, .int (x4_6 + (-1))), (3, .int r25), (2, .int r3), (1, .int r2), (0, .ref a)] := hl
            refine lv_goto hx hb d_Names_numberOfText_79 rfl ?_
            exact ih6 _ _ _ _ _ _ _ (x4_6 + (-1)) r25 (lv_sub hl [0, 1, 2, 3, 4] rfl) (sub3 hP hD [5, 6, 0, 2, 3, 4, 1] (by decide)) hS (by omega) (by omega) hok
          · rw [if_neg h24] at hok
            refine lv_iload_n hx hb d_Names_numberOfText_65 rfl (lv_at hl 1 rfl) ?_
            obtain ⟨hq, hw⟩ := Prod.mk.inj (Option.some.inj hok)
            obtain ⟨hmc0, hms0⟩ := Prod.mk.inj hw
            obtain ⟨hq0, hq⟩ := Prod.mk.inj hq
            obtain ⟨hq1, hq⟩ := Prod.mk.inj hq
            obtain ⟨hq2, hq⟩ := Prod.mk.inj hq
            obtain ⟨hq3, hq⟩ := Prod.mk.inj hq
            obtain ⟨hq4, hq⟩ := Prod.mk.inj hq
            obtain ⟨hq5, hq⟩ := Prod.mk.inj hq
            obtain ⟨hq6, hq⟩ := Prod.mk.inj hq
            have hq7 := hq
            subst hq0
            subst hq1
            subst hq2
            subst hq3
            subst hq4
            subst hq5
            subst hq6
            subst hq7
            obtain ⟨hP9, hD9⟩ := sub2 (ws' := [(a, .inr (2, [.ref a_texts, .int a_textsSize, .ref a_ends, .ref a_older, .ref a_newest, .int a_sizeBefore])), (a_texts, .inl (cs 1, a_texts_n, .inl a_texts_f)), (a_ends, .inr (1, [.ref a_ends_items, .int a_ends_size])), (a_ends_items, .inl (cs 0, a_ends_items_n, .inl a_ends_items_f)), (a_older, .inr (1, [.ref a_older_items, .int a_older_size])), (a_older_items, .inl (cs 0, a_older_items_n, .inl a_older_items_f)), (a_newest, .inl (cs 0, a_newest_n, .inl a_newest_f))]) hP hD [5, 6, 3, 4, 0, 1, 2] rfl (by decide) rfl
            refine W.widen (k := mc) (n := ms) (by omega) (by omega) ?_
            rw [hQ]
            exact W.iret (v := x3_6) hx hb hr (fun t ht hW => ⟨⟨_, (), rfl, rfl, a_ends_items, a_older_items, by rw [ht]; exact hP9, hD9⟩, hS.F ht⟩) hS.2.2 d_Names_numberOfText_66
  exact J6 n H locs ls _ _ _ _ r5 (a_newest_f r3.toNatClampNeg) hl ⟨hP, hD⟩ hS (by omega) (by omega) hok

theorem d_Names_isFull_0 : decode b_Names_isFull 0 = .ok (.aload_n 0, 1) := by decide +kernel
theorem d_Names_isFull_1 : decode b_Names_isFull 1 = .ok (.aload_n 0, 1) := by decide +kernel
theorem d_Names_isFull_2 : decode b_Names_isFull 2 = .ok (.getfield 20, 3) := by decide +kernel
theorem d_Names_isFull_5 : decode b_Names_isFull 5 = .ok (.invokevirtual 70, 3) := by decide +kernel
theorem d_Names_isFull_8 : decode b_Names_isFull 8 = .ok (.invokevirtual 73, 3) := by decide +kernel
theorem d_Names_isFull_11 : decode b_Names_isFull 11 = .ok (.ldc 114, 2) := by decide +kernel
theorem d_Names_isFull_13 : decode b_Names_isFull 13 = .ok (.if_icmp .le 7, 3) := by decide +kernel
theorem d_Names_isFull_16 : decode b_Names_isFull 16 = .ok (.iconst 1, 1) := by decide +kernel
theorem d_Names_isFull_17 : decode b_Names_isFull 17 = .ok (.goto 4, 3) := by decide +kernel
theorem d_Names_isFull_20 : decode b_Names_isFull 20 = .ok (.iconst 0, 1) := by decide +kernel
theorem d_Names_isFull_21 : decode b_Names_isFull 21 = .ok (.ireturn, 1) := by decide +kernel
def p_Names_isFull (a_textsSize : Int32) (a_sizeBefore : Int32) (a_ends_size : Int32) (a_ends_items_n : Nat) (a_ends_items_f : Nat → Int32) : Option Int32 := (p_Ints_size a_ends_size).bind (fun r1 => (p_Names_from r1 a_textsSize a_sizeBefore a_ends_size a_ends_items_n a_ends_items_f).bind (fun r2 => if r2 ≤ 1000000 then (some (0 : Int32)) else (some (1 : Int32))))
set_option maxHeartbeats 4000000 in
set_option maxRecDepth 100000 in
theorem c_Names_isFull (l : Launch) (g : va_G) (cs : Nat → ClassId) (ka : Nat → Nat) (a_texts : Nat) (a_older : Nat) (a_newest : Nat) (a a_ends a_ends_items : Nat) (sz : Nat) (a_textsSize : Int32) (a_sizeBefore : Int32) (a_ends_size : Int32) (a_ends_items_n : Nat) (a_ends_items_f : Nat → Int32) (r : Int32) (hok : p_Names_isFull a_textsSize a_sizeBefore a_ends_size a_ends_items_n a_ends_items_f = some r) : Met l y_Names_isFull (.code y_Names_isFull b_Names_isFull 1 (some .boolean) :: GW) { frames := 2, cells := 0, slots := 0, locals := 42 } (va_Pc [.ref a] (gP g cs ka [(a, .inr (2, [.ref a_texts, .int a_textsSize, .ref a_ends, .ref a_older, .ref a_newest, .int a_sizeBefore])), (a_ends, .inr (1, [.ref a_ends_items, .int a_ends_size])), (a_ends_items, .inl (cs 0, a_ends_items_n, .inl a_ends_items_f))] sz)) (va_Qi (fun (r' : Int32) (_ : Unit) => r = r') (fun _ t => va_P g classes [(a, .inr (2, [.ref a_texts, .int a_textsSize, .ref a_ends, .ref a_older, .ref a_newest, .int a_sizeBefore])), (a_ends, .inr (1, [.ref a_ends_items, .int a_ends_size])), (a_ends_items, .inl (cs 0, a_ends_items_n, .inl a_ends_items_f))] t.heap ∧ va_D (va_A [(a, .inr (2, [.ref a_texts, .int a_textsSize, .ref a_ends, .ref a_older, .ref a_newest, .int a_sizeBefore])), (a_ends, .inr (1, [.ref a_ends_items, .int a_ends_size])), (a_ends_items, .inl (cs 0, a_ends_items_n, .inl a_ends_items_f))] sz) [(a, .inr (2, [.ref a_texts, .int a_textsSize, .ref a_ends, .ref a_older, .ref a_newest, .int a_sizeBefore])), (a_ends, .inr (1, [.ref a_ends_items, .int a_ends_size])), (a_ends_items, .inl (cs 0, a_ends_items_n, .inl a_ends_items_f))]) (va_A [(a, .inr (2, [.ref a_texts, .int a_textsSize, .ref a_ends, .ref a_older, .ref a_newest, .int a_sizeBefore])), (a_ends, .inr (1, [.ref a_ends_items, .int a_ends_size])), (a_ends_items, .inl (cs 0, a_ends_items_n, .inl a_ends_items_f))] sz)) 0 0 (va_A [(a, .inr (2, [.ref a_texts, .int a_textsSize, .ref a_ends, .ref a_older, .ref a_newest, .int a_sizeBefore])), (a_ends, .inr (1, [.ref a_ends_items, .int a_ends_size])), (a_ends_items, .inl (cs 0, a_ends_items_n, .inl a_ends_items_f))] sz) := by
  refine Met.ofW (cc := b_Names_isFull) (maxL := 1) (ret := (some .boolean)) (by decide) rfl ?_
  intro p e s m args below meth c s₁ B hml hv
  obtain ⟨rfl, hsz, hP, hK, hD0, hgl, hkn, hkr⟩ := hv
  have hx := B.exec
  have hb := B.bytes
  have hr := B.returns
  have hg : ∀ w ∈ GW, w.before ([.ref a] : List Value).toArray s = true := fun w hw => atoms_spec (ws := .code y_Names_isFull b_Names_isFull 1 (some .boolean) :: GW) B.pre w (List.mem_cons_of_mem _ hw)
  have hown : s.vm.findClass R_Names = some m.cls := findClass_of_methodNamed B.named
  have hlocks := B.notSynchronized
  subst hsz
  have hD := hD0.self (sz := s.heap.size)
  generalize hAe : va_A [(a, .inr (2, [.ref a_texts, .int a_textsSize, .ref a_ends, .ref a_older, .ref a_newest, .int a_sizeBefore])), (a_ends, .inr (1, [.ref a_ends_items, .int a_ends_size])), (a_ends_items, .inl (cs 0, a_ends_items_n, .inl a_ends_items_f))] s.heap.size = A at hD hkn ⊢
  have hA : ∀ q : Nat, s.heap.size ≤ q → A q := fun q h => by rw [← hAe]; exact Or.inr h
  have hS : va_S A s.heap s.heap [] := va_S.rf
  have hP : va_P g classes [(a, .inr (2, [.ref a_texts, .int a_textsSize, .ref a_ends, .ref a_older, .ref a_newest, .int a_sizeBefore])), (a_ends, .inr (1, [.ref a_ends_items, .int a_ends_size])), (a_ends_items, .inl (cs 0, a_ends_items_n, .inl a_ends_items_f))] s.heap := hP
  have hl := lv_entry ([.ref a]) (n := 1) (Nat.le_of_ble_eq_true rfl)
  rw [lg_entry_eq]
  generalize (lg_sl ([.ref a]) ++ List.replicate (1 - (lg_sl ([.ref a])).length) Slot.unset).toArray = ls at hl ⊢
  have hl : lv_has ls 1 [(0, .ref a)] := hl
  refine gq (fun Q hQ => ?_)
  obtain ⟨H, hH⟩ : ∃ H : Heap, H = s.heap := ⟨_, rfl⟩
  rw [← hH] at hP
  have hS : va_S A s.heap H [] := by rw [hH]; exact hS
  refine W.eqH hH ?_
  obtain ⟨locs, hlc⟩ : ∃ L : List Loc, L = [] := ⟨_, rfl⟩
  rw [← hlc] at hS ⊢
  unfold p_Names_isFull at hok
  refine lv_aload_n hx hb d_Names_isFull_0 rfl (lv_at hl 0 rfl) ?_
  refine lv_aload_n hx hb d_Names_isFull_1 rfl (lv_at hl 0 rfl) ?_
  refine va_get (D := g) (ci := 2) (v := .ref a_ends) (C := R_Names) (T := F_Names) (N := 6) hx hb hg ul_Names hown hK hP 0 rfl rfl 2 (by decide) (hg _ wd_281) (fun _ h9 => h9) rfl d_Names_isFull_2 ?_
  obtain ⟨r1, hc1, hok⟩ := bd_some hok
  obtain ⟨hPc, hDc, hFc⟩ := cut0 (wc := [(a_ends, .inr (1, [.ref a_ends_items, .int a_ends_size]))]) hP hD hS hA [1] (by decide) rfl
  refine va_calli (va_runV (As := []) (rest := [.ref a]) ⟨hx, hb, hml, hown, hg⟩ (c_Ints_size l g cs ka a_ends_items a_ends H.size a_ends_size r1 hc1) (cwV (C := R_Ints) 0 hg (gw_V wd_285 wd_249 wd_250 wd_234 wd_247) rfl rfl rfl (by decide +kernel) ⟨Nat.le_of_ble_eq_true rfl, Nat.le_of_ble_eq_true rfl⟩) ⟨gP_blind, va_recv (q0 := 1) (ci := 1) (q := (R_Ints, F_Ints, 2)) hK hP rfl rfl, gP_pre hPc hDc hK hgl hkn hkr hS hFc⟩ rfl rfl hl.1 rfl (lv_room (Nat.le_of_ble_eq_true rfl)) d_Names_isFull_5 ⟨Nat.le_of_ble_eq_true rfl, Nat.le_of_ble_eq_true rfl⟩) hS (fun q _ h => hFc q h) hFc (fun r1' u t H locs ht hvm hr1 hB hz1 hk1 hS => ?_)
  subst hr1
  rw [ht] at hB
  obtain ⟨hP1, hD1⟩ := hB
  obtain ⟨hP, hD⟩ := jn_A hP hD [1] [0, 2] rfl rfl (by decide) (by decide) hk1 hFc hP1 hD1
  obtain ⟨hP, hD⟩ : PD g A H [(a, .inr (2, [.ref a_texts, .int a_textsSize, .ref a_ends, .ref a_older, .ref a_newest, .int a_sizeBefore])), (a_ends_items, .inl (cs 0, a_ends_items_n, .inl a_ends_items_f)), (a_ends, .inr (1, [.ref a_ends_items, .int a_ends_size]))] := ⟨hP, hD⟩
  obtain ⟨r2, hc2, hok⟩ := bd_some hok
  obtain ⟨hPc, hDc, hFc⟩ := cut0 (wc := [(a, .inr (2, [.ref a_texts, .int a_textsSize, .ref a_ends, .ref a_older, .ref a_newest, .int a_sizeBefore])), (a_ends, .inr (1, [.ref a_ends_items, .int a_ends_size])), (a_ends_items, .inl (cs 0, a_ends_items_n, .inl a_ends_items_f))]) hP hD hS hA [0, 2, 1] (by decide) rfl
  refine va_calli (va_runV (As := [.int r1]) (rest := []) ⟨hx, hb, hml, hown, hg⟩ (c_Names_from l g cs ka a_texts a_older a_newest a a_ends a_ends_items H.size r1 a_textsSize a_sizeBefore a_ends_size a_ends_items_n a_ends_items_f r2 hc2) (cwV (C := R_Names) 1 hg (gw_V wd_288 wd_289 wd_290 wd_287 wd_286) rfl rfl rfl (by decide +kernel) ⟨Nat.le_of_ble_eq_true rfl, Nat.le_of_ble_eq_true rfl⟩) ⟨gP_blind, va_recv (q0 := 0) (ci := 2) (q := (R_Names, F_Names, 6)) hK hP rfl rfl, gP_pre hPc hDc hK hgl hkn hkr hS hFc⟩ rfl rfl hl.1 rfl (lv_room (Nat.le_of_ble_eq_true rfl)) d_Names_isFull_8 ⟨Nat.le_of_ble_eq_true rfl, Nat.le_of_ble_eq_true rfl⟩) hS (fun q _ h => hFc q h) hFc (fun r2' u t H locs ht hvm hr2 hB hz1 hk1 hS => ?_)
  subst hr2
  rw [ht] at hB
  obtain ⟨hP1, hD1⟩ := hB
  obtain ⟨hP, hD⟩ := jn_A hP hD [0, 2, 1] [] rfl rfl (by decide) (by decide) hk1 hFc hP1 hD1
  obtain ⟨hP, hD⟩ : PD g A H [(a, .inr (2, [.ref a_texts, .int a_textsSize, .ref a_ends, .ref a_older, .ref a_newest, .int a_sizeBefore])), (a_ends, .inr (1, [.ref a_ends_items, .int a_ends_size])), (a_ends_items, .inl (cs 0, a_ends_items_n, .inl a_ends_items_f))] := ⟨hP, hD⟩
  refine lv_ldc hx hb hown (hg _ wd_311) d_Names_isFull_11 ?_
  refine lv_icmp_le hx hb d_Names_isFull_13 rfl (fun h3 => ?_) (fun h3 => ?_)
  · rw [if_pos h3] at hok
    refine lv_iconst (v := 0) hx hb d_Names_isFull_20 (by decide) ?_
    have hq := Option.some.inj hok
    have hq0 := hq
    subst hq0
    obtain ⟨hP9, hD9⟩ := sub2 (ws' := [(a, .inr (2, [.ref a_texts, .int a_textsSize, .ref a_ends, .ref a_older, .ref a_newest, .int a_sizeBefore])), (a_ends, .inr (1, [.ref a_ends_items, .int a_ends_size])), (a_ends_items, .inl (cs 0, a_ends_items_n, .inl a_ends_items_f))]) hP hD [0, 1, 2] rfl (by decide) rfl
    rw [hQ]
    exact W.zret (v := 0) hx hb hr rfl (fun t ht hW => ⟨⟨_, (), rfl, rfl, by rw [ht]; exact hP9, hD9⟩, hS.F ht⟩) hS.2.2 d_Names_isFull_21
  · rw [if_neg h3] at hok
    refine lv_iconst (v := 1) hx hb d_Names_isFull_16 (by decide) ?_
    refine lv_goto hx hb d_Names_isFull_17 rfl ?_
    have hq := Option.some.inj hok
    have hq0 := hq
    subst hq0
    obtain ⟨hP9, hD9⟩ := sub2 (ws' := [(a, .inr (2, [.ref a_texts, .int a_textsSize, .ref a_ends, .ref a_older, .ref a_newest, .int a_sizeBefore])), (a_ends, .inr (1, [.ref a_ends_items, .int a_ends_size])), (a_ends_items, .inl (cs 0, a_ends_items_n, .inl a_ends_items_f))]) hP hD [0, 1, 2] rfl (by decide) rfl
    rw [hQ]
    exact W.zret (v := 1) hx hb hr rfl (fun t ht hW => ⟨⟨_, (), rfl, rfl, by rw [ht]; exact hP9, hD9⟩, hS.F ht⟩) hS.2.2 d_Names_isFull_21

theorem d_Names_keepSize_0 : decode b_Names_keepSize 0 = .ok (.aload_n 0, 1) := by decide +kernel
theorem d_Names_keepSize_1 : decode b_Names_keepSize 1 = .ok (.aload_n 0, 1) := by decide +kernel
theorem d_Names_keepSize_2 : decode b_Names_keepSize 2 = .ok (.getfield 20, 3) := by decide +kernel
theorem d_Names_keepSize_5 : decode b_Names_keepSize 5 = .ok (.invokevirtual 70, 3) := by decide +kernel
theorem d_Names_keepSize_8 : decode b_Names_keepSize 8 = .ok (.putfield 31, 3) := by decide +kernel
theorem d_Names_keepSize_11 : decode b_Names_keepSize 11 = .ok (.return_, 1) := by decide +kernel
def p_Names_keepSize (a_textsSize : Int32) (a_sizeBefore : Int32) (a_ends_size : Int32) : Option Int32 := (p_Ints_size a_ends_size).bind (fun r1 => some r1)
set_option maxHeartbeats 4000000 in
set_option maxRecDepth 100000 in
theorem c_Names_keepSize (l : Launch) (g : va_G) (cs : Nat → ClassId) (ka : Nat → Nat) (a_texts : Nat) (a_older : Nat) (a_newest : Nat) (a_ends_items : Nat) (a a_ends : Nat) (sz : Nat) (a_textsSize : Int32) (a_sizeBefore : Int32) (a_ends_size : Int32) (o_a_sizeBefore : Int32) (hok : p_Names_keepSize a_textsSize a_sizeBefore a_ends_size = some o_a_sizeBefore) : Met l y_Names_keepSize (.code y_Names_keepSize b_Names_keepSize 1 none :: GW) { frames := 1, cells := 0, slots := 0, locals := 20 } (va_Pc [.ref a] (gP g cs ka [(a, .inr (2, [.ref a_texts, .int a_textsSize, .ref a_ends, .ref a_older, .ref a_newest, .int a_sizeBefore])), (a_ends, .inr (1, [.ref a_ends_items, .int a_ends_size]))] sz)) (va_Qv (fun _ : Unit => True) (fun _ t => va_P g classes [(a, .inr (2, [.ref a_texts, .int a_textsSize, .ref a_ends, .ref a_older, .ref a_newest, .int o_a_sizeBefore])), (a_ends, .inr (1, [.ref a_ends_items, .int a_ends_size]))] t.heap ∧ va_D (va_A [(a, .inr (2, [.ref a_texts, .int a_textsSize, .ref a_ends, .ref a_older, .ref a_newest, .int a_sizeBefore])), (a_ends, .inr (1, [.ref a_ends_items, .int a_ends_size]))] sz) [(a, .inr (2, [.ref a_texts, .int a_textsSize, .ref a_ends, .ref a_older, .ref a_newest, .int o_a_sizeBefore])), (a_ends, .inr (1, [.ref a_ends_items, .int a_ends_size]))]) (va_A [(a, .inr (2, [.ref a_texts, .int a_textsSize, .ref a_ends, .ref a_older, .ref a_newest, .int a_sizeBefore])), (a_ends, .inr (1, [.ref a_ends_items, .int a_ends_size]))] sz)) 0 0 (va_A [(a, .inr (2, [.ref a_texts, .int a_textsSize, .ref a_ends, .ref a_older, .ref a_newest, .int a_sizeBefore])), (a_ends, .inr (1, [.ref a_ends_items, .int a_ends_size]))] sz) := by
  refine Met.ofW (cc := b_Names_keepSize) (maxL := 1) (ret := none) (by decide) rfl ?_
  intro p e s m args below meth c s₁ B hml hv
  obtain ⟨rfl, hsz, hP, hK, hD0, hgl, hkn, hkr⟩ := hv
  have hx := B.exec
  have hb := B.bytes
  have hr := B.returns
  have hg : ∀ w ∈ GW, w.before ([.ref a] : List Value).toArray s = true := fun w hw => atoms_spec (ws := .code y_Names_keepSize b_Names_keepSize 1 none :: GW) B.pre w (List.mem_cons_of_mem _ hw)
  have hown : s.vm.findClass R_Names = some m.cls := findClass_of_methodNamed B.named
  have hlocks := B.notSynchronized
  subst hsz
  have hD := hD0.self (sz := s.heap.size)
  generalize hAe : va_A [(a, .inr (2, [.ref a_texts, .int a_textsSize, .ref a_ends, .ref a_older, .ref a_newest, .int a_sizeBefore])), (a_ends, .inr (1, [.ref a_ends_items, .int a_ends_size]))] s.heap.size = A at hD hkn ⊢
  have hA : ∀ q : Nat, s.heap.size ≤ q → A q := fun q h => by rw [← hAe]; exact Or.inr h
  have hS : va_S A s.heap s.heap [] := va_S.rf
  have hP : va_P g classes [(a, .inr (2, [.ref a_texts, .int a_textsSize, .ref a_ends, .ref a_older, .ref a_newest, .int a_sizeBefore])), (a_ends, .inr (1, [.ref a_ends_items, .int a_ends_size]))] s.heap := hP
  have hl := lv_entry ([.ref a]) (n := 1) (Nat.le_of_ble_eq_true rfl)
  rw [lg_entry_eq]
  generalize (lg_sl ([.ref a]) ++ List.replicate (1 - (lg_sl ([.ref a])).length) Slot.unset).toArray = ls at hl ⊢
  have hl : lv_has ls 1 [(0, .ref a)] := hl
  refine gq (fun Q hQ => ?_)
  obtain ⟨H, hH⟩ : ∃ H : Heap, H = s.heap := ⟨_, rfl⟩
  rw [← hH] at hP
  have hS : va_S A s.heap H [] := by rw [hH]; exact hS
  refine W.eqH hH ?_
  obtain ⟨locs, hlc⟩ : ∃ L : List Loc, L = [] := ⟨_, rfl⟩
  rw [← hlc] at hS ⊢
  unfold p_Names_keepSize at hok
  refine lv_aload_n hx hb d_Names_keepSize_0 rfl (lv_at hl 0 rfl) ?_
  refine lv_aload_n hx hb d_Names_keepSize_1 rfl (lv_at hl 0 rfl) ?_
  refine va_get (D := g) (ci := 2) (v := .ref a_ends) (C := R_Names) (T := F_Names) (N := 6) hx hb hg ul_Names hown hK hP 0 rfl rfl 2 (by decide) (hg _ wd_281) (fun _ h9 => h9) rfl d_Names_keepSize_2 ?_
  obtain ⟨r1, hc1, hok⟩ := bd_some hok
  obtain ⟨hPc, hDc, hFc⟩ := cut0 (wc := [(a_ends, .inr (1, [.ref a_ends_items, .int a_ends_size]))]) hP hD hS hA [1] (by decide) rfl
  refine va_calli (va_runV (As := []) (rest := [.ref a]) ⟨hx, hb, hml, hown, hg⟩ (c_Ints_size l g cs ka a_ends_items a_ends H.size a_ends_size r1 hc1) (cwV (C := R_Ints) 0 hg (gw_V wd_285 wd_249 wd_250 wd_234 wd_247) rfl rfl rfl (by decide +kernel) ⟨Nat.le_of_ble_eq_true rfl, Nat.le_of_ble_eq_true rfl⟩) ⟨gP_blind, va_recv (q0 := 1) (ci := 1) (q := (R_Ints, F_Ints, 2)) hK hP rfl rfl, gP_pre hPc hDc hK hgl hkn hkr hS hFc⟩ rfl rfl hl.1 rfl (lv_room (Nat.le_of_ble_eq_true rfl)) d_Names_keepSize_5 ⟨Nat.le_of_ble_eq_true rfl, Nat.le_of_ble_eq_true rfl⟩) hS (fun q _ h => hFc q h) hFc (fun r1' u t H locs ht hvm hr1 hB hz1 hk1 hS => ?_)
  subst hr1
  rw [ht] at hB
  obtain ⟨hP1, hD1⟩ := hB
  obtain ⟨hP, hD⟩ := jn_A hP hD [1] [0] rfl rfl (by decide) (by decide) hk1 hFc hP1 hD1
  obtain ⟨hP, hD⟩ : PD g A H [(a, .inr (2, [.ref a_texts, .int a_textsSize, .ref a_ends, .ref a_older, .ref a_newest, .int a_sizeBefore])), (a_ends, .inr (1, [.ref a_ends_items, .int a_ends_size]))] := ⟨hP, hD⟩
  refine va_put (D := g) (ci := 2) (v := .int r1) (ty := .int) (C := R_Names) (T := F_Names) (N := 6) hx hb hg ul_Names t_Names tk_Names n_Names hown hK hP hD hS 0 rfl rfl 5 (by decide) (hg _ wd_312) (fun _ h9 => h9) rfl (by decide +kernel) rfl rfl (Nat.le_of_ble_eq_true rfl) d_Names_keepSize_8 (fun H locs hP hD hS => ?_)
  obtain ⟨hP, hD⟩ : PD g A H [(a, .inr (2, [.ref a_texts, .int a_textsSize, .ref a_ends, .ref a_older, .ref a_newest, .int r1])), (a_ends, .inr (1, [.ref a_ends_items, .int a_ends_size]))] := ⟨hP, hD⟩
  have hq := Option.some.inj hok
  have hq0 := hq
  subst hq0
  obtain ⟨hP9, hD9⟩ := sub2 (ws' := [(a, .inr (2, [.ref a_texts, .int a_textsSize, .ref a_ends, .ref a_older, .ref a_newest, .int r1])), (a_ends, .inr (1, [.ref a_ends_items, .int a_ends_size]))]) hP hD [0, 1] rfl (by decide) rfl
  rw [hQ]
  exact W.vret hx hb hr (fun t ht hW => ⟨⟨(), rfl, trivial, by rw [ht]; exact hP9, hD9⟩, hS.F ht⟩) hS.2.2 d_Names_keepSize_11

theorem d_Names_forgetFrom_0 : decode b_Names_forgetFrom 0 = .ok (.aload_n 0, 1) := by decide +kernel
theorem d_Names_forgetFrom_1 : decode b_Names_forgetFrom 1 = .ok (.getfield 20, 3) := by decide +kernel
theorem d_Names_forgetFrom_4 : decode b_Names_forgetFrom 4 = .ok (.invokevirtual 70, 3) := by decide +kernel
theorem d_Names_forgetFrom_7 : decode b_Names_forgetFrom 7 = .ok (.iconst 1, 1) := by decide +kernel
theorem d_Names_forgetFrom_8 : decode b_Names_forgetFrom 8 = .ok (.isub, 1) := by decide +kernel
theorem d_Names_forgetFrom_9 : decode b_Names_forgetFrom 9 = .ok (.istore_n 2, 1) := by decide +kernel
theorem d_Names_forgetFrom_10 : decode b_Names_forgetFrom 10 = .ok (.iload_n 2, 1) := by decide +kernel
theorem d_Names_forgetFrom_11 : decode b_Names_forgetFrom 11 = .ok (.iload_n 1, 1) := by decide +kernel
theorem d_Names_forgetFrom_12 : decode b_Names_forgetFrom 12 = .ok (.if_icmp .lt 43, 3) := by decide +kernel
theorem d_Names_forgetFrom_15 : decode b_Names_forgetFrom 15 = .ok (.aload_n 0, 1) := by decide +kernel
theorem d_Names_forgetFrom_16 : decode b_Names_forgetFrom 16 = .ok (.getfield 27, 3) := by decide +kernel
theorem d_Names_forgetFrom_19 : decode b_Names_forgetFrom 19 = .ok (.aload_n 0, 1) := by decide +kernel
theorem d_Names_forgetFrom_20 : decode b_Names_forgetFrom 20 = .ok (.aload_n 0, 1) := by decide +kernel
theorem d_Names_forgetFrom_21 : decode b_Names_forgetFrom 21 = .ok (.iload_n 2, 1) := by decide +kernel
theorem d_Names_forgetFrom_22 : decode b_Names_forgetFrom 22 = .ok (.invokevirtual 73, 3) := by decide +kernel
theorem d_Names_forgetFrom_25 : decode b_Names_forgetFrom 25 = .ok (.aload_n 0, 1) := by decide +kernel
theorem d_Names_forgetFrom_26 : decode b_Names_forgetFrom 26 = .ok (.iload_n 2, 1) := by decide +kernel
theorem d_Names_forgetFrom_27 : decode b_Names_forgetFrom 27 = .ok (.invokevirtual 85, 3) := by decide +kernel
theorem d_Names_forgetFrom_30 : decode b_Names_forgetFrom 30 = .ok (.invokevirtual 81, 3) := by decide +kernel
theorem d_Names_forgetFrom_33 : decode b_Names_forgetFrom 33 = .ok (.aload_n 0, 1) := by decide +kernel
theorem d_Names_forgetFrom_34 : decode b_Names_forgetFrom 34 = .ok (.getfield 24, 3) := by decide +kernel
theorem d_Names_forgetFrom_37 : decode b_Names_forgetFrom 37 = .ok (.invokevirtual 118, 3) := by decide +kernel
theorem d_Names_forgetFrom_40 : decode b_Names_forgetFrom 40 = .ok (.iastore, 1) := by decide +kernel
theorem d_Names_forgetFrom_41 : decode b_Names_forgetFrom 41 = .ok (.aload_n 0, 1) := by decide +kernel
theorem d_Names_forgetFrom_42 : decode b_Names_forgetFrom 42 = .ok (.getfield 20, 3) := by decide +kernel
theorem d_Names_forgetFrom_45 : decode b_Names_forgetFrom 45 = .ok (.invokevirtual 118, 3) := by decide +kernel
theorem d_Names_forgetFrom_48 : decode b_Names_forgetFrom 48 = .ok (.pop, 1) := by decide +kernel
theorem d_Names_forgetFrom_49 : decode b_Names_forgetFrom 49 = .ok (.iinc 2 (-1), 3) := by decide +kernel
theorem d_Names_forgetFrom_52 : decode b_Names_forgetFrom 52 = .ok (.goto (-42), 3) := by decide +kernel
theorem d_Names_forgetFrom_55 : decode b_Names_forgetFrom 55 = .ok (.return_, 1) := by decide +kernel
def p_Names_forgetFrom_10 (n : Nat) (first : Int32) (a_textsSize : Int32) (a_sizeBefore : Int32) (a_texts_n : Nat) (a_texts_f : Nat → Int32) (a_ends_items_n : Nat) (a_ends_items_f : Nat → Int32) (a_older_items_n : Nat) (a_older_items_f : Nat → Int32) (a_newest_n : Nat) (kf2 : Nat) (x2_2 : Int32) (a_older_size_2 : Int32) (a_ends_size_2 : Int32) (a_newest_2f : Nat → Int32) : Option (Int32 × Int32 × (Nat → Int32)) := match kf2 with
  | 0 => none
  | kf2 + 1 => if x2_2 < first then (some (a_ends_size_2, a_older_size_2, a_newest_2f)) else ((p_Names_from x2_2 a_textsSize a_sizeBefore a_ends_size_2 a_ends_items_n a_ends_items_f).bind (fun r4 => (p_Names_to x2_2 a_textsSize a_sizeBefore a_ends_size_2 a_ends_items_n a_ends_items_f).bind (fun r5 => (p_Names_rowOf n r4 r5 a_textsSize a_sizeBefore a_texts_n a_texts_f).bind (fun r6 => (p_Ints_pop a_older_size_2 a_older_items_n a_older_items_f).bind (fun (r7, a_size_7) => ck (ixb r6 a_newest_n) ((p_Ints_pop a_ends_size_2 a_ends_items_n a_ends_items_f).bind (fun (r9, a_size_9) => p_Names_forgetFrom_10 n first a_textsSize a_sizeBefore a_texts_n a_texts_f a_ends_items_n a_ends_items_f a_older_items_n a_older_items_f a_newest_n kf2 (x2_2 + (-1)) a_size_7 a_size_9 (upd a_newest_2f r6.toNatClampNeg r7))))))))
def p_Names_forgetFrom (n : Nat) (first : Int32) (a_textsSize : Int32) (a_sizeBefore : Int32) (a_texts_n : Nat) (a_texts_f : Nat → Int32) (a_ends_size : Int32) (a_ends_items_n : Nat) (a_ends_items_f : Nat → Int32) (a_older_size : Int32) (a_older_items_n : Nat) (a_older_items_f : Nat → Int32) (a_newest_n : Nat) (a_newest_f : Nat → Int32) : Option (Int32 × Int32 × (Nat → Int32)) := (p_Ints_size a_ends_size).bind (fun r1 => p_Names_forgetFrom_10 n first a_textsSize a_sizeBefore a_texts_n a_texts_f a_ends_items_n a_ends_items_f a_older_items_n a_older_items_f a_newest_n n (r1 - 1) a_older_size a_ends_size a_newest_f)
set_option maxHeartbeats 4000000 in
set_option maxRecDepth 100000 in
theorem c_Names_forgetFrom (l : Launch) (g : va_G) (cs : Nat → ClassId) (ka : Nat → Nat) (a a_texts a_ends a_ends_items a_older a_older_items a_newest : Nat) (sz : Nat) (n : Nat) (first : Int32) (a_textsSize : Int32) (a_sizeBefore : Int32) (a_texts_n : Nat) (a_texts_f : Nat → Int32) (a_ends_size : Int32) (a_ends_items_n : Nat) (a_ends_items_f : Nat → Int32) (a_older_size : Int32) (a_older_items_n : Nat) (a_older_items_f : Nat → Int32) (a_newest_n : Nat) (a_newest_f : Nat → Int32) (o_a_ends_size : Int32) (o_a_older_size : Int32) (o_a_newest_f : Nat → Int32) (hok : p_Names_forgetFrom n first a_textsSize a_sizeBefore a_texts_n a_texts_f a_ends_size a_ends_items_n a_ends_items_f a_older_size a_older_items_n a_older_items_f a_newest_n a_newest_f = some (o_a_ends_size, o_a_older_size, o_a_newest_f)) : Met l y_Names_forgetFrom (.code y_Names_forgetFrom b_Names_forgetFrom 3 none :: GW) { frames := 2, cells := 0, slots := 0, locals := 45 } (va_Pc [.ref a, .int first] (gP g cs ka [(a, .inr (2, [.ref a_texts, .int a_textsSize, .ref a_ends, .ref a_older, .ref a_newest, .int a_sizeBefore])), (a_texts, .inl (cs 1, a_texts_n, .inl a_texts_f)), (a_ends, .inr (1, [.ref a_ends_items, .int a_ends_size])), (a_ends_items, .inl (cs 0, a_ends_items_n, .inl a_ends_items_f)), (a_older, .inr (1, [.ref a_older_items, .int a_older_size])), (a_older_items, .inl (cs 0, a_older_items_n, .inl a_older_items_f)), (a_newest, .inl (cs 0, a_newest_n, .inl a_newest_f))] sz)) (va_Qv (fun _ : Unit => True) (fun _ t => va_P g classes [(a, .inr (2, [.ref a_texts, .int a_textsSize, .ref a_ends, .ref a_older, .ref a_newest, .int a_sizeBefore])), (a_texts, .inl (cs 1, a_texts_n, .inl a_texts_f)), (a_ends, .inr (1, [.ref a_ends_items, .int o_a_ends_size])), (a_ends_items, .inl (cs 0, a_ends_items_n, .inl a_ends_items_f)), (a_older, .inr (1, [.ref a_older_items, .int o_a_older_size])), (a_older_items, .inl (cs 0, a_older_items_n, .inl a_older_items_f)), (a_newest, .inl (cs 0, a_newest_n, .inl o_a_newest_f))] t.heap ∧ va_D (va_A [(a, .inr (2, [.ref a_texts, .int a_textsSize, .ref a_ends, .ref a_older, .ref a_newest, .int a_sizeBefore])), (a_texts, .inl (cs 1, a_texts_n, .inl a_texts_f)), (a_ends, .inr (1, [.ref a_ends_items, .int a_ends_size])), (a_ends_items, .inl (cs 0, a_ends_items_n, .inl a_ends_items_f)), (a_older, .inr (1, [.ref a_older_items, .int a_older_size])), (a_older_items, .inl (cs 0, a_older_items_n, .inl a_older_items_f)), (a_newest, .inl (cs 0, a_newest_n, .inl a_newest_f))] sz) [(a, .inr (2, [.ref a_texts, .int a_textsSize, .ref a_ends, .ref a_older, .ref a_newest, .int a_sizeBefore])), (a_texts, .inl (cs 1, a_texts_n, .inl a_texts_f)), (a_ends, .inr (1, [.ref a_ends_items, .int o_a_ends_size])), (a_ends_items, .inl (cs 0, a_ends_items_n, .inl a_ends_items_f)), (a_older, .inr (1, [.ref a_older_items, .int o_a_older_size])), (a_older_items, .inl (cs 0, a_older_items_n, .inl a_older_items_f)), (a_newest, .inl (cs 0, a_newest_n, .inl o_a_newest_f))]) (va_A [(a, .inr (2, [.ref a_texts, .int a_textsSize, .ref a_ends, .ref a_older, .ref a_newest, .int a_sizeBefore])), (a_texts, .inl (cs 1, a_texts_n, .inl a_texts_f)), (a_ends, .inr (1, [.ref a_ends_items, .int a_ends_size])), (a_ends_items, .inl (cs 0, a_ends_items_n, .inl a_ends_items_f)), (a_older, .inr (1, [.ref a_older_items, .int a_older_size])), (a_older_items, .inl (cs 0, a_older_items_n, .inl a_older_items_f)), (a_newest, .inl (cs 0, a_newest_n, .inl a_newest_f))] sz)) 0 0 (va_A [(a, .inr (2, [.ref a_texts, .int a_textsSize, .ref a_ends, .ref a_older, .ref a_newest, .int a_sizeBefore])), (a_texts, .inl (cs 1, a_texts_n, .inl a_texts_f)), (a_ends, .inr (1, [.ref a_ends_items, .int a_ends_size])), (a_ends_items, .inl (cs 0, a_ends_items_n, .inl a_ends_items_f)), (a_older, .inr (1, [.ref a_older_items, .int a_older_size])), (a_older_items, .inl (cs 0, a_older_items_n, .inl a_older_items_f)), (a_newest, .inl (cs 0, a_newest_n, .inl a_newest_f))] sz) := by
  refine Met.ofW (cc := b_Names_forgetFrom) (maxL := 3) (ret := none) (by decide) rfl ?_
  intro p e s m args below meth c s₁ B hml hv
  obtain ⟨rfl, hsz, hP, hK, hD0, hgl, hkn, hkr⟩ := hv
  have hx := B.exec
  have hb := B.bytes
  have hr := B.returns
  have hg : ∀ w ∈ GW, w.before ([.ref a, .int first] : List Value).toArray s = true := fun w hw => atoms_spec (ws := .code y_Names_forgetFrom b_Names_forgetFrom 3 none :: GW) B.pre w (List.mem_cons_of_mem _ hw)
  have hown : s.vm.findClass R_Names = some m.cls := findClass_of_methodNamed B.named
  have hlocks := B.notSynchronized
  subst hsz
  have hD := hD0.self (sz := s.heap.size)
  generalize hAe : va_A [(a, .inr (2, [.ref a_texts, .int a_textsSize, .ref a_ends, .ref a_older, .ref a_newest, .int a_sizeBefore])), (a_texts, .inl (cs 1, a_texts_n, .inl a_texts_f)), (a_ends, .inr (1, [.ref a_ends_items, .int a_ends_size])), (a_ends_items, .inl (cs 0, a_ends_items_n, .inl a_ends_items_f)), (a_older, .inr (1, [.ref a_older_items, .int a_older_size])), (a_older_items, .inl (cs 0, a_older_items_n, .inl a_older_items_f)), (a_newest, .inl (cs 0, a_newest_n, .inl a_newest_f))] s.heap.size = A at hD hkn ⊢
  have hA : ∀ q : Nat, s.heap.size ≤ q → A q := fun q h => by rw [← hAe]; exact Or.inr h
  have hS : va_S A s.heap s.heap [] := va_S.rf
  have hP : va_P g classes [(a, .inr (2, [.ref a_texts, .int a_textsSize, .ref a_ends, .ref a_older, .ref a_newest, .int a_sizeBefore])), (a_texts, .inl (cs 1, a_texts_n, .inl a_texts_f)), (a_ends, .inr (1, [.ref a_ends_items, .int a_ends_size])), (a_ends_items, .inl (cs 0, a_ends_items_n, .inl a_ends_items_f)), (a_older, .inr (1, [.ref a_older_items, .int a_older_size])), (a_older_items, .inl (cs 0, a_older_items_n, .inl a_older_items_f)), (a_newest, .inl (cs 0, a_newest_n, .inl a_newest_f))] s.heap := hP
  have hl := lv_entry ([.ref a, .int first]) (n := 3) (Nat.le_of_ble_eq_true rfl)
  rw [lg_entry_eq]
  generalize (lg_sl ([.ref a, .int first]) ++ List.replicate (3 - (lg_sl ([.ref a, .int first])).length) Slot.unset).toArray = ls at hl ⊢
  have hl : lv_has ls 3 [(0, .ref a), (1, .int first)] := hl
  refine gq (fun Q hQ => ?_)
  obtain ⟨H, hH⟩ : ∃ H : Heap, H = s.heap := ⟨_, rfl⟩
  rw [← hH] at hP
  have hS : va_S A s.heap H [] := by rw [hH]; exact hS
  refine W.eqH hH ?_
  obtain ⟨locs, hlc⟩ : ∃ L : List Loc, L = [] := ⟨_, rfl⟩
  rw [← hlc] at hS ⊢
  unfold p_Names_forgetFrom at hok
  refine lv_aload_n hx hb d_Names_forgetFrom_0 rfl (lv_at hl 0 rfl) ?_
  refine va_get (D := g) (ci := 2) (v := .ref a_ends) (C := R_Names) (T := F_Names) (N := 6) hx hb hg ul_Names hown hK hP 0 rfl rfl 2 (by decide) (hg _ wd_281) (fun _ h9 => h9) rfl d_Names_forgetFrom_1 ?_
  obtain ⟨r1, hc1, hok⟩ := bd_some hok
  obtain ⟨hPc, hDc, hFc⟩ := cut0 (wc := [(a_ends, .inr (1, [.ref a_ends_items, .int a_ends_size]))]) hP hD hS hA [2] (by decide) rfl
  refine va_calli (va_runV (As := []) (rest := []) ⟨hx, hb, hml, hown, hg⟩ (c_Ints_size l g cs ka a_ends_items a_ends H.size a_ends_size r1 hc1) (cwV (C := R_Ints) 0 hg (gw_V wd_285 wd_249 wd_250 wd_234 wd_247) rfl rfl rfl (by decide +kernel) ⟨Nat.le_of_ble_eq_true rfl, Nat.le_of_ble_eq_true rfl⟩) ⟨gP_blind, va_recv (q0 := 2) (ci := 1) (q := (R_Ints, F_Ints, 2)) hK hP rfl rfl, gP_pre hPc hDc hK hgl hkn hkr hS hFc⟩ rfl rfl hl.1 rfl (lv_room (Nat.le_of_ble_eq_true rfl)) d_Names_forgetFrom_4 ⟨Nat.le_of_ble_eq_true rfl, Nat.le_of_ble_eq_true rfl⟩) hS (fun q _ h => hFc q h) hFc (fun r1' u t H locs ht hvm hr1 hB hz1 hk1 hS => ?_)
  subst hr1
  rw [ht] at hB
  obtain ⟨hP1, hD1⟩ := hB
  obtain ⟨hP, hD⟩ := jn_A hP hD [2] [0, 1, 3, 4, 5, 6] rfl rfl (by decide) (by decide) hk1 hFc hP1 hD1
  obtain ⟨hP, hD⟩ : PD g A H [(a, .inr (2, [.ref a_texts, .int a_textsSize, .ref a_ends, .ref a_older, .ref a_newest, .int a_sizeBefore])), (a_texts, .inl (cs 1, a_texts_n, .inl a_texts_f)), (a_ends_items, .inl (cs 0, a_ends_items_n, .inl a_ends_items_f)), (a_older, .inr (1, [.ref a_older_items, .int a_older_size])), (a_older_items, .inl (cs 0, a_older_items_n, .inl a_older_items_f)), (a_newest, .inl (cs 0, a_newest_n, .inl a_newest_f)), (a_ends, .inr (1, [.ref a_ends_items, .int a_ends_size]))] := ⟨hP, hD⟩
  refine lv_iconst (v := 1) hx hb d_Names_forgetFrom_7 (by decide) ?_
  refine lv_isub hx hb d_Names_forgetFrom_8 ?_
  refine lv_istore_n hx hb d_Names_forgetFrom_9 rfl hl (by decide) rfl (fun ls hl => ?_)
  have hl : lv_has ls 3 [(2, .int (r1 - 1)), (0, .ref a), (1, .int first)] := hl
  have J2 : ∀ (kf2 : Nat) (H : Heap) (locs : List Loc) (ls : Array Slot) (x2_2 : Int32) (a_older_size_2 : Int32) (a_ends_size_2 : Int32) (a_newest_2f : Nat → Int32), lv_has ls 3 [(2, .int x2_2), (0, .ref a), (1, .int first)] → PD g A H [(a, .inr (2, [.ref a_texts, .int a_textsSize, .ref a_ends, .ref a_older, .ref a_newest, .int a_sizeBefore])), (a_texts, .inl (cs 1, a_texts_n, .inl a_texts_f)), (a_ends_items, .inl (cs 0, a_ends_items_n, .inl a_ends_items_f)), (a_older, .inr (1, [.ref a_older_items, .int a_older_size_2])), (a_older_items, .inl (cs 0, a_older_items_n, .inl a_older_items_f)), (a_newest, .inl (cs 0, a_newest_n, .inl a_newest_2f)), (a_ends, .inr (1, [.ref a_ends_items, .int a_ends_size_2]))] → va_S A s.heap H locs → p_Names_forgetFrom_10 n first a_textsSize a_sizeBefore a_texts_n a_texts_f a_ends_items_n a_ends_items_f a_older_items_n a_older_items_f a_newest_n kf2 x2_2 a_older_size_2 a_ends_size_2 a_newest_2f = some (o_a_ends_size, o_a_older_size, o_a_newest_f) → W p l e (headSpec (.code y_Names_forgetFrom b_Names_forgetFrom 3 none :: GW) { frames := 2, cells := 0, slots := 0, locals := 45 }).room s m ([.ref a, .int first] : List Value).toArray below meth c H locs 0 0 Q (F0 m 10 ls []) := by
    intro kf2
    induction kf2 with
    | zero => intro H locs ls x2_2 a_older_size_2 a_ends_size_2 a_newest_2f hl ⟨hP, hD⟩ hS hok; rw [p_Names_forgetFrom_10] at hok; cases hok
    | succ kf2 ih2 =>
      intro H locs ls x2_2 a_older_size_2 a_ends_size_2 a_newest_2f hl ⟨hP, hD⟩ hS hok
      rw [p_Names_forgetFrom_10] at hok
      refine lv_iload_n hx hb d_Names_forgetFrom_10 rfl (lv_at hl 0 rfl) ?_
      refine lv_iload_n hx hb d_Names_forgetFrom_11 rfl (lv_at hl 2 rfl) ?_
      refine lv_icmp_lt hx hb d_Names_forgetFrom_12 rfl (fun h3 => ?_) (fun h3 => ?_)
      · rw [if_pos h3] at hok
        have hq := Option.some.inj hok
        obtain ⟨hq0, hq⟩ := Prod.mk.inj hq
        obtain ⟨hq1, hq⟩ := Prod.mk.inj hq
        have hq2 := hq
        subst hq0
        subst hq1
        subst hq2
        obtain ⟨hP9, hD9⟩ := sub2 (ws' := [(a, .inr (2, [.ref a_texts, .int a_textsSize, .ref a_ends, .ref a_older, .ref a_newest, .int a_sizeBefore])), (a_texts, .inl (cs 1, a_texts_n, .inl a_texts_f)), (a_ends, .inr (1, [.ref a_ends_items, .int a_ends_size_2])), (a_ends_items, .inl (cs 0, a_ends_items_n, .inl a_ends_items_f)), (a_older, .inr (1, [.ref a_older_items, .int a_older_size_2])), (a_older_items, .inl (cs 0, a_older_items_n, .inl a_older_items_f)), (a_newest, .inl (cs 0, a_newest_n, .inl a_newest_2f))]) hP hD [0, 1, 6, 2, 3, 4, 5] rfl (by decide) rfl
        rw [hQ]
        exact W.vret hx hb hr (fun t ht hW => ⟨⟨(), rfl, trivial, by rw [ht]; exact hP9, hD9⟩, hS.F ht⟩) hS.2.2 d_Names_forgetFrom_55
      · rw [if_neg h3] at hok
        refine lv_aload_n hx hb d_Names_forgetFrom_15 rfl (lv_at hl 1 rfl) ?_
        refine va_get (D := g) (ci := 2) (v := .ref a_newest) (C := R_Names) (T := F_Names) (N := 6) hx hb hg ul_Names hown hK hP 0 rfl rfl 4 (by decide) (hg _ wd_300) (fun _ h9 => h9) rfl d_Names_forgetFrom_16 ?_
        refine lv_aload_n hx hb d_Names_forgetFrom_19 rfl (lv_at hl 1 rfl) ?_
        refine lv_aload_n hx hb d_Names_forgetFrom_20 rfl (lv_at hl 1 rfl) ?_
        refine lv_iload_n hx hb d_Names_forgetFrom_21 rfl (lv_at hl 0 rfl) ?_
        obtain ⟨r4, hc4, hok⟩ := bd_some hok
        obtain ⟨hPc, hDc, hFc⟩ := cut0 (wc := [(a, .inr (2, [.ref a_texts, .int a_textsSize, .ref a_ends, .ref a_older, .ref a_newest, .int a_sizeBefore])), (a_ends, .inr (1, [.ref a_ends_items, .int a_ends_size_2])), (a_ends_items, .inl (cs 0, a_ends_items_n, .inl a_ends_items_f))]) hP hD hS hA [0, 6, 2] (by decide) rfl
        refine va_calli (va_runV (As := [.int x2_2]) (rest := [.ref a, .ref a_newest]) ⟨hx, hb, hml, hown, hg⟩ (c_Names_from l g cs ka a_texts a_older a_newest a a_ends a_ends_items H.size x2_2 a_textsSize a_sizeBefore a_ends_size_2 a_ends_items_n a_ends_items_f r4 hc4) (cwV (C := R_Names) 1 hg (gw_V wd_288 wd_289 wd_290 wd_287 wd_286) rfl rfl rfl (by decide +kernel) ⟨Nat.le_of_ble_eq_true rfl, Nat.le_of_ble_eq_true rfl⟩) ⟨gP_blind, va_recv (q0 := 0) (ci := 2) (q := (R_Names, F_Names, 6)) hK hP rfl rfl, gP_pre hPc hDc hK hgl hkn hkr hS hFc⟩ rfl rfl hl.1 rfl (lv_room (Nat.le_of_ble_eq_true rfl)) d_Names_forgetFrom_22 ⟨Nat.le_of_ble_eq_true rfl, Nat.le_of_ble_eq_true rfl⟩) hS (fun q _ h => hFc q h) hFc (fun r4' u t H locs ht hvm hr4 hB hz1 hk1 hS => ?_)
        subst hr4
        rw [ht] at hB
        obtain ⟨hP1, hD1⟩ := hB
        obtain ⟨hP, hD⟩ := jn_A hP hD [0, 6, 2] [1, 3, 4, 5] rfl rfl (by decide) (by decide) hk1 hFc hP1 hD1
        obtain ⟨hP, hD⟩ : PD g A H [(a_texts, .inl (cs 1, a_texts_n, .inl a_texts_f)), (a_older, .inr (1, [.ref a_older_items, .int a_older_size_2])), (a_older_items, .inl (cs 0, a_older_items_n, .inl a_older_items_f)), (a_newest, .inl (cs 0, a_newest_n, .inl a_newest_2f)), (a, .inr (2, [.ref a_texts, .int a_textsSize, .ref a_ends, .ref a_older, .ref a_newest, .int a_sizeBefore])), (a_ends, .inr (1, [.ref a_ends_items, .int a_ends_size_2])), (a_ends_items, .inl (cs 0, a_ends_items_n, .inl a_ends_items_f))] := ⟨hP, hD⟩
        refine lv_aload_n hx hb d_Names_forgetFrom_25 rfl (lv_at hl 1 rfl) ?_
        refine lv_iload_n hx hb d_Names_forgetFrom_26 rfl (lv_at hl 0 rfl) ?_
        obtain ⟨r5, hc5, hok⟩ := bd_some hok
        obtain ⟨hPc, hDc, hFc⟩ := cut0 (wc := [(a, .inr (2, [.ref a_texts, .int a_textsSize, .ref a_ends, .ref a_older, .ref a_newest, .int a_sizeBefore])), (a_ends, .inr (1, [.ref a_ends_items, .int a_ends_size_2])), (a_ends_items, .inl (cs 0, a_ends_items_n, .inl a_ends_items_f))]) hP hD hS hA [4, 5, 6] (by decide) rfl
        refine va_calli (va_runV (As := [.int x2_2]) (rest := [.int r4, .ref a, .ref a_newest]) ⟨hx, hb, hml, hown, hg⟩ (c_Names_to l g cs ka a_texts a_older a_newest a a_ends a_ends_items H.size x2_2 a_textsSize a_sizeBefore a_ends_size_2 a_ends_items_n a_ends_items_f r5 hc5) (cwV (C := R_Names) 1 hg (gw_V wd_304 wd_305 wd_306 wd_287 wd_303) rfl rfl rfl (by decide +kernel) ⟨Nat.le_of_ble_eq_true rfl, Nat.le_of_ble_eq_true rfl⟩) ⟨gP_blind, va_recv (q0 := 4) (ci := 2) (q := (R_Names, F_Names, 6)) hK hP rfl rfl, gP_pre hPc hDc hK hgl hkn hkr hS hFc⟩ rfl rfl hl.1 rfl (lv_room (Nat.le_of_ble_eq_true rfl)) d_Names_forgetFrom_27 ⟨Nat.le_of_ble_eq_true rfl, Nat.le_of_ble_eq_true rfl⟩) hS (fun q _ h => hFc q h) hFc (fun r5' u t H locs ht hvm hr5 hB hz1 hk1 hS => ?_)
        subst hr5
        rw [ht] at hB
        obtain ⟨hP1, hD1⟩ := hB
        obtain ⟨hP, hD⟩ := jn_A hP hD [4, 5, 6] [0, 1, 2, 3] rfl rfl (by decide) (by decide) hk1 hFc hP1 hD1
        obtain ⟨hP, hD⟩ : PD g A H [(a_texts, .inl (cs 1, a_texts_n, .inl a_texts_f)), (a_older, .inr (1, [.ref a_older_items, .int a_older_size_2])), (a_older_items, .inl (cs 0, a_older_items_n, .inl a_older_items_f)), (a_newest, .inl (cs 0, a_newest_n, .inl a_newest_2f)), (a, .inr (2, [.ref a_texts, .int a_textsSize, .ref a_ends, .ref a_older, .ref a_newest, .int a_sizeBefore])), (a_ends, .inr (1, [.ref a_ends_items, .int a_ends_size_2])), (a_ends_items, .inl (cs 0, a_ends_items_n, .inl a_ends_items_f))] := ⟨hP, hD⟩
        obtain ⟨r6, hc6, hok⟩ := bd_some hok
        obtain ⟨hPc, hDc, hFc⟩ := cut0 (wc := [(a, .inr (2, [.ref a_texts, .int a_textsSize, .ref a_ends, .ref a_older, .ref a_newest, .int a_sizeBefore])), (a_texts, .inl (cs 1, a_texts_n, .inl a_texts_f))]) hP hD hS hA [4, 0] (by decide) rfl
        refine va_calli (va_runV (As := [.int r4, .int r5]) (rest := [.ref a_newest]) ⟨hx, hb, hml, hown, hg⟩ (c_Names_rowOf l g cs ka a_ends a_older a_newest a a_texts H.size n r4 r5 a_textsSize a_sizeBefore a_texts_n a_texts_f r6 hc6) (cwV (C := R_Names) 2 hg (gw_V wd_297 wd_298 wd_299 wd_287 wd_296) rfl rfl rfl (by decide +kernel) ⟨Nat.le_of_ble_eq_true rfl, Nat.le_of_ble_eq_true rfl⟩) ⟨gP_blind, va_recv (q0 := 4) (ci := 2) (q := (R_Names, F_Names, 6)) hK hP rfl rfl, gP_pre hPc hDc hK hgl hkn hkr hS hFc⟩ rfl rfl hl.1 rfl (lv_room (Nat.le_of_ble_eq_true rfl)) d_Names_forgetFrom_30 ⟨Nat.le_of_ble_eq_true rfl, Nat.le_of_ble_eq_true rfl⟩) hS (fun q _ h => hFc q h) hFc (fun r6' u t H locs ht hvm hr6 hB hz1 hk1 hS => ?_)
        subst hr6
        rw [ht] at hB
        obtain ⟨hP1, hD1⟩ := hB
        obtain ⟨hP, hD⟩ := jn_A hP hD [4, 0] [1, 2, 3, 5, 6] rfl rfl (by decide) (by decide) hk1 hFc hP1 hD1
        obtain ⟨hP, hD⟩ : PD g A H [(a_older, .inr (1, [.ref a_older_items, .int a_older_size_2])), (a_older_items, .inl (cs 0, a_older_items_n, .inl a_older_items_f)), (a_newest, .inl (cs 0, a_newest_n, .inl a_newest_2f)), (a_ends, .inr (1, [.ref a_ends_items, .int a_ends_size_2])), (a_ends_items, .inl (cs 0, a_ends_items_n, .inl a_ends_items_f)), (a, .inr (2, [.ref a_texts, .int a_textsSize, .ref a_ends, .ref a_older, .ref a_newest, .int a_sizeBefore])), (a_texts, .inl (cs 1, a_texts_n, .inl a_texts_f))] := ⟨hP, hD⟩
        refine lv_aload_n hx hb d_Names_forgetFrom_33 rfl (lv_at hl 1 rfl) ?_
        refine va_get (D := g) (ci := 2) (v := .ref a_older) (C := R_Names) (T := F_Names) (N := 6) hx hb hg ul_Names hown hK hP 5 rfl rfl 3 (by decide) (hg _ wd_302) (fun _ h9 => h9) rfl d_Names_forgetFrom_34 ?_
        obtain ⟨⟨r7, a_size_7⟩, hc7, hok⟩ := bd_some hok
        dsimp only at hok
        obtain ⟨hPc, hDc, hFc⟩ := cut0 (wc := [(a_older, .inr (1, [.ref a_older_items, .int a_older_size_2])), (a_older_items, .inl (cs 0, a_older_items_n, .inl a_older_items_f))]) hP hD hS hA [0, 1] (by decide) rfl
        refine va_calli (va_runV (As := []) (rest := [.int r6, .ref a_newest]) ⟨hx, hb, hml, hown, hg⟩ (c_Ints_pop l g cs ka a_older a_older_items H.size a_older_size_2 a_older_items_n a_older_items_f r7 a_size_7 hc7) (cwV (C := R_Ints) 0 hg (gw_V wd_313 wd_279 wd_280 wd_234 wd_277) rfl rfl rfl (by decide +kernel) ⟨Nat.le_of_ble_eq_true rfl, Nat.le_of_ble_eq_true rfl⟩) ⟨gP_blind, va_recv (q0 := 0) (ci := 1) (q := (R_Ints, F_Ints, 2)) hK hP rfl rfl, gP_pre hPc hDc hK hgl hkn hkr hS hFc⟩ rfl rfl hl.1 rfl (lv_room (Nat.le_of_ble_eq_true rfl)) d_Names_forgetFrom_37 ⟨Nat.le_of_ble_eq_true rfl, Nat.le_of_ble_eq_true rfl⟩) hS (fun q _ h => hFc q h) hFc (fun r7' u t H locs ht hvm hr7 hB hz1 hk1 hS => ?_)
        subst hr7
        rw [ht] at hB
        obtain ⟨hP1, hD1⟩ := hB
        obtain ⟨hP, hD⟩ := jn_A hP hD [0, 1] [2, 3, 4, 5, 6] rfl rfl (by decide) (by decide) hk1 hFc hP1 hD1
        obtain ⟨hP, hD⟩ : PD g A H [(a_newest, .inl (cs 0, a_newest_n, .inl a_newest_2f)), (a_ends, .inr (1, [.ref a_ends_items, .int a_ends_size_2])), (a_ends_items, .inl (cs 0, a_ends_items_n, .inl a_ends_items_f)), (a, .inr (2, [.ref a_texts, .int a_textsSize, .ref a_ends, .ref a_older, .ref a_newest, .int a_sizeBefore])), (a_texts, .inl (cs 1, a_texts_n, .inl a_texts_f)), (a_older, .inr (1, [.ref a_older_items, .int a_size_7])), (a_older_items, .inl (cs 0, a_older_items_n, .inl a_older_items_f))] := ⟨hP, hD⟩
        obtain ⟨hi8, hok⟩ := ck_some hok
        refine va_iast hx hb hK hP hD hS 0 0 rfl rfl (ixb_in hi8) d_Names_forgetFrom_40 (fun H locs hP hD hS => ?_)
        obtain ⟨hP, hD⟩ : PD g A H [(a_newest, .inl (cs 0, a_newest_n, .inl (upd a_newest_2f r6.toNatClampNeg r7))), (a_ends, .inr (1, [.ref a_ends_items, .int a_ends_size_2])), (a_ends_items, .inl (cs 0, a_ends_items_n, .inl a_ends_items_f)), (a, .inr (2, [.ref a_texts, .int a_textsSize, .ref a_ends, .ref a_older, .ref a_newest, .int a_sizeBefore])), (a_texts, .inl (cs 1, a_texts_n, .inl a_texts_f)), (a_older, .inr (1, [.ref a_older_items, .int a_size_7])), (a_older_items, .inl (cs 0, a_older_items_n, .inl a_older_items_f))] := ⟨hP, hD⟩
        refine lv_aload_n hx hb d_Names_forgetFrom_41 rfl (lv_at hl 1 rfl) ?_
        refine va_get (D := g) (ci := 2) (v := .ref a_ends) (C := R_Names) (T := F_Names) (N := 6) hx hb hg ul_Names hown hK hP 3 rfl rfl 2 (by decide) (hg _ wd_281) (fun _ h9 => h9) rfl d_Names_forgetFrom_42 ?_
        obtain ⟨⟨r9, a_size_9⟩, hc9, hok⟩ := bd_some hok
        dsimp only at hok
        obtain ⟨hPc, hDc, hFc⟩ := cut0 (wc := [(a_ends, .inr (1, [.ref a_ends_items, .int a_ends_size_2])), (a_ends_items, .inl (cs 0, a_ends_items_n, .inl a_ends_items_f))]) hP hD hS hA [1, 2] (by decide) rfl
        refine va_calli (va_runV (As := []) (rest := []) ⟨hx, hb, hml, hown, hg⟩ (c_Ints_pop l g cs ka a_ends a_ends_items H.size a_ends_size_2 a_ends_items_n a_ends_items_f r9 a_size_9 hc9) (cwV (C := R_Ints) 0 hg (gw_V wd_313 wd_279 wd_280 wd_234 wd_277) rfl rfl rfl (by decide +kernel) ⟨Nat.le_of_ble_eq_true rfl, Nat.le_of_ble_eq_true rfl⟩) ⟨gP_blind, va_recv (q0 := 1) (ci := 1) (q := (R_Ints, F_Ints, 2)) hK hP rfl rfl, gP_pre hPc hDc hK hgl hkn hkr hS hFc⟩ rfl rfl hl.1 rfl (lv_room (Nat.le_of_ble_eq_true rfl)) d_Names_forgetFrom_45 ⟨Nat.le_of_ble_eq_true rfl, Nat.le_of_ble_eq_true rfl⟩) hS (fun q _ h => hFc q h) hFc (fun r9' u t H locs ht hvm hr9 hB hz1 hk1 hS => ?_)
        subst hr9
        rw [ht] at hB
        obtain ⟨hP1, hD1⟩ := hB
        obtain ⟨hP, hD⟩ := jn_A hP hD [1, 2] [0, 3, 4, 5, 6] rfl rfl (by decide) (by decide) hk1 hFc hP1 hD1
        obtain ⟨hP, hD⟩ : PD g A H [(a_newest, .inl (cs 0, a_newest_n, .inl (upd a_newest_2f r6.toNatClampNeg r7))), (a, .inr (2, [.ref a_texts, .int a_textsSize, .ref a_ends, .ref a_older, .ref a_newest, .int a_sizeBefore])), (a_texts, .inl (cs 1, a_texts_n, .inl a_texts_f)), (a_older, .inr (1, [.ref a_older_items, .int a_size_7])), (a_older_items, .inl (cs 0, a_older_items_n, .inl a_older_items_f)), (a_ends, .inr (1, [.ref a_ends_items, .int a_size_9])), (a_ends_items, .inl (cs 0, a_ends_items_n, .inl a_ends_items_f))] := ⟨hP, hD⟩
        refine lv_pop hx hb d_Names_forgetFrom_48 rfl ?_
        refine lv_iinc (k := 0) (v := x2_2 + (-1)) hx hb d_Names_forgetFrom_49 hl rfl rfl (by decide) rfl (fun ls hl => ?_)
        have hl : lv_has ls 3 [(2, .int (x2_2 + (-1))), (0, .ref a), (1, .int first)] := hl
        refine lv_goto hx hb d_Names_forgetFrom_52 rfl ?_
        exact ih2 _ _ _ (x2_2 + (-1)) a_size_7 a_size_9 (upd a_newest_2f r6.toNatClampNeg r7) (lv_sub hl [0, 1, 2] rfl) (sub3 hP hD [1, 2, 6, 3, 4, 0, 5] (by decide)) hS hok
  exact J2 n H locs ls (r1 - 1) a_older_size a_ends_size a_newest_f hl ⟨hP, hD⟩ hS hok

theorem d_Names_goBack_0 : decode b_Names_goBack 0 = .ok (.aload_n 0, 1) := by decide +kernel
theorem d_Names_goBack_1 : decode b_Names_goBack 1 = .ok (.aload_n 0, 1) := by decide +kernel
theorem d_Names_goBack_2 : decode b_Names_goBack 2 = .ok (.getfield 31, 3) := by decide +kernel
theorem d_Names_goBack_5 : decode b_Names_goBack 5 = .ok (.invokevirtual 115, 3) := by decide +kernel
theorem d_Names_goBack_8 : decode b_Names_goBack 8 = .ok (.return_, 1) := by decide +kernel
def p_Names_goBack (n : Nat) (a_textsSize : Int32) (a_sizeBefore : Int32) (a_texts_n : Nat) (a_texts_f : Nat → Int32) (a_ends_size : Int32) (a_ends_items_n : Nat) (a_ends_items_f : Nat → Int32) (a_older_size : Int32) (a_older_items_n : Nat) (a_older_items_f : Nat → Int32) (a_newest_n : Nat) (a_newest_f : Nat → Int32) : Option (Int32 × Int32 × (Nat → Int32)) := (p_Names_forgetFrom n a_sizeBefore a_textsSize a_sizeBefore a_texts_n a_texts_f a_ends_size a_ends_items_n a_ends_items_f a_older_size a_older_items_n a_older_items_f a_newest_n a_newest_f).bind (fun (a_ends_size_1, a_older_size_1, a_newest_f_1) => some (a_ends_size_1, a_older_size_1, a_newest_f_1))
set_option maxHeartbeats 4000000 in
set_option maxRecDepth 100000 in
theorem c_Names_goBack (l : Launch) (g : va_G) (cs : Nat → ClassId) (ka : Nat → Nat) (a a_texts a_ends a_ends_items a_older a_older_items a_newest : Nat) (sz : Nat) (n : Nat) (a_textsSize : Int32) (a_sizeBefore : Int32) (a_texts_n : Nat) (a_texts_f : Nat → Int32) (a_ends_size : Int32) (a_ends_items_n : Nat) (a_ends_items_f : Nat → Int32) (a_older_size : Int32) (a_older_items_n : Nat) (a_older_items_f : Nat → Int32) (a_newest_n : Nat) (a_newest_f : Nat → Int32) (o_a_ends_size : Int32) (o_a_older_size : Int32) (o_a_newest_f : Nat → Int32) (hok : p_Names_goBack n a_textsSize a_sizeBefore a_texts_n a_texts_f a_ends_size a_ends_items_n a_ends_items_f a_older_size a_older_items_n a_older_items_f a_newest_n a_newest_f = some (o_a_ends_size, o_a_older_size, o_a_newest_f)) : Met l y_Names_goBack (.code y_Names_goBack b_Names_goBack 1 none :: GW) { frames := 3, cells := 0, slots := 0, locals := 67 } (va_Pc [.ref a] (gP g cs ka [(a, .inr (2, [.ref a_texts, .int a_textsSize, .ref a_ends, .ref a_older, .ref a_newest, .int a_sizeBefore])), (a_texts, .inl (cs 1, a_texts_n, .inl a_texts_f)), (a_ends, .inr (1, [.ref a_ends_items, .int a_ends_size])), (a_ends_items, .inl (cs 0, a_ends_items_n, .inl a_ends_items_f)), (a_older, .inr (1, [.ref a_older_items, .int a_older_size])), (a_older_items, .inl (cs 0, a_older_items_n, .inl a_older_items_f)), (a_newest, .inl (cs 0, a_newest_n, .inl a_newest_f))] sz)) (va_Qv (fun _ : Unit => True) (fun _ t => va_P g classes [(a, .inr (2, [.ref a_texts, .int a_textsSize, .ref a_ends, .ref a_older, .ref a_newest, .int a_sizeBefore])), (a_texts, .inl (cs 1, a_texts_n, .inl a_texts_f)), (a_ends, .inr (1, [.ref a_ends_items, .int o_a_ends_size])), (a_ends_items, .inl (cs 0, a_ends_items_n, .inl a_ends_items_f)), (a_older, .inr (1, [.ref a_older_items, .int o_a_older_size])), (a_older_items, .inl (cs 0, a_older_items_n, .inl a_older_items_f)), (a_newest, .inl (cs 0, a_newest_n, .inl o_a_newest_f))] t.heap ∧ va_D (va_A [(a, .inr (2, [.ref a_texts, .int a_textsSize, .ref a_ends, .ref a_older, .ref a_newest, .int a_sizeBefore])), (a_texts, .inl (cs 1, a_texts_n, .inl a_texts_f)), (a_ends, .inr (1, [.ref a_ends_items, .int a_ends_size])), (a_ends_items, .inl (cs 0, a_ends_items_n, .inl a_ends_items_f)), (a_older, .inr (1, [.ref a_older_items, .int a_older_size])), (a_older_items, .inl (cs 0, a_older_items_n, .inl a_older_items_f)), (a_newest, .inl (cs 0, a_newest_n, .inl a_newest_f))] sz) [(a, .inr (2, [.ref a_texts, .int a_textsSize, .ref a_ends, .ref a_older, .ref a_newest, .int a_sizeBefore])), (a_texts, .inl (cs 1, a_texts_n, .inl a_texts_f)), (a_ends, .inr (1, [.ref a_ends_items, .int o_a_ends_size])), (a_ends_items, .inl (cs 0, a_ends_items_n, .inl a_ends_items_f)), (a_older, .inr (1, [.ref a_older_items, .int o_a_older_size])), (a_older_items, .inl (cs 0, a_older_items_n, .inl a_older_items_f)), (a_newest, .inl (cs 0, a_newest_n, .inl o_a_newest_f))]) (va_A [(a, .inr (2, [.ref a_texts, .int a_textsSize, .ref a_ends, .ref a_older, .ref a_newest, .int a_sizeBefore])), (a_texts, .inl (cs 1, a_texts_n, .inl a_texts_f)), (a_ends, .inr (1, [.ref a_ends_items, .int a_ends_size])), (a_ends_items, .inl (cs 0, a_ends_items_n, .inl a_ends_items_f)), (a_older, .inr (1, [.ref a_older_items, .int a_older_size])), (a_older_items, .inl (cs 0, a_older_items_n, .inl a_older_items_f)), (a_newest, .inl (cs 0, a_newest_n, .inl a_newest_f))] sz)) 0 0 (va_A [(a, .inr (2, [.ref a_texts, .int a_textsSize, .ref a_ends, .ref a_older, .ref a_newest, .int a_sizeBefore])), (a_texts, .inl (cs 1, a_texts_n, .inl a_texts_f)), (a_ends, .inr (1, [.ref a_ends_items, .int a_ends_size])), (a_ends_items, .inl (cs 0, a_ends_items_n, .inl a_ends_items_f)), (a_older, .inr (1, [.ref a_older_items, .int a_older_size])), (a_older_items, .inl (cs 0, a_older_items_n, .inl a_older_items_f)), (a_newest, .inl (cs 0, a_newest_n, .inl a_newest_f))] sz) := by
  refine Met.ofW (cc := b_Names_goBack) (maxL := 1) (ret := none) (by decide) rfl ?_
  intro p e s m args below meth c s₁ B hml hv
  obtain ⟨rfl, hsz, hP, hK, hD0, hgl, hkn, hkr⟩ := hv
  have hx := B.exec
  have hb := B.bytes
  have hr := B.returns
  have hg : ∀ w ∈ GW, w.before ([.ref a] : List Value).toArray s = true := fun w hw => atoms_spec (ws := .code y_Names_goBack b_Names_goBack 1 none :: GW) B.pre w (List.mem_cons_of_mem _ hw)
  have hown : s.vm.findClass R_Names = some m.cls := findClass_of_methodNamed B.named
  have hlocks := B.notSynchronized
  subst hsz
  have hD := hD0.self (sz := s.heap.size)
  generalize hAe : va_A [(a, .inr (2, [.ref a_texts, .int a_textsSize, .ref a_ends, .ref a_older, .ref a_newest, .int a_sizeBefore])), (a_texts, .inl (cs 1, a_texts_n, .inl a_texts_f)), (a_ends, .inr (1, [.ref a_ends_items, .int a_ends_size])), (a_ends_items, .inl (cs 0, a_ends_items_n, .inl a_ends_items_f)), (a_older, .inr (1, [.ref a_older_items, .int a_older_size])), (a_older_items, .inl (cs 0, a_older_items_n, .inl a_older_items_f)), (a_newest, .inl (cs 0, a_newest_n, .inl a_newest_f))] s.heap.size = A at hD hkn ⊢
  have hA : ∀ q : Nat, s.heap.size ≤ q → A q := fun q h => by rw [← hAe]; exact Or.inr h
  have hS : va_S A s.heap s.heap [] := va_S.rf
  have hP : va_P g classes [(a, .inr (2, [.ref a_texts, .int a_textsSize, .ref a_ends, .ref a_older, .ref a_newest, .int a_sizeBefore])), (a_texts, .inl (cs 1, a_texts_n, .inl a_texts_f)), (a_ends, .inr (1, [.ref a_ends_items, .int a_ends_size])), (a_ends_items, .inl (cs 0, a_ends_items_n, .inl a_ends_items_f)), (a_older, .inr (1, [.ref a_older_items, .int a_older_size])), (a_older_items, .inl (cs 0, a_older_items_n, .inl a_older_items_f)), (a_newest, .inl (cs 0, a_newest_n, .inl a_newest_f))] s.heap := hP
  have hl := lv_entry ([.ref a]) (n := 1) (Nat.le_of_ble_eq_true rfl)
  rw [lg_entry_eq]
  generalize (lg_sl ([.ref a]) ++ List.replicate (1 - (lg_sl ([.ref a])).length) Slot.unset).toArray = ls at hl ⊢
  have hl : lv_has ls 1 [(0, .ref a)] := hl
  refine gq (fun Q hQ => ?_)
  obtain ⟨H, hH⟩ : ∃ H : Heap, H = s.heap := ⟨_, rfl⟩
  rw [← hH] at hP
  have hS : va_S A s.heap H [] := by rw [hH]; exact hS
  refine W.eqH hH ?_
  obtain ⟨locs, hlc⟩ : ∃ L : List Loc, L = [] := ⟨_, rfl⟩
  rw [← hlc] at hS ⊢
  unfold p_Names_goBack at hok
  refine lv_aload_n hx hb d_Names_goBack_0 rfl (lv_at hl 0 rfl) ?_
  refine lv_aload_n hx hb d_Names_goBack_1 rfl (lv_at hl 0 rfl) ?_
  refine va_get (D := g) (ci := 2) (v := .int a_sizeBefore) (C := R_Names) (T := F_Names) (N := 6) hx hb hg ul_Names hown hK hP 0 rfl rfl 5 (by decide) (hg _ wd_312) (fun _ h9 => h9) rfl d_Names_goBack_2 ?_
  obtain ⟨⟨a_ends_size_1, a_older_size_1, a_newest_f_1⟩, hc1, hok⟩ := bd_some hok
  dsimp only at hok
  obtain ⟨hPc, hDc, hFc⟩ := cut0 (wc := [(a, .inr (2, [.ref a_texts, .int a_textsSize, .ref a_ends, .ref a_older, .ref a_newest, .int a_sizeBefore])), (a_texts, .inl (cs 1, a_texts_n, .inl a_texts_f)), (a_ends, .inr (1, [.ref a_ends_items, .int a_ends_size])), (a_ends_items, .inl (cs 0, a_ends_items_n, .inl a_ends_items_f)), (a_older, .inr (1, [.ref a_older_items, .int a_older_size])), (a_older_items, .inl (cs 0, a_older_items_n, .inl a_older_items_f)), (a_newest, .inl (cs 0, a_newest_n, .inl a_newest_f))]) hP hD hS hA [0, 1, 2, 3, 4, 5, 6] (by decide) rfl
  refine va_callv (va_runV (As := [.int a_sizeBefore]) (rest := []) ⟨hx, hb, hml, hown, hg⟩ (c_Names_forgetFrom l g cs ka a a_texts a_ends a_ends_items a_older a_older_items a_newest H.size n a_sizeBefore a_textsSize a_sizeBefore a_texts_n a_texts_f a_ends_size a_ends_items_n a_ends_items_f a_older_size a_older_items_n a_older_items_f a_newest_n a_newest_f a_ends_size_1 a_older_size_1 a_newest_f_1 hc1) (cwV (C := R_Names) 1 hg (gw_V wd_315 wd_316 wd_317 wd_287 wd_314) rfl rfl rfl (by decide +kernel) ⟨Nat.le_of_ble_eq_true rfl, Nat.le_of_ble_eq_true rfl⟩) ⟨gP_blind, va_recv (q0 := 0) (ci := 2) (q := (R_Names, F_Names, 6)) hK hP rfl rfl, gP_pre hPc hDc hK hgl hkn hkr hS hFc⟩ rfl rfl hl.1 rfl (lv_room (Nat.le_of_ble_eq_true rfl)) d_Names_goBack_5 ⟨Nat.le_of_ble_eq_true rfl, Nat.le_of_ble_eq_true rfl⟩) hS (fun q _ h => hFc q h) hFc (fun u t H locs ht hvm hr1 hB hz1 hk1 hS => ?_)
  rw [ht] at hB
  obtain ⟨hP1, hD1⟩ := hB
  obtain ⟨hP, hD⟩ := jn_A hP hD [0, 1, 2, 3, 4, 5, 6] [] rfl rfl (by decide) (by decide) hk1 hFc hP1 hD1
  obtain ⟨hP, hD⟩ : PD g A H [(a, .inr (2, [.ref a_texts, .int a_textsSize, .ref a_ends, .ref a_older, .ref a_newest, .int a_sizeBefore])), (a_texts, .inl (cs 1, a_texts_n, .inl a_texts_f)), (a_ends, .inr (1, [.ref a_ends_items, .int a_ends_size_1])), (a_ends_items, .inl (cs 0, a_ends_items_n, .inl a_ends_items_f)), (a_older, .inr (1, [.ref a_older_items, .int a_older_size_1])), (a_older_items, .inl (cs 0, a_older_items_n, .inl a_older_items_f)), (a_newest, .inl (cs 0, a_newest_n, .inl a_newest_f_1))] := ⟨hP, hD⟩
  have hq := Option.some.inj hok
  obtain ⟨hq0, hq⟩ := Prod.mk.inj hq
  obtain ⟨hq1, hq⟩ := Prod.mk.inj hq
  have hq2 := hq
  subst hq0
  subst hq1
  subst hq2
  obtain ⟨hP9, hD9⟩ := sub2 (ws' := [(a, .inr (2, [.ref a_texts, .int a_textsSize, .ref a_ends, .ref a_older, .ref a_newest, .int a_sizeBefore])), (a_texts, .inl (cs 1, a_texts_n, .inl a_texts_f)), (a_ends, .inr (1, [.ref a_ends_items, .int a_ends_size_1])), (a_ends_items, .inl (cs 0, a_ends_items_n, .inl a_ends_items_f)), (a_older, .inr (1, [.ref a_older_items, .int a_older_size_1])), (a_older_items, .inl (cs 0, a_older_items_n, .inl a_older_items_f)), (a_newest, .inl (cs 0, a_newest_n, .inl a_newest_f_1))]) hP hD [0, 1, 2, 3, 4, 5, 6] rfl (by decide) rfl
  rw [hQ]
  exact W.vret hx hb hr (fun t ht hW => ⟨⟨(), rfl, trivial, by rw [ht]; exact hP9, hD9⟩, hS.F ht⟩) hS.2.2 d_Names_goBack_8
