theorem wd_433 : ((.methodLink "UnifyBench$OpenTerm" 1 y_Object_init) : Cond) ∈ GW := gw_2 71 (by decide +kernel) rfl
theorem wd_434 : ((.fieldLink "UnifyBench$OpenTerm" 7 "UnifyBench$OpenTerm" "most" "I") : Cond) ∈ GW := gw_2 72 (by decide +kernel) rfl
theorem wd_435 : ((.fieldLink "UnifyBench$OpenTerm" 13 "UnifyBench$OpenTerm" "level" "I") : Cond) ∈ GW := gw_2 74 (by decide +kernel) rfl
theorem wd_436 : ((.fieldLink "UnifyBench$OpenTerm" 16 "UnifyBench$OpenTerm" "awaits" "I") : Cond) ∈ GW := gw_2 76 (by decide +kernel) rfl
theorem wd_437 : ((.fieldLink "UnifyBench$OpenTerm" 19 "UnifyBench$OpenTerm" "name" "I") : Cond) ∈ GW := gw_2 78 (by decide +kernel) rfl
theorem wd_438 : ((.fieldLink "UnifyBench$OpenTerm" 22 "UnifyBench$OpenTerm" "nameLevel" "I") : Cond) ∈ GW := gw_2 80 (by decide +kernel) rfl
theorem wd_439 : ((.fieldLink "UnifyBench$OpenTerm" 25 "UnifyBench$OpenTerm" "parts" "I") : Cond) ∈ GW := gw_2 82 (by decide +kernel) rfl
theorem d_Open_init_0 : decode b_Open_init 0 = .ok (.aload_n 0, 1) := by decide +kernel
theorem d_Open_init_1 : decode b_Open_init 1 = .ok (.invokespecial 1, 3) := by decide +kernel
theorem d_Open_init_4 : decode b_Open_init 4 = .ok (.aload_n 0, 1) := by decide +kernel
theorem d_Open_init_5 : decode b_Open_init 5 = .ok (.iconst 0, 1) := by decide +kernel
theorem d_Open_init_6 : decode b_Open_init 6 = .ok (.putfield 7, 3) := by decide +kernel
theorem d_Open_init_9 : decode b_Open_init 9 = .ok (.aload_n 0, 1) := by decide +kernel
theorem d_Open_init_10 : decode b_Open_init 10 = .ok (.iconst 0, 1) := by decide +kernel
theorem d_Open_init_11 : decode b_Open_init 11 = .ok (.putfield 13, 3) := by decide +kernel
theorem d_Open_init_14 : decode b_Open_init 14 = .ok (.aload_n 0, 1) := by decide +kernel
theorem d_Open_init_15 : decode b_Open_init 15 = .ok (.iconst 0, 1) := by decide +kernel
theorem d_Open_init_16 : decode b_Open_init 16 = .ok (.putfield 16, 3) := by decide +kernel
theorem d_Open_init_19 : decode b_Open_init 19 = .ok (.aload_n 0, 1) := by decide +kernel
theorem d_Open_init_20 : decode b_Open_init 20 = .ok (.iconst 0, 1) := by decide +kernel
theorem d_Open_init_21 : decode b_Open_init 21 = .ok (.putfield 19, 3) := by decide +kernel
theorem d_Open_init_24 : decode b_Open_init 24 = .ok (.aload_n 0, 1) := by decide +kernel
theorem d_Open_init_25 : decode b_Open_init 25 = .ok (.iconst 0, 1) := by decide +kernel
theorem d_Open_init_26 : decode b_Open_init 26 = .ok (.putfield 22, 3) := by decide +kernel
theorem d_Open_init_29 : decode b_Open_init 29 = .ok (.aload_n 0, 1) := by decide +kernel
theorem d_Open_init_30 : decode b_Open_init 30 = .ok (.iconst 0, 1) := by decide +kernel
theorem d_Open_init_31 : decode b_Open_init 31 = .ok (.putfield 25, 3) := by decide +kernel
theorem d_Open_init_34 : decode b_Open_init 34 = .ok (.return_, 1) := by decide +kernel
def p_Open_init : Option (Int32 × Int32 × Int32 × Int32 × Int32 × Int32) := some ((0 : Int32), (0 : Int32), (0 : Int32), (0 : Int32), (0 : Int32), (0 : Int32))
set_option maxHeartbeats 4000000 in
set_option maxRecDepth 100000 in
theorem c_Open_init (l : Launch) (g : va_G) (cs : Nat → ClassId) (ka : Nat → Nat) (a : Nat) (sz : Nat) (o_a_most : Int32) (o_a_level : Int32) (o_a_awaits : Int32) (o_a_name : Int32) (o_a_nameLevel : Int32) (o_a_parts : Int32) (hok : p_Open_init = some (o_a_most, o_a_level, o_a_awaits, o_a_name, o_a_nameLevel, o_a_parts)) : Met l y_Open_init (.code y_Open_init b_Open_init 1 none :: GW) { frames := 1, cells := 0, slots := 0, locals := 12 } (va_Pc [.ref a] (gP g cs ka [(a, .inr (3, [.int 0, .int 0, .int 0, .int 0, .int 0, .int 0]))] sz)) (va_Qv (fun _ : Unit => True) (fun _ t => va_P g classes [(a, .inr (3, [.int o_a_most, .int o_a_level, .int o_a_awaits, .int o_a_name, .int o_a_nameLevel, .int o_a_parts]))] t.heap ∧ va_D (va_A [(a, .inr (3, [.int 0, .int 0, .int 0, .int 0, .int 0, .int 0]))] sz) [(a, .inr (3, [.int o_a_most, .int o_a_level, .int o_a_awaits, .int o_a_name, .int o_a_nameLevel, .int o_a_parts]))]) (va_A [(a, .inr (3, [.int 0, .int 0, .int 0, .int 0, .int 0, .int 0]))] sz)) 0 0 (va_A [(a, .inr (3, [.int 0, .int 0, .int 0, .int 0, .int 0, .int 0]))] sz) := by
  refine Met.ofW (cc := b_Open_init) (maxL := 1) (ret := none) (by decide) rfl ?_
  intro p e s m args below meth c s₁ B hml hv
  obtain ⟨rfl, hsz, hP, hK, hD0, hgl, hkn, hkr⟩ := hv
  have hx := B.exec
  have hb := B.bytes
  have hr := B.returns
  have hg : ∀ w ∈ GW, w.before ([.ref a] : List Value).toArray s = true := fun w hw => atoms_spec (ws := .code y_Open_init b_Open_init 1 none :: GW) B.pre w (List.mem_cons_of_mem _ hw)
  have hown : s.vm.findClass R_Open = some m.cls := findClass_of_methodNamed B.named
  have hlocks := B.notSynchronized
  have hin : meth.name = "<init>" := (name_of_methodNamed B.named B.method).1
  subst hsz
  have hD := hD0.self (sz := s.heap.size)
  generalize hAe : va_A [(a, .inr (3, [.int 0, .int 0, .int 0, .int 0, .int 0, .int 0]))] s.heap.size = A at hD hkn ⊢
  have hA : ∀ q : Nat, s.heap.size ≤ q → A q := fun q h => by rw [← hAe]; exact Or.inr h
  have hS : va_S A s.heap s.heap [] := va_S.rf
  have hP : va_P g classes [(a, .inr (3, [.int 0, .int 0, .int 0, .int 0, .int 0, .int 0]))] s.heap := hP
  have hl := lv_entry ([.ref a]) (n := 1) (Nat.le_of_ble_eq_true rfl)
  rw [lg_entry_eq]
  generalize (lg_sl ([.ref a]) ++ List.replicate (1 - (lg_sl ([.ref a])).length) Slot.unset).toArray = ls at hl ⊢
  have hl : lv_has ls 1 [(0, .ref a)] := hl
  refine gq (fun Q hQ => ?_)
  obtain ⟨H, hH⟩ : ∃ H : Heap, H = s.heap := ⟨_, rfl⟩
  rw [← hH] at hP
  have hS : va_S A s.heap H [] := by rw [hH]; exact hS
  refine W.eqH hH ?_
  obtain ⟨locs, hlc⟩ : ∃ L : List Loc, L = [] := ⟨_, rfl⟩
  rw [← hlc] at hS ⊢
  unfold p_Open_init at hok
  refine lv_aload_n hx hb d_Open_init_0 rfl (lv_at hl 0 rfl) ?_
  refine W.objInit hx hb hown (hg _ wd_433) (hg _ wd_158) (hg _ wd_159) rfl (by rw [hml]; exact hl.1) rfl d_Open_init_1 (Nat.le_of_ble_eq_true rfl) (Nat.le_of_ble_eq_true rfl) ?_
  refine W.eq (g2 := F0 m 4 ls []) rfl ?_
  refine lv_aload_n hx hb d_Open_init_4 rfl (lv_at hl 0 rfl) ?_
  refine lv_iconst (v := 0) hx hb d_Open_init_5 (by decide) ?_
  refine va_put (D := g) (ci := 3) (v := .int 0) (ty := .int) (C := R_Open) (T := F_Open) (N := 6) hx hb hg ul_Open t_Open tk_Open n_Open hown hK hP hD hS 0 rfl rfl 0 (by decide) (hg _ wd_434) (fun _ h9 => h9) rfl (by decide +kernel) rfl rfl (Nat.le_of_ble_eq_true rfl) d_Open_init_6 (fun H locs hP hD hS => ?_)
  obtain ⟨hP, hD⟩ : PD g A H [(a, .inr (3, [.int 0, .int 0, .int 0, .int 0, .int 0, .int 0]))] := ⟨hP, hD⟩
  refine lv_aload_n hx hb d_Open_init_9 rfl (lv_at hl 0 rfl) ?_
  refine lv_iconst (v := 0) hx hb d_Open_init_10 (by decide) ?_
  refine va_put (D := g) (ci := 3) (v := .int 0) (ty := .int) (C := R_Open) (T := F_Open) (N := 6) hx hb hg ul_Open t_Open tk_Open n_Open hown hK hP hD hS 0 rfl rfl 1 (by decide) (hg _ wd_435) (fun _ h9 => h9) rfl (by decide +kernel) rfl rfl (Nat.le_of_ble_eq_true rfl) d_Open_init_11 (fun H locs hP hD hS => ?_)
  obtain ⟨hP, hD⟩ : PD g A H [(a, .inr (3, [.int 0, .int 0, .int 0, .int 0, .int 0, .int 0]))] := ⟨hP, hD⟩
  refine lv_aload_n hx hb d_Open_init_14 rfl (lv_at hl 0 rfl) ?_
  refine lv_iconst (v := 0) hx hb d_Open_init_15 (by decide) ?_
  refine va_put (D := g) (ci := 3) (v := .int 0) (ty := .int) (C := R_Open) (T := F_Open) (N := 6) hx hb hg ul_Open t_Open tk_Open n_Open hown hK hP hD hS 0 rfl rfl 2 (by decide) (hg _ wd_436) (fun _ h9 => h9) rfl (by decide +kernel) rfl rfl (Nat.le_of_ble_eq_true rfl) d_Open_init_16 (fun H locs hP hD hS => ?_)
  obtain ⟨hP, hD⟩ : PD g A H [(a, .inr (3, [.int 0, .int 0, .int 0, .int 0, .int 0, .int 0]))] := ⟨hP, hD⟩
  refine lv_aload_n hx hb d_Open_init_19 rfl (lv_at hl 0 rfl) ?_
  refine lv_iconst (v := 0) hx hb d_Open_init_20 (by decide) ?_
  refine va_put (D := g) (ci := 3) (v := .int 0) (ty := .int) (C := R_Open) (T := F_Open) (N := 6) hx hb hg ul_Open t_Open tk_Open n_Open hown hK hP hD hS 0 rfl rfl 3 (by decide) (hg _ wd_437) (fun _ h9 => h9) rfl (by decide +kernel) rfl rfl (Nat.le_of_ble_eq_true rfl) d_Open_init_21 (fun H locs hP hD hS => ?_)
  obtain ⟨hP, hD⟩ : PD g A H [(a, .inr (3, [.int 0, .int 0, .int 0, .int 0, .int 0, .int 0]))] := ⟨hP, hD⟩
  refine lv_aload_n hx hb d_Open_init_24 rfl (lv_at hl 0 rfl) ?_
  refine lv_iconst (v := 0) hx hb d_Open_init_25 (by decide) ?_
  refine va_put (D := g) (ci := 3) (v := .int 0) (ty := .int) (C := R_Open) (T := F_Open) (N := 6) hx hb hg ul_Open t_Open tk_Open n_Open hown hK hP hD hS 0 rfl rfl 4 (by decide) (hg _ wd_438) (fun _ h9 => h9) rfl (by decide +kernel) rfl rfl (Nat.le_of_ble_eq_true rfl) d_Open_init_26 (fun H locs hP hD hS => ?_)
  obtain ⟨hP, hD⟩ : PD g A H [(a, .inr (3, [.int 0, .int 0, .int 0, .int 0, .int 0, .int 0]))] := ⟨hP, hD⟩
  refine lv_aload_n hx hb d_Open_init_29 rfl (lv_at hl 0 rfl) ?_
  refine lv_iconst (v := 0) hx hb d_Open_init_30 (by decide) ?_
  refine va_put (D := g) (ci := 3) (v := .int 0) (ty := .int) (C := R_Open) (T := F_Open) (N := 6) hx hb hg ul_Open t_Open tk_Open n_Open hown hK hP hD hS 0 rfl rfl 5 (by decide) (hg _ wd_439) (fun _ h9 => h9) rfl (by decide +kernel) rfl rfl (Nat.le_of_ble_eq_true rfl) d_Open_init_31 (fun H locs hP hD hS => ?_)
  obtain ⟨hP, hD⟩ : PD g A H [(a, .inr (3, [.int 0, .int 0, .int 0, .int 0, .int 0, .int 0]))] := ⟨hP, hD⟩
  have hq := Option.some.inj hok
  obtain ⟨hq0, hq⟩ := Prod.mk.inj hq
  obtain ⟨hq1, hq⟩ := Prod.mk.inj hq
  obtain ⟨hq2, hq⟩ := Prod.mk.inj hq
  obtain ⟨hq3, hq⟩ := Prod.mk.inj hq
  obtain ⟨hq4, hq⟩ := Prod.mk.inj hq
  have hq5 := hq
  subst hq0
  subst hq1
  subst hq2
  subst hq3
  subst hq4
  subst hq5
  obtain ⟨hP9, hD9⟩ := sub2 (ws' := [(a, .inr (3, [.int 0, .int 0, .int 0, .int 0, .int 0, .int 0]))]) hP hD [0] rfl (by decide) rfl
  rw [hQ]
  exact W.vret hx hb hr (fun t ht hW => ⟨⟨(), rfl, trivial, by rw [ht]; exact hP9, hD9⟩, hS.F ht⟩) hS.2.2 d_Open_init_34

theorem d_Open_beginWith_0 : decode b_Open_beginWith 0 = .ok (.aload_n 0, 1) := by decide +kernel
theorem d_Open_beginWith_1 : decode b_Open_beginWith 1 = .ok (.iload_n 1, 1) := by decide +kernel
theorem d_Open_beginWith_2 : decode b_Open_beginWith 2 = .ok (.putfield 7, 3) := by decide +kernel
theorem d_Open_beginWith_5 : decode b_Open_beginWith 5 = .ok (.aload_n 0, 1) := by decide +kernel
theorem d_Open_beginWith_6 : decode b_Open_beginWith 6 = .ok (.iconst 0, 1) := by decide +kernel
theorem d_Open_beginWith_7 : decode b_Open_beginWith 7 = .ok (.putfield 13, 3) := by decide +kernel
theorem d_Open_beginWith_10 : decode b_Open_beginWith 10 = .ok (.aload_n 0, 1) := by decide +kernel
theorem d_Open_beginWith_11 : decode b_Open_beginWith 11 = .ok (.iconst 0, 1) := by decide +kernel
theorem d_Open_beginWith_12 : decode b_Open_beginWith 12 = .ok (.putfield 16, 3) := by decide +kernel
theorem d_Open_beginWith_15 : decode b_Open_beginWith 15 = .ok (.aload_n 0, 1) := by decide +kernel
theorem d_Open_beginWith_16 : decode b_Open_beginWith 16 = .ok (.iconst 0, 1) := by decide +kernel
theorem d_Open_beginWith_17 : decode b_Open_beginWith 17 = .ok (.putfield 25, 3) := by decide +kernel
theorem d_Open_beginWith_20 : decode b_Open_beginWith 20 = .ok (.return_, 1) := by decide +kernel
def p_Open_beginWith (mostLevel : Int32) (a_most : Int32) (a_level : Int32) (a_awaits : Int32) (a_name : Int32) (a_nameLevel : Int32) (a_parts : Int32) : Option (Int32 × Int32 × Int32 × Int32) := some (mostLevel, (0 : Int32), (0 : Int32), (0 : Int32))
set_option maxHeartbeats 4000000 in
set_option maxRecDepth 100000 in
theorem c_Open_beginWith (l : Launch) (g : va_G) (cs : Nat → ClassId) (ka : Nat → Nat) (a : Nat) (sz : Nat) (mostLevel : Int32) (a_most : Int32) (a_level : Int32) (a_awaits : Int32) (a_name : Int32) (a_nameLevel : Int32) (a_parts : Int32) (o_a_most : Int32) (o_a_level : Int32) (o_a_awaits : Int32) (o_a_parts : Int32) (hok : p_Open_beginWith mostLevel a_most a_level a_awaits a_name a_nameLevel a_parts = some (o_a_most, o_a_level, o_a_awaits, o_a_parts)) : Met l y_Open_beginWith (.code y_Open_beginWith b_Open_beginWith 2 none :: GW) { frames := 0, cells := 0, slots := 0, locals := 0 } (va_Pc [.ref a, .int mostLevel] (gP g cs ka [(a, .inr (3, [.int a_most, .int a_level, .int a_awaits, .int a_name, .int a_nameLevel, .int a_parts]))] sz)) (va_Qv (fun _ : Unit => True) (fun _ t => va_P g classes [(a, .inr (3, [.int o_a_most, .int o_a_level, .int o_a_awaits, .int a_name, .int a_nameLevel, .int o_a_parts]))] t.heap ∧ va_D (va_A [(a, .inr (3, [.int a_most, .int a_level, .int a_awaits, .int a_name, .int a_nameLevel, .int a_parts]))] sz) [(a, .inr (3, [.int o_a_most, .int o_a_level, .int o_a_awaits, .int a_name, .int a_nameLevel, .int o_a_parts]))]) (va_A [(a, .inr (3, [.int a_most, .int a_level, .int a_awaits, .int a_name, .int a_nameLevel, .int a_parts]))] sz)) 0 0 (va_A [(a, .inr (3, [.int a_most, .int a_level, .int a_awaits, .int a_name, .int a_nameLevel, .int a_parts]))] sz) := by
  refine Met.ofW (cc := b_Open_beginWith) (maxL := 2) (ret := none) (by decide) rfl ?_
  intro p e s m args below meth c s₁ B hml hv
  obtain ⟨rfl, hsz, hP, hK, hD0, hgl, hkn, hkr⟩ := hv
  have hx := B.exec
  have hb := B.bytes
  have hr := B.returns
  have hg : ∀ w ∈ GW, w.before ([.ref a, .int mostLevel] : List Value).toArray s = true := fun w hw => atoms_spec (ws := .code y_Open_beginWith b_Open_beginWith 2 none :: GW) B.pre w (List.mem_cons_of_mem _ hw)
  have hown : s.vm.findClass R_Open = some m.cls := findClass_of_methodNamed B.named
  have hlocks := B.notSynchronized
  subst hsz
  have hD := hD0.self (sz := s.heap.size)
  generalize hAe : va_A [(a, .inr (3, [.int a_most, .int a_level, .int a_awaits, .int a_name, .int a_nameLevel, .int a_parts]))] s.heap.size = A at hD hkn ⊢
  have hA : ∀ q : Nat, s.heap.size ≤ q → A q := fun q h => by rw [← hAe]; exact Or.inr h
  have hS : va_S A s.heap s.heap [] := va_S.rf
  have hP : va_P g classes [(a, .inr (3, [.int a_most, .int a_level, .int a_awaits, .int a_name, .int a_nameLevel, .int a_parts]))] s.heap := hP
  have hl := lv_entry ([.ref a, .int mostLevel]) (n := 2) (Nat.le_of_ble_eq_true rfl)
  rw [lg_entry_eq]
  generalize (lg_sl ([.ref a, .int mostLevel]) ++ List.replicate (2 - (lg_sl ([.ref a, .int mostLevel])).length) Slot.unset).toArray = ls at hl ⊢
  have hl : lv_has ls 2 [(0, .ref a), (1, .int mostLevel)] := hl
  refine gq (fun Q hQ => ?_)
  obtain ⟨H, hH⟩ : ∃ H : Heap, H = s.heap := ⟨_, rfl⟩
  rw [← hH] at hP
  have hS : va_S A s.heap H [] := by rw [hH]; exact hS
  refine W.eqH hH ?_
  obtain ⟨locs, hlc⟩ : ∃ L : List Loc, L = [] := ⟨_, rfl⟩
  rw [← hlc] at hS ⊢
  unfold p_Open_beginWith at hok
  refine lv_aload_n hx hb d_Open_beginWith_0 rfl (lv_at hl 0 rfl) ?_
  refine lv_iload_n hx hb d_Open_beginWith_1 rfl (lv_at hl 1 rfl) ?_
  refine va_put (D := g) (ci := 3) (v := .int mostLevel) (ty := .int) (C := R_Open) (T := F_Open) (N := 6) hx hb hg ul_Open t_Open tk_Open n_Open hown hK hP hD hS 0 rfl rfl 0 (by decide) (hg _ wd_434) (fun _ h9 => h9) rfl (by decide +kernel) rfl rfl (Nat.le_of_ble_eq_true rfl) d_Open_beginWith_2 (fun H locs hP hD hS => ?_)
  obtain ⟨hP, hD⟩ : PD g A H [(a, .inr (3, [.int mostLevel, .int a_level, .int a_awaits, .int a_name, .int a_nameLevel, .int a_parts]))] := ⟨hP, hD⟩
  refine lv_aload_n hx hb d_Open_beginWith_5 rfl (lv_at hl 0 rfl) ?_
  refine lv_iconst (v := 0) hx hb d_Open_beginWith_6 (by decide) ?_
  refine va_put (D := g) (ci := 3) (v := .int 0) (ty := .int) (C := R_Open) (T := F_Open) (N := 6) hx hb hg ul_Open t_Open tk_Open n_Open hown hK hP hD hS 0 rfl rfl 1 (by decide) (hg _ wd_435) (fun _ h9 => h9) rfl (by decide +kernel) rfl rfl (Nat.le_of_ble_eq_true rfl) d_Open_beginWith_7 (fun H locs hP hD hS => ?_)
  obtain ⟨hP, hD⟩ : PD g A H [(a, .inr (3, [.int mostLevel, .int 0, .int a_awaits, .int a_name, .int a_nameLevel, .int a_parts]))] := ⟨hP, hD⟩
  refine lv_aload_n hx hb d_Open_beginWith_10 rfl (lv_at hl 0 rfl) ?_
  refine lv_iconst (v := 0) hx hb d_Open_beginWith_11 (by decide) ?_
  refine va_put (D := g) (ci := 3) (v := .int 0) (ty := .int) (C := R_Open) (T := F_Open) (N := 6) hx hb hg ul_Open t_Open tk_Open n_Open hown hK hP hD hS 0 rfl rfl 2 (by decide) (hg _ wd_436) (fun _ h9 => h9) rfl (by decide +kernel) rfl rfl (Nat.le_of_ble_eq_true rfl) d_Open_beginWith_12 (fun H locs hP hD hS => ?_)
  obtain ⟨hP, hD⟩ : PD g A H [(a, .inr (3, [.int mostLevel, .int 0, .int 0, .int a_name, .int a_nameLevel, .int a_parts]))] := ⟨hP, hD⟩
  refine lv_aload_n hx hb d_Open_beginWith_15 rfl (lv_at hl 0 rfl) ?_
  refine lv_iconst (v := 0) hx hb d_Open_beginWith_16 (by decide) ?_
  refine va_put (D := g) (ci := 3) (v := .int 0) (ty := .int) (C := R_Open) (T := F_Open) (N := 6) hx hb hg ul_Open t_Open tk_Open n_Open hown hK hP hD hS 0 rfl rfl 5 (by decide) (hg _ wd_439) (fun _ h9 => h9) rfl (by decide +kernel) rfl rfl (Nat.le_of_ble_eq_true rfl) d_Open_beginWith_17 (fun H locs hP hD hS => ?_)
  obtain ⟨hP, hD⟩ : PD g A H [(a, .inr (3, [.int mostLevel, .int 0, .int 0, .int a_name, .int a_nameLevel, .int 0]))] := ⟨hP, hD⟩
  have hq := Option.some.inj hok
  obtain ⟨hq0, hq⟩ := Prod.mk.inj hq
  obtain ⟨hq1, hq⟩ := Prod.mk.inj hq
  obtain ⟨hq2, hq⟩ := Prod.mk.inj hq
  have hq3 := hq
  subst hq0
  subst hq1
  subst hq2
  subst hq3
  obtain ⟨hP9, hD9⟩ := sub2 (ws' := [(a, .inr (3, [.int mostLevel, .int 0, .int 0, .int a_name, .int a_nameLevel, .int 0]))]) hP hD [0] rfl (by decide) rfl
  rw [hQ]
  exact W.vret hx hb hr (fun t ht hW => ⟨⟨(), rfl, trivial, by rw [ht]; exact hP9, hD9⟩, hS.F ht⟩) hS.2.2 d_Open_beginWith_20

theorem d_Open_awaitOperand_0 : decode b_Open_awaitOperand 0 = .ok (.aload_n 0, 1) := by decide +kernel
theorem d_Open_awaitOperand_1 : decode b_Open_awaitOperand 1 = .ok (.iload_n 1, 1) := by decide +kernel
theorem d_Open_awaitOperand_2 : decode b_Open_awaitOperand 2 = .ok (.putfield 16, 3) := by decide +kernel
theorem d_Open_awaitOperand_5 : decode b_Open_awaitOperand 5 = .ok (.aload_n 0, 1) := by decide +kernel
theorem d_Open_awaitOperand_6 : decode b_Open_awaitOperand 6 = .ok (.iload_n 2, 1) := by decide +kernel
theorem d_Open_awaitOperand_7 : decode b_Open_awaitOperand 7 = .ok (.putfield 19, 3) := by decide +kernel
theorem d_Open_awaitOperand_10 : decode b_Open_awaitOperand 10 = .ok (.aload_n 0, 1) := by decide +kernel
theorem d_Open_awaitOperand_11 : decode b_Open_awaitOperand 11 = .ok (.iload_n 3, 1) := by decide +kernel
theorem d_Open_awaitOperand_12 : decode b_Open_awaitOperand 12 = .ok (.putfield 22, 3) := by decide +kernel
theorem d_Open_awaitOperand_15 : decode b_Open_awaitOperand 15 = .ok (.return_, 1) := by decide +kernel
def p_Open_awaitOperand (kind : Int32) (operator : Int32) (operatorLevel : Int32) (a_most : Int32) (a_level : Int32) (a_awaits : Int32) (a_name : Int32) (a_nameLevel : Int32) (a_parts : Int32) : Option (Int32 × Int32 × Int32) := some (kind, operator, operatorLevel)
set_option maxHeartbeats 4000000 in
set_option maxRecDepth 100000 in
theorem c_Open_awaitOperand (l : Launch) (g : va_G) (cs : Nat → ClassId) (ka : Nat → Nat) (a : Nat) (sz : Nat) (kind : Int32) (operator : Int32) (operatorLevel : Int32) (a_most : Int32) (a_level : Int32) (a_awaits : Int32) (a_name : Int32) (a_nameLevel : Int32) (a_parts : Int32) (o_a_awaits : Int32) (o_a_name : Int32) (o_a_nameLevel : Int32) (hok : p_Open_awaitOperand kind operator operatorLevel a_most a_level a_awaits a_name a_nameLevel a_parts = some (o_a_awaits, o_a_name, o_a_nameLevel)) : Met l y_Open_awaitOperand (.code y_Open_awaitOperand b_Open_awaitOperand 4 none :: GW) { frames := 0, cells := 0, slots := 0, locals := 0 } (va_Pc [.ref a, .int kind, .int operator, .int operatorLevel] (gP g cs ka [(a, .inr (3, [.int a_most, .int a_level, .int a_awaits, .int a_name, .int a_nameLevel, .int a_parts]))] sz)) (va_Qv (fun _ : Unit => True) (fun _ t => va_P g classes [(a, .inr (3, [.int a_most, .int a_level, .int o_a_awaits, .int o_a_name, .int o_a_nameLevel, .int a_parts]))] t.heap ∧ va_D (va_A [(a, .inr (3, [.int a_most, .int a_level, .int a_awaits, .int a_name, .int a_nameLevel, .int a_parts]))] sz) [(a, .inr (3, [.int a_most, .int a_level, .int o_a_awaits, .int o_a_name, .int o_a_nameLevel, .int a_parts]))]) (va_A [(a, .inr (3, [.int a_most, .int a_level, .int a_awaits, .int a_name, .int a_nameLevel, .int a_parts]))] sz)) 0 0 (va_A [(a, .inr (3, [.int a_most, .int a_level, .int a_awaits, .int a_name, .int a_nameLevel, .int a_parts]))] sz) := by
  refine Met.ofW (cc := b_Open_awaitOperand) (maxL := 4) (ret := none) (by decide) rfl ?_
  intro p e s m args below meth c s₁ B hml hv
  obtain ⟨rfl, hsz, hP, hK, hD0, hgl, hkn, hkr⟩ := hv
  have hx := B.exec
  have hb := B.bytes
  have hr := B.returns
  have hg : ∀ w ∈ GW, w.before ([.ref a, .int kind, .int operator, .int operatorLevel] : List Value).toArray s = true := fun w hw => atoms_spec (ws := .code y_Open_awaitOperand b_Open_awaitOperand 4 none :: GW) B.pre w (List.mem_cons_of_mem _ hw)
  have hown : s.vm.findClass R_Open = some m.cls := findClass_of_methodNamed B.named
  have hlocks := B.notSynchronized
  subst hsz
  have hD := hD0.self (sz := s.heap.size)
  generalize hAe : va_A [(a, .inr (3, [.int a_most, .int a_level, .int a_awaits, .int a_name, .int a_nameLevel, .int a_parts]))] s.heap.size = A at hD hkn ⊢
  have hA : ∀ q : Nat, s.heap.size ≤ q → A q := fun q h => by rw [← hAe]; exact Or.inr h
  have hS : va_S A s.heap s.heap [] := va_S.rf
  have hP : va_P g classes [(a, .inr (3, [.int a_most, .int a_level, .int a_awaits, .int a_name, .int a_nameLevel, .int a_parts]))] s.heap := hP
  have hl := lv_entry ([.ref a, .int kind, .int operator, .int operatorLevel]) (n := 4) (Nat.le_of_ble_eq_true rfl)
  rw [lg_entry_eq]
  generalize (lg_sl ([.ref a, .int kind, .int operator, .int operatorLevel]) ++ List.replicate (4 - (lg_sl ([.ref a, .int kind, .int operator, .int operatorLevel])).length) Slot.unset).toArray = ls at hl ⊢
  have hl : lv_has ls 4 [(0, .ref a), (1, .int kind), (2, .int operator), (3, .int operatorLevel)] := hl
  refine gq (fun Q hQ => ?_)
  obtain ⟨H, hH⟩ : ∃ H : Heap, H = s.heap := ⟨_, rfl⟩
  rw [← hH] at hP
  have hS : va_S A s.heap H [] := by rw [hH]; exact hS
  refine W.eqH hH ?_
  obtain ⟨locs, hlc⟩ : ∃ L : List Loc, L = [] := ⟨_, rfl⟩
  rw [← hlc] at hS ⊢
  unfold p_Open_awaitOperand at hok
  refine lv_aload_n hx hb d_Open_awaitOperand_0 rfl (lv_at hl 0 rfl) ?_
  refine lv_iload_n hx hb d_Open_awaitOperand_1 rfl (lv_at hl 1 rfl) ?_
  refine va_put (D := g) (ci := 3) (v := .int kind) (ty := .int) (C := R_Open) (T := F_Open) (N := 6) hx hb hg ul_Open t_Open tk_Open n_Open hown hK hP hD hS 0 rfl rfl 2 (by decide) (hg _ wd_436) (fun _ h9 => h9) rfl (by decide +kernel) rfl rfl (Nat.le_of_ble_eq_true rfl) d_Open_awaitOperand_2 (fun H locs hP hD hS => ?_)
  obtain ⟨hP, hD⟩ : PD g A H [(a, .inr (3, [.int a_most, .int a_level, .int kind, .int a_name, .int a_nameLevel, .int a_parts]))] := ⟨hP, hD⟩
  refine lv_aload_n hx hb d_Open_awaitOperand_5 rfl (lv_at hl 0 rfl) ?_
  refine lv_iload_n hx hb d_Open_awaitOperand_6 rfl (lv_at hl 2 rfl) ?_
  refine va_put (D := g) (ci := 3) (v := .int operator) (ty := .int) (C := R_Open) (T := F_Open) (N := 6) hx hb hg ul_Open t_Open tk_Open n_Open hown hK hP hD hS 0 rfl rfl 3 (by decide) (hg _ wd_437) (fun _ h9 => h9) rfl (by decide +kernel) rfl rfl (Nat.le_of_ble_eq_true rfl) d_Open_awaitOperand_7 (fun H locs hP hD hS => ?_)
  obtain ⟨hP, hD⟩ : PD g A H [(a, .inr (3, [.int a_most, .int a_level, .int kind, .int operator, .int a_nameLevel, .int a_parts]))] := ⟨hP, hD⟩
  refine lv_aload_n hx hb d_Open_awaitOperand_10 rfl (lv_at hl 0 rfl) ?_
  refine lv_iload_n hx hb d_Open_awaitOperand_11 rfl (lv_at hl 3 rfl) ?_
  refine va_put (D := g) (ci := 3) (v := .int operatorLevel) (ty := .int) (C := R_Open) (T := F_Open) (N := 6) hx hb hg ul_Open t_Open tk_Open n_Open hown hK hP hD hS 0 rfl rfl 4 (by decide) (hg _ wd_438) (fun _ h9 => h9) rfl (by decide +kernel) rfl rfl (Nat.le_of_ble_eq_true rfl) d_Open_awaitOperand_12 (fun H locs hP hD hS => ?_)
  obtain ⟨hP, hD⟩ : PD g A H [(a, .inr (3, [.int a_most, .int a_level, .int kind, .int operator, .int operatorLevel, .int a_parts]))] := ⟨hP, hD⟩
  have hq := Option.some.inj hok
  obtain ⟨hq0, hq⟩ := Prod.mk.inj hq
  obtain ⟨hq1, hq⟩ := Prod.mk.inj hq
  have hq2 := hq
  subst hq0
  subst hq1
  subst hq2
  obtain ⟨hP9, hD9⟩ := sub2 (ws' := [(a, .inr (3, [.int a_most, .int a_level, .int kind, .int operator, .int operatorLevel, .int a_parts]))]) hP hD [0] rfl (by decide) rfl
  rw [hQ]
  exact W.vret hx hb hr (fun t ht hW => ⟨⟨(), rfl, trivial, by rw [ht]; exact hP9, hD9⟩, hS.F ht⟩) hS.2.2 d_Open_awaitOperand_15

theorem d_Open_awaitPart_0 : decode b_Open_awaitPart 0 = .ok (.aload_n 0, 1) := by decide +kernel
theorem d_Open_awaitPart_1 : decode b_Open_awaitPart 1 = .ok (.iload_n 1, 1) := by decide +kernel
theorem d_Open_awaitPart_2 : decode b_Open_awaitPart 2 = .ok (.putfield 16, 3) := by decide +kernel
theorem d_Open_awaitPart_5 : decode b_Open_awaitPart 5 = .ok (.aload_n 0, 1) := by decide +kernel
theorem d_Open_awaitPart_6 : decode b_Open_awaitPart 6 = .ok (.iload_n 2, 1) := by decide +kernel
theorem d_Open_awaitPart_7 : decode b_Open_awaitPart 7 = .ok (.putfield 19, 3) := by decide +kernel
theorem d_Open_awaitPart_10 : decode b_Open_awaitPart 10 = .ok (.aload_n 0, 1) := by decide +kernel
theorem d_Open_awaitPart_11 : decode b_Open_awaitPart 11 = .ok (.iconst 1, 1) := by decide +kernel
theorem d_Open_awaitPart_12 : decode b_Open_awaitPart 12 = .ok (.putfield 25, 3) := by decide +kernel
theorem d_Open_awaitPart_15 : decode b_Open_awaitPart 15 = .ok (.return_, 1) := by decide +kernel
def p_Open_awaitPart (kind : Int32) (compoundName : Int32) (a_most : Int32) (a_level : Int32) (a_awaits : Int32) (a_name : Int32) (a_nameLevel : Int32) (a_parts : Int32) : Option (Int32 × Int32 × Int32) := some (kind, compoundName, (1 : Int32))
set_option maxHeartbeats 4000000 in
set_option maxRecDepth 100000 in
theorem c_Open_awaitPart (l : Launch) (g : va_G) (cs : Nat → ClassId) (ka : Nat → Nat) (a : Nat) (sz : Nat) (kind : Int32) (compoundName : Int32) (a_most : Int32) (a_level : Int32) (a_awaits : Int32) (a_name : Int32) (a_nameLevel : Int32) (a_parts : Int32) (o_a_awaits : Int32) (o_a_name : Int32) (o_a_parts : Int32) (hok : p_Open_awaitPart kind compoundName a_most a_level a_awaits a_name a_nameLevel a_parts = some (o_a_awaits, o_a_name, o_a_parts)) : Met l y_Open_awaitPart (.code y_Open_awaitPart b_Open_awaitPart 3 none :: GW) { frames := 0, cells := 0, slots := 0, locals := 0 } (va_Pc [.ref a, .int kind, .int compoundName] (gP g cs ka [(a, .inr (3, [.int a_most, .int a_level, .int a_awaits, .int a_name, .int a_nameLevel, .int a_parts]))] sz)) (va_Qv (fun _ : Unit => True) (fun _ t => va_P g classes [(a, .inr (3, [.int a_most, .int a_level, .int o_a_awaits, .int o_a_name, .int a_nameLevel, .int o_a_parts]))] t.heap ∧ va_D (va_A [(a, .inr (3, [.int a_most, .int a_level, .int a_awaits, .int a_name, .int a_nameLevel, .int a_parts]))] sz) [(a, .inr (3, [.int a_most, .int a_level, .int o_a_awaits, .int o_a_name, .int a_nameLevel, .int o_a_parts]))]) (va_A [(a, .inr (3, [.int a_most, .int a_level, .int a_awaits, .int a_name, .int a_nameLevel, .int a_parts]))] sz)) 0 0 (va_A [(a, .inr (3, [.int a_most, .int a_level, .int a_awaits, .int a_name, .int a_nameLevel, .int a_parts]))] sz) := by
  refine Met.ofW (cc := b_Open_awaitPart) (maxL := 3) (ret := none) (by decide) rfl ?_
  intro p e s m args below meth c s₁ B hml hv
  obtain ⟨rfl, hsz, hP, hK, hD0, hgl, hkn, hkr⟩ := hv
  have hx := B.exec
  have hb := B.bytes
  have hr := B.returns
  have hg : ∀ w ∈ GW, w.before ([.ref a, .int kind, .int compoundName] : List Value).toArray s = true := fun w hw => atoms_spec (ws := .code y_Open_awaitPart b_Open_awaitPart 3 none :: GW) B.pre w (List.mem_cons_of_mem _ hw)
  have hown : s.vm.findClass R_Open = some m.cls := findClass_of_methodNamed B.named
  have hlocks := B.notSynchronized
  subst hsz
  have hD := hD0.self (sz := s.heap.size)
  generalize hAe : va_A [(a, .inr (3, [.int a_most, .int a_level, .int a_awaits, .int a_name, .int a_nameLevel, .int a_parts]))] s.heap.size = A at hD hkn ⊢
  have hA : ∀ q : Nat, s.heap.size ≤ q → A q := fun q h => by rw [← hAe]; exact Or.inr h
  have hS : va_S A s.heap s.heap [] := va_S.rf
  have hP : va_P g classes [(a, .inr (3, [.int a_most, .int a_level, .int a_awaits, .int a_name, .int a_nameLevel, .int a_parts]))] s.heap := hP
  have hl := lv_entry ([.ref a, .int kind, .int compoundName]) (n := 3) (Nat.le_of_ble_eq_true rfl)
  rw [lg_entry_eq]
  generalize (lg_sl ([.ref a, .int kind, .int compoundName]) ++ List.replicate (3 - (lg_sl ([.ref a, .int kind, .int compoundName])).length) Slot.unset).toArray = ls at hl ⊢
  have hl : lv_has ls 3 [(0, .ref a), (1, .int kind), (2, .int compoundName)] := hl
  refine gq (fun Q hQ => ?_)
  obtain ⟨H, hH⟩ : ∃ H : Heap, H = s.heap := ⟨_, rfl⟩
  rw [← hH] at hP
  have hS : va_S A s.heap H [] := by rw [hH]; exact hS
  refine W.eqH hH ?_
  obtain ⟨locs, hlc⟩ : ∃ L : List Loc, L = [] := ⟨_, rfl⟩
  rw [← hlc] at hS ⊢
  unfold p_Open_awaitPart at hok
  refine lv_aload_n hx hb d_Open_awaitPart_0 rfl (lv_at hl 0 rfl) ?_
  refine lv_iload_n hx hb d_Open_awaitPart_1 rfl (lv_at hl 1 rfl) ?_
  refine va_put (D := g) (ci := 3) (v := .int kind) (ty := .int) (C := R_Open) (T := F_Open) (N := 6) hx hb hg ul_Open t_Open tk_Open n_Open hown hK hP hD hS 0 rfl rfl 2 (by decide) (hg _ wd_436) (fun _ h9 => h9) rfl (by decide +kernel) rfl rfl (Nat.le_of_ble_eq_true rfl) d_Open_awaitPart_2 (fun H locs hP hD hS => ?_)
  obtain ⟨hP, hD⟩ : PD g A H [(a, .inr (3, [.int a_most, .int a_level, .int kind, .int a_name, .int a_nameLevel, .int a_parts]))] := ⟨hP, hD⟩
  refine lv_aload_n hx hb d_Open_awaitPart_5 rfl (lv_at hl 0 rfl) ?_
  refine lv_iload_n hx hb d_Open_awaitPart_6 rfl (lv_at hl 2 rfl) ?_
  refine va_put (D := g) (ci := 3) (v := .int compoundName) (ty := .int) (C := R_Open) (T := F_Open) (N := 6) hx hb hg ul_Open t_Open tk_Open n_Open hown hK hP hD hS 0 rfl rfl 3 (by decide) (hg _ wd_437) (fun _ h9 => h9) rfl (by decide +kernel) rfl rfl (Nat.le_of_ble_eq_true rfl) d_Open_awaitPart_7 (fun H locs hP hD hS => ?_)
  obtain ⟨hP, hD⟩ : PD g A H [(a, .inr (3, [.int a_most, .int a_level, .int kind, .int compoundName, .int a_nameLevel, .int a_parts]))] := ⟨hP, hD⟩
  refine lv_aload_n hx hb d_Open_awaitPart_10 rfl (lv_at hl 0 rfl) ?_
  refine lv_iconst (v := 1) hx hb d_Open_awaitPart_11 (by decide) ?_
  refine va_put (D := g) (ci := 3) (v := .int 1) (ty := .int) (C := R_Open) (T := F_Open) (N := 6) hx hb hg ul_Open t_Open tk_Open n_Open hown hK hP hD hS 0 rfl rfl 5 (by decide) (hg _ wd_439) (fun _ h9 => h9) rfl (by decide +kernel) rfl rfl (Nat.le_of_ble_eq_true rfl) d_Open_awaitPart_12 (fun H locs hP hD hS => ?_)
  obtain ⟨hP, hD⟩ : PD g A H [(a, .inr (3, [.int a_most, .int a_level, .int kind, .int compoundName, .int a_nameLevel, .int 1]))] := ⟨hP, hD⟩
  have hq := Option.some.inj hok
  obtain ⟨hq0, hq⟩ := Prod.mk.inj hq
  obtain ⟨hq1, hq⟩ := Prod.mk.inj hq
  have hq2 := hq
  subst hq0
  subst hq1
  subst hq2
  obtain ⟨hP9, hD9⟩ := sub2 (ws' := [(a, .inr (3, [.int a_most, .int a_level, .int kind, .int compoundName, .int a_nameLevel, .int 1]))]) hP hD [0] rfl (by decide) rfl
  rw [hQ]
  exact W.vret hx hb hr (fun t ht hW => ⟨⟨(), rfl, trivial, by rw [ht]; exact hP9, hD9⟩, hS.F ht⟩) hS.2.2 d_Open_awaitPart_15
