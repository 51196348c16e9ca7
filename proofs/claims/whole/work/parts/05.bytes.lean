theorem wd_209 : ((.arrayClass .byte) : Cond) ∈ GW := gw_1 56 (by decide +kernel) rfl
theorem wd_210 : ((.methodLink "UnifyBench$Bytes" 1 y_Object_init) : Cond) ∈ GW := gw_1 48 (by decide +kernel) rfl
theorem wd_211 : ((.fieldLink "UnifyBench$Bytes" 7 "UnifyBench$Bytes" "items" "[B") : Cond) ∈ GW := gw_1 49 (by decide +kernel) rfl
theorem wd_212 : ((.fieldLink "UnifyBench$Bytes" 13 "UnifyBench$Bytes" "size" "I") : Cond) ∈ GW := gw_1 50 (by decide +kernel) rfl
theorem wd_213 : ((.code y_Arrays_copyOf_aBI prog_34_method_121_code 3 (some (.array .byte))) : Cond) ∈ GW := gw_1 152 (by decide +kernel) rfl
theorem wd_214 : ((.methodLink "UnifyBench$Bytes" 17 y_Arrays_copyOf_aBI) : Cond) ∈ GW := gw_3 107 (by decide +kernel) rfl
theorem wd_215 : ((.static y_Arrays_copyOf_aBI) : Cond) ∈ GW := gw_1 151 (by decide +kernel) rfl
theorem wd_216 : ((.code y_Letters_isSmall prog_5_method_4_code 1 (some .boolean)) : Cond) ∈ GW := gw_3 205 (by decide +kernel) rfl
theorem wd_217 : ((.initialized "UnifyBench$Letters") : Cond) ∈ GW := gw_1 31 (by decide +kernel) rfl
theorem wd_218 : ((.methodLink "UnifyBench$Letters" 7 y_Letters_isSmall) : Cond) ∈ GW := gw_3 203 (by decide +kernel) rfl
theorem wd_219 : ((.static y_Letters_isSmall) : Cond) ∈ GW := gw_3 204 (by decide +kernel) rfl
theorem wd_220 : ((.code y_Letters_beginsVariable prog_5_method_5_code 1 (some .boolean)) : Cond) ∈ GW := gw_3 195 (by decide +kernel) rfl
theorem wd_221 : ((.methodLink "UnifyBench$Letters" 13 y_Letters_beginsVariable) : Cond) ∈ GW := gw_3 206 (by decide +kernel) rfl
theorem wd_222 : ((.static y_Letters_beginsVariable) : Cond) ∈ GW := gw_3 194 (by decide +kernel) rfl
theorem wd_223 : ((.code y_Letters_isDigit prog_5_method_3_code 1 (some .boolean)) : Cond) ∈ GW := gw_3 209 (by decide +kernel) rfl
theorem wd_224 : ((.methodLink "UnifyBench$Letters" 16 y_Letters_isDigit) : Cond) ∈ GW := gw_3 207 (by decide +kernel) rfl
theorem wd_225 : ((.static y_Letters_isDigit) : Cond) ∈ GW := gw_3 208 (by decide +kernel) rfl
theorem d_Arrays_copyOf_aBI_0 : decode b_Arrays_copyOf_aBI 0 = .ok (.iload_n 1, 1) := by decide +kernel
theorem d_Arrays_copyOf_aBI_1 : decode b_Arrays_copyOf_aBI 1 = .ok (.aload_n 0, 1) := by decide +kernel
theorem d_Arrays_copyOf_aBI_2 : decode b_Arrays_copyOf_aBI 2 = .ok (.arraylength, 1) := by decide +kernel
theorem d_Arrays_copyOf_aBI_3 : decode b_Arrays_copyOf_aBI 3 = .ok (.if_icmp .ne 11, 3) := by decide +kernel
theorem d_Arrays_copyOf_aBI_14 : decode b_Arrays_copyOf_aBI 14 = .ok (.iload_n 1, 1) := by decide +kernel
theorem d_Arrays_copyOf_aBI_15 : decode b_Arrays_copyOf_aBI 15 = .ok (.newarray .byte, 2) := by decide +kernel
theorem d_Arrays_copyOf_aBI_17 : decode b_Arrays_copyOf_aBI 17 = .ok (.astore_n 2, 1) := by decide +kernel
theorem d_Arrays_copyOf_aBI_18 : decode b_Arrays_copyOf_aBI 18 = .ok (.aload_n 0, 1) := by decide +kernel
theorem d_Arrays_copyOf_aBI_19 : decode b_Arrays_copyOf_aBI 19 = .ok (.iconst 0, 1) := by decide +kernel
theorem d_Arrays_copyOf_aBI_20 : decode b_Arrays_copyOf_aBI 20 = .ok (.aload_n 2, 1) := by decide +kernel
theorem d_Arrays_copyOf_aBI_21 : decode b_Arrays_copyOf_aBI 21 = .ok (.iconst 0, 1) := by decide +kernel
theorem d_Arrays_copyOf_aBI_22 : decode b_Arrays_copyOf_aBI 22 = .ok (.aload_n 0, 1) := by decide +kernel
theorem d_Arrays_copyOf_aBI_23 : decode b_Arrays_copyOf_aBI 23 = .ok (.arraylength, 1) := by decide +kernel
theorem d_Arrays_copyOf_aBI_24 : decode b_Arrays_copyOf_aBI 24 = .ok (.iload_n 1, 1) := by decide +kernel
theorem d_Arrays_copyOf_aBI_25 : decode b_Arrays_copyOf_aBI 25 = .ok (.invokestatic 304, 3) := by decide +kernel
theorem d_Arrays_copyOf_aBI_28 : decode b_Arrays_copyOf_aBI 28 = .ok (.invokestatic 150, 3) := by decide +kernel
theorem d_Arrays_copyOf_aBI_31 : decode b_Arrays_copyOf_aBI 31 = .ok (.aload_n 2, 1) := by decide +kernel
theorem d_Arrays_copyOf_aBI_32 : decode b_Arrays_copyOf_aBI 32 = .ok (.areturn, 1) := by decide +kernel
def p_Arrays_copyOf_aBI (v : Int32) (b_n : Nat) (b_f : Nat → Int32) : Option ((Nat × (Nat → Int32)) × Nat × Nat) := if v = (Int32.ofNat b_n) then (none) else (ck (nab v 1) (al 1 v.toNatClampNeg (ck (cpb (0 : Int32) (0 : Int32) (if v < (Int32.ofNat b_n) then v else (Int32.ofNat b_n)) b_n v.toNatClampNeg) (ck (bfit b_f (0 : Int32).toNatClampNeg (if v < (Int32.ofNat b_n) then v else (Int32.ofNat b_n)).toNatClampNeg) (some ((v.toNatClampNeg, va_cpy b_f (fun _ => 0) (0 : Int32).toNatClampNeg (0 : Int32).toNatClampNeg (if v < (Int32.ofNat b_n) then v else (Int32.ofNat b_n)).toNatClampNeg), 0, 0))))))
set_option maxHeartbeats 4000000 in
set_option maxRecDepth 100000 in
theorem c_Arrays_copyOf_aBI (l : Launch) (g : va_G) (cs : Nat → ClassId) (ka : Nat → Nat) (b : Nat) (sz : Nat) (v : Int32) (b_n : Nat) (b_f : Nat → Int32) (o_ret_n : Nat) (o_ret_f : Nat → Int32) (mc ms : Nat) (hok : p_Arrays_copyOf_aBI v b_n b_f = some ((o_ret_n, o_ret_f), mc, ms)) : Met l y_Arrays_copyOf_aBI (.code y_Arrays_copyOf_aBI b_Arrays_copyOf_aBI 3 (some (.array .byte)) :: GW) { frames := 1, cells := mc, slots := ms, locals := 100 } (va_Pc [.ref b, .int v] (gP g cs ka [(b, .inl (cs 1, b_n, .inl b_f))] sz)) (va_Qr (fun _ : Unit => True) (fun _ ra t => ∃ b_ret : Nat, b_ret = ra ∧ va_P g classes [(b, .inl (cs 1, b_n, .inl b_f)), (b_ret, .inl (cs 1, o_ret_n, .inl o_ret_f))] t.heap ∧ va_D (va_A [(b, .inl (cs 1, b_n, .inl b_f))] sz) [(b, .inl (cs 1, b_n, .inl b_f)), (b_ret, .inl (cs 1, o_ret_n, .inl o_ret_f))]) (va_A [(b, .inl (cs 1, b_n, .inl b_f))] sz)) mc ms (va_A [(b, .inl (cs 1, b_n, .inl b_f))] sz) := by
  refine Met.ofW (cc := b_Arrays_copyOf_aBI) (maxL := 3) (ret := (some (.array .byte))) (by decide) rfl ?_
  intro p e s m args below meth c s₁ B hml hv
  obtain ⟨rfl, hsz, hP, hK, hD0, hgl, hkn, hkr⟩ := hv
  have hx := B.exec
  have hb := B.bytes
  have hr := B.returns
  have hg : ∀ w ∈ GW, w.before ([.ref b, .int v] : List Value).toArray s = true := fun w hw => atoms_spec (ws := .code y_Arrays_copyOf_aBI b_Arrays_copyOf_aBI 3 (some (.array .byte)) :: GW) B.pre w (List.mem_cons_of_mem _ hw)
  have hown : s.vm.findClass R_Arrays = some m.cls := findClass_of_methodNamed B.named
  have hlocks := B.notSynchronized
  subst hsz
  have hD := hD0.self (sz := s.heap.size)
  generalize hAe : va_A [(b, .inl (cs 1, b_n, .inl b_f))] s.heap.size = A at hD hkn ⊢
  have hA : ∀ q : Nat, s.heap.size ≤ q → A q := fun q h => by rw [← hAe]; exact Or.inr h
  have hS : va_S A s.heap s.heap [] := va_S.rf
  have hP : va_P g classes [(b, .inl (cs 1, b_n, .inl b_f))] s.heap := hP
  have hl := lv_entry ([.ref b, .int v]) (n := 3) (Nat.le_of_ble_eq_true rfl)
  rw [lg_entry_eq]
  generalize (lg_sl ([.ref b, .int v]) ++ List.replicate (3 - (lg_sl ([.ref b, .int v])).length) Slot.unset).toArray = ls at hl ⊢
  have hl : lv_has ls 3 [(0, .ref b), (1, .int v)] := hl
  refine gq (fun Q hQ => ?_)
  obtain ⟨H, hH⟩ : ∃ H : Heap, H = s.heap := ⟨_, rfl⟩
  rw [← hH] at hP
  have hS : va_S A s.heap H [] := by rw [hH]; exact hS
  refine W.eqH hH ?_
  obtain ⟨locs, hlc⟩ : ∃ L : List Loc, L = [] := ⟨_, rfl⟩
  rw [← hlc] at hS ⊢
  unfold p_Arrays_copyOf_aBI at hok
  refine lv_iload_n hx hb d_Arrays_copyOf_aBI_0 rfl (lv_at hl 1 rfl) ?_
  refine lv_aload_n hx hb d_Arrays_copyOf_aBI_1 rfl (lv_at hl 0 rfl) ?_
  refine va_alen (v := Int32.ofNat b_n) hx hb hK hP 0 1 rfl rfl rfl d_Arrays_copyOf_aBI_2 ?_
  refine lv_icmp_ne hx hb d_Arrays_copyOf_aBI_3 rfl (fun h1 => ?_) (fun h1 => ?_)
  · rw [if_neg h1] at hok
    refine lv_iload_n hx hb d_Arrays_copyOf_aBI_14 rfl (lv_at hl 1 rfl) ?_
    obtain ⟨hi2, hok⟩ := ck_some hok
    obtain ⟨m2, s2, hok, hmc2, hms2⟩ := al_some hok
    refine g_newB hx hb (hg _ wd_209) hK hP hD hS hA (v.toNatClampNeg) (nab_in hi2).1 rfl (nab_in hi2).2 (show 0 + 1 ≤ mc from by omega) (show 0 + v.toNatClampNeg ≤ ms from by omega) d_Arrays_copyOf_aBI_15 (fun q2 H hP hD hS => ?_)
    obtain ⟨hP, hD⟩ : PD g A H [(b, .inl (cs 1, b_n, .inl b_f)), (q2, .inl (cs 1, v.toNatClampNeg, .inl (fun _ => 0)))] := ⟨hP, hD⟩
    refine lv_astore_n hx hb d_Arrays_copyOf_aBI_17 rfl hl (by decide) rfl (fun ls hl => ?_)
    have hl : lv_has ls 3 [(2, .ref q2), (0, .ref b), (1, .int v)] := hl
    refine lv_aload_n hx hb d_Arrays_copyOf_aBI_18 rfl (lv_at hl 1 rfl) ?_
    refine lv_iconst (v := 0) hx hb d_Arrays_copyOf_aBI_19 (by decide) ?_
    refine lv_aload_n hx hb d_Arrays_copyOf_aBI_20 rfl (lv_at hl 0 rfl) ?_
    refine lv_iconst (v := 0) hx hb d_Arrays_copyOf_aBI_21 (by decide) ?_
    refine lv_aload_n hx hb d_Arrays_copyOf_aBI_22 rfl (lv_at hl 1 rfl) ?_
    refine va_alen (v := Int32.ofNat b_n) hx hb hK hP 0 1 rfl rfl rfl d_Arrays_copyOf_aBI_23 ?_
    refine lv_iload_n hx hb d_Arrays_copyOf_aBI_24 rfl (lv_at hl 2 rfl) ?_
    refine va_mmin hx hb (hml.trans hl.1.symm) hown (hg _ wd_143) (hg _ wd_144) (hg _ wd_145) (hg _ wd_146) (Nat.le_of_ble_eq_true rfl) (Nat.le_of_ble_eq_true rfl) (show 0 + 1 ≤ mc from by omega) (show 0 + v.toNatClampNeg ≤ ms from by omega) d_Arrays_copyOf_aBI_25 ?_
    obtain ⟨hi3, hok⟩ := ck_some hok
    obtain ⟨hf3, hok⟩ := ck_some hok
    obtain ⟨ha3, hb3, hc3, hd3, he3⟩ := cpb_in hi3
    refine va_copyi hx hb (hml.trans hl.1.symm) hown (hg _ wd_147) (hg _ wd_148) (hg _ wd_149) (hg _ wd_150) hK hP hD hS 0 1 1 1 rfl rfl rfl rfl rfl ha3 hb3 hc3 hd3 he3 (bfit_in hf3) (Nat.le_of_ble_eq_true rfl) (Nat.le_of_ble_eq_true rfl) d_Arrays_copyOf_aBI_28 (fun H locs hP hD hS => ?_)
    obtain ⟨hP, hD⟩ : PD g A H [(b, .inl (cs 1, b_n, .inl b_f)), (q2, .inl (cs 1, v.toNatClampNeg, .inl (va_cpy b_f (fun _ => 0) (0 : Int32).toNatClampNeg (0 : Int32).toNatClampNeg (if v < (Int32.ofNat b_n) then v else (Int32.ofNat b_n)).toNatClampNeg)))] := ⟨hP, hD⟩
    refine lv_aload_n hx hb d_Arrays_copyOf_aBI_31 rfl (lv_at hl 0 rfl) ?_
    obtain ⟨hq, hw⟩ := Prod.mk.inj (Option.some.inj hok)
    obtain ⟨hmc0, hms0⟩ := Prod.mk.inj hw
    obtain ⟨hq0, hq⟩ := Prod.mk.inj hq
    have hq1 := hq
    subst hq0
    subst hq1
    obtain ⟨hP9, hD9⟩ := sub2 (ws' := [(b, .inl (cs 1, b_n, .inl b_f)), (q2, .inl (cs 1, v.toNatClampNeg, .inl (va_cpy b_f (fun _ => 0) (0 : Int32).toNatClampNeg (0 : Int32).toNatClampNeg (if v < (Int32.ofNat b_n) then v else (Int32.ofNat b_n)).toNatClampNeg)))]) hP hD [0, 1] rfl (by decide) rfl
    refine W.widen (k := mc) (n := ms) (by omega) (by omega) ?_
    rw [hQ]
    exact W.aret (v := .ref q2) hx hb hr (Or.inr ⟨_, rfl⟩) (Or.inr ⟨_, rfl⟩) (fun t ht hW => ⟨⟨(), _, rfl, trivial, q2, rfl, by rw [ht]; exact hP9, hD9⟩, hS.F ht⟩) hS.2.2 d_Arrays_copyOf_aBI_32
  · rw [if_pos h1] at hok
    cases hok

theorem d_Bytes_init_0 : decode b_Bytes_init 0 = .ok (.aload_n 0, 1) := by decide +kernel
theorem d_Bytes_init_1 : decode b_Bytes_init 1 = .ok (.invokespecial 1, 3) := by decide +kernel
theorem d_Bytes_init_4 : decode b_Bytes_init 4 = .ok (.aload_n 0, 1) := by decide +kernel
theorem d_Bytes_init_5 : decode b_Bytes_init 5 = .ok (.bipush 64, 2) := by decide +kernel
theorem d_Bytes_init_7 : decode b_Bytes_init 7 = .ok (.newarray .byte, 2) := by decide +kernel
theorem d_Bytes_init_9 : decode b_Bytes_init 9 = .ok (.putfield 7, 3) := by decide +kernel
theorem d_Bytes_init_12 : decode b_Bytes_init 12 = .ok (.aload_n 0, 1) := by decide +kernel
theorem d_Bytes_init_13 : decode b_Bytes_init 13 = .ok (.iconst 0, 1) := by decide +kernel
theorem d_Bytes_init_14 : decode b_Bytes_init 14 = .ok (.putfield 13, 3) := by decide +kernel
theorem d_Bytes_init_17 : decode b_Bytes_init 17 = .ok (.return_, 1) := by decide +kernel
def p_Bytes_init : Option ((Int32 × Nat × (Nat → Int32)) × Nat × Nat) := al 1 64 (some (((0 : Int32), 64, (fun _ => 0 : Nat → Int32)), 0, 0))
set_option maxHeartbeats 4000000 in
set_option maxRecDepth 100000 in
theorem c_Bytes_init (l : Launch) (g : va_G) (cs : Nat → ClassId) (ka : Nat → Nat) (a : Nat) (sz : Nat) (o_a_size : Int32) (o_a_items_n : Nat) (o_a_items_f : Nat → Int32) (mc ms : Nat) (hok : p_Bytes_init = some ((o_a_size, o_a_items_n, o_a_items_f), mc, ms)) : Met l y_Bytes_init (.code y_Bytes_init b_Bytes_init 1 none :: GW) { frames := 1, cells := mc, slots := ms, locals := 12 } (va_Pc [.ref a] (gP g cs ka [(a, .inr (0, [.null, .int 0]))] sz)) (va_Qv (fun _ : Unit => True) (fun _ t => ∃ b_a_items : Nat, va_P g classes [(a, .inr (0, [.ref b_a_items, .int o_a_size])), (b_a_items, .inl (cs 1, o_a_items_n, .inl o_a_items_f))] t.heap ∧ va_D (va_A [(a, .inr (0, [.null, .int 0]))] sz) [(a, .inr (0, [.ref b_a_items, .int o_a_size])), (b_a_items, .inl (cs 1, o_a_items_n, .inl o_a_items_f))]) (va_A [(a, .inr (0, [.null, .int 0]))] sz)) mc ms (va_A [(a, .inr (0, [.null, .int 0]))] sz) := by
  refine Met.ofW (cc := b_Bytes_init) (maxL := 1) (ret := none) (by decide) rfl ?_
  intro p e s m args below meth c s₁ B hml hv
  obtain ⟨rfl, hsz, hP, hK, hD0, hgl, hkn, hkr⟩ := hv
  have hx := B.exec
  have hb := B.bytes
  have hr := B.returns
  have hg : ∀ w ∈ GW, w.before ([.ref a] : List Value).toArray s = true := fun w hw => atoms_spec (ws := .code y_Bytes_init b_Bytes_init 1 none :: GW) B.pre w (List.mem_cons_of_mem _ hw)
  have hown : s.vm.findClass R_Bytes = some m.cls := findClass_of_methodNamed B.named
  have hlocks := B.notSynchronized
  have hin : meth.name = "<init>" := (name_of_methodNamed B.named B.method).1
  subst hsz
  have hD := hD0.self (sz := s.heap.size)
  generalize hAe : va_A [(a, .inr (0, [.null, .int 0]))] s.heap.size = A at hD hkn ⊢
  have hA : ∀ q : Nat, s.heap.size ≤ q → A q := fun q h => by rw [← hAe]; exact Or.inr h
  have hS : va_S A s.heap s.heap [] := va_S.rf
  have hP : va_P g classes [(a, .inr (0, [.null, .int 0]))] s.heap := hP
  have hl := lv_entry ([.ref a]) (n := 1) (Nat.le_of_ble_eq_true rfl)
  rw [lg_entry_eq]
  generalize (lg_sl ([.ref a]) ++ List.replicate (1 - (lg_sl ([.ref a])).length) Slot.unset).toArray = ls at hl ⊢
  have hl : lv_has ls 1 [(0, .ref a)] := hl
  refine gq (fun Q hQ => ?_)
  obtain ⟨H, hH⟩ : ∃ H : Heap, H = s.heap := ⟨_, rfl⟩
  rw [← hH] at hP
  have hS : va_S A s.heap H [] := by rw [hH]; exact hS
  refine W.eqH hH ?_
  obtain ⟨locs, hlc⟩ : ∃ L : List Loc, L = [] := ⟨_, rfl⟩
  rw [← hlc] at hS ⊢
  unfold p_Bytes_init at hok
  refine lv_aload_n hx hb d_Bytes_init_0 rfl (lv_at hl 0 rfl) ?_
  refine W.objInit hx hb hown (hg _ wd_210) (hg _ wd_158) (hg _ wd_159) rfl (by rw [hml]; exact hl.1) rfl d_Bytes_init_1 (Nat.le_of_ble_eq_true rfl) (Nat.le_of_ble_eq_true rfl) ?_
  refine W.eq (g2 := F0 m 4 ls []) rfl ?_
  refine lv_aload_n hx hb d_Bytes_init_4 rfl (lv_at hl 0 rfl) ?_
  refine lv_bipush (v := 64) hx hb d_Bytes_init_5 (by decide) ?_
  obtain ⟨m1, s1, hok, hmc1, hms1⟩ := al_some hok
  refine g_newB hx hb (hg _ wd_209) hK hP hD hS hA (64) (by decide) (by decide) (by decide) (show 0 + 1 ≤ mc from by omega) (show 0 + 64 ≤ ms from by omega) d_Bytes_init_7 (fun q1 H hP hD hS => ?_)
  obtain ⟨hP, hD⟩ : PD g A H [(a, .inr (0, [.null, .int 0])), (q1, .inl (cs 1, 64, .inl (fun _ => 0)))] := ⟨hP, hD⟩
  refine va_put (D := g) (ci := 0) (v := .ref q1) (ty := .array .byte) (C := R_Bytes) (T := F_Bytes) (N := 2) hx hb hg ul_Bytes t_Bytes tk_Bytes n_Bytes hown hK hP hD hS 0 rfl rfl 0 (by decide) (hg _ wd_211) (fun _ h9 => h9) rfl (by decide +kernel) rfl rfl (Nat.le_of_ble_eq_true rfl) d_Bytes_init_9 (fun H locs hP hD hS => ?_)
  obtain ⟨hP, hD⟩ : PD g A H [(a, .inr (0, [.ref q1, .int 0])), (q1, .inl (cs 1, 64, .inl (fun _ => 0)))] := ⟨hP, hD⟩
  refine lv_aload_n hx hb d_Bytes_init_12 rfl (lv_at hl 0 rfl) ?_
  refine lv_iconst (v := 0) hx hb d_Bytes_init_13 (by decide) ?_
  refine va_put (D := g) (ci := 0) (v := .int 0) (ty := .int) (C := R_Bytes) (T := F_Bytes) (N := 2) hx hb hg ul_Bytes t_Bytes tk_Bytes n_Bytes hown hK hP hD hS 0 rfl rfl 1 (by decide) (hg _ wd_212) (fun _ h9 => h9) rfl (by decide +kernel) rfl rfl (Nat.le_of_ble_eq_true rfl) d_Bytes_init_14 (fun H locs hP hD hS => ?_)
  obtain ⟨hP, hD⟩ : PD g A H [(a, .inr (0, [.ref q1, .int 0])), (q1, .inl (cs 1, 64, .inl (fun _ => 0)))] := ⟨hP, hD⟩
  obtain ⟨hq, hw⟩ := Prod.mk.inj (Option.some.inj hok)
  obtain ⟨hmc0, hms0⟩ := Prod.mk.inj hw
  obtain ⟨hq0, hq⟩ := Prod.mk.inj hq
  obtain ⟨hq1, hq⟩ := Prod.mk.inj hq
  have hq2 := hq
  subst hq0
  subst hq1
  subst hq2
  obtain ⟨hP9, hD9⟩ := sub2 (ws' := [(a, .inr (0, [.ref q1, .int 0])), (q1, .inl (cs 1, 64, .inl (fun _ => 0)))]) hP hD [0, 1] rfl (by decide) rfl
  refine W.widen (k := mc) (n := ms) (by omega) (by omega) ?_
  rw [hQ]
  exact W.vret hx hb hr (fun t ht hW => ⟨⟨(), rfl, trivial, q1, by rw [ht]; exact hP9, hD9⟩, hS.F ht⟩) hS.2.2 d_Bytes_init_17

theorem d_Bytes_size_0 : decode b_Bytes_size 0 = .ok (.aload_n 0, 1) := by decide +kernel
theorem d_Bytes_size_1 : decode b_Bytes_size 1 = .ok (.getfield 13, 3) := by decide +kernel
theorem d_Bytes_size_4 : decode b_Bytes_size 4 = .ok (.ireturn, 1) := by decide +kernel
def p_Bytes_size (a_size : Int32) : Option Int32 := some a_size
set_option maxHeartbeats 4000000 in
set_option maxRecDepth 100000 in
theorem c_Bytes_size (l : Launch) (g : va_G) (cs : Nat → ClassId) (ka : Nat → Nat) (a_items : Nat) (a : Nat) (sz : Nat) (a_size : Int32) (r : Int32) (hok : p_Bytes_size a_size = some r) : Met l y_Bytes_size (.code y_Bytes_size b_Bytes_size 1 (some .int) :: GW) { frames := 0, cells := 0, slots := 0, locals := 0 } (va_Pc [.ref a] (gP g cs ka [(a, .inr (0, [.ref a_items, .int a_size]))] sz)) (va_Qi (fun (r' : Int32) (_ : Unit) => r = r') (fun _ t => va_P g classes [(a, .inr (0, [.ref a_items, .int a_size]))] t.heap ∧ va_D (va_A [(a, .inr (0, [.ref a_items, .int a_size]))] sz) [(a, .inr (0, [.ref a_items, .int a_size]))]) (va_A [(a, .inr (0, [.ref a_items, .int a_size]))] sz)) 0 0 (va_A [(a, .inr (0, [.ref a_items, .int a_size]))] sz) := by
  refine Met.ofW (cc := b_Bytes_size) (maxL := 1) (ret := (some .int)) (by decide) rfl ?_
  intro p e s m args below meth c s₁ B hml hv
  obtain ⟨rfl, hsz, hP, hK, hD0, hgl, hkn, hkr⟩ := hv
  have hx := B.exec
  have hb := B.bytes
  have hr := B.returns
  have hg : ∀ w ∈ GW, w.before ([.ref a] : List Value).toArray s = true := fun w hw => atoms_spec (ws := .code y_Bytes_size b_Bytes_size 1 (some .int) :: GW) B.pre w (List.mem_cons_of_mem _ hw)
  have hown : s.vm.findClass R_Bytes = some m.cls := findClass_of_methodNamed B.named
  have hlocks := B.notSynchronized
  subst hsz
  have hD := hD0.self (sz := s.heap.size)
  generalize hAe : va_A [(a, .inr (0, [.ref a_items, .int a_size]))] s.heap.size = A at hD hkn ⊢
  have hA : ∀ q : Nat, s.heap.size ≤ q → A q := fun q h => by rw [← hAe]; exact Or.inr h
  have hS : va_S A s.heap s.heap [] := va_S.rf
  have hP : va_P g classes [(a, .inr (0, [.ref a_items, .int a_size]))] s.heap := hP
  have hl := lv_entry ([.ref a]) (n := 1) (Nat.le_of_ble_eq_true rfl)
  rw [lg_entry_eq]
  generalize (lg_sl ([.ref a]) ++ List.replicate (1 - (lg_sl ([.ref a])).length) Slot.unset).toArray = ls at hl ⊢
  have hl : lv_has ls 1 [(0, .ref a)] := hl
  refine gq (fun Q hQ => ?_)
  obtain ⟨H, hH⟩ : ∃ H : Heap, H = s.heap := ⟨_, rfl⟩
  rw [← hH] at hP
  have hS : va_S A s.heap H [] := by rw [hH]; exact hS
  refine W.eqH hH ?_
  obtain ⟨locs, hlc⟩ : ∃ L : List Loc, L = [] := ⟨_, rfl⟩
  rw [← hlc] at hS ⊢
  unfold p_Bytes_size at hok
  refine lv_aload_n hx hb d_Bytes_size_0 rfl (lv_at hl 0 rfl) ?_
  refine va_get (D := g) (ci := 0) (v := .int a_size) (C := R_Bytes) (T := F_Bytes) (N := 2) hx hb hg ul_Bytes hown hK hP 0 rfl rfl 1 (by decide) (hg _ wd_212) (fun _ h9 => h9) rfl d_Bytes_size_1 ?_
  have hq := Option.some.inj hok
  have hq0 := hq
  subst hq0
  obtain ⟨hP9, hD9⟩ := sub2 (ws' := [(a, .inr (0, [.ref a_items, .int a_size]))]) hP hD [0] rfl (by decide) rfl
  rw [hQ]
  exact W.iret (v := a_size) hx hb hr (fun t ht hW => ⟨⟨_, (), rfl, rfl, by rw [ht]; exact hP9, hD9⟩, hS.F ht⟩) hS.2.2 d_Bytes_size_4

theorem d_Bytes_at_0 : decode b_Bytes_at 0 = .ok (.iload_n 1, 1) := by decide +kernel
theorem d_Bytes_at_1 : decode b_Bytes_at 1 = .ok (.ifCond .lt 24, 3) := by decide +kernel
theorem d_Bytes_at_4 : decode b_Bytes_at 4 = .ok (.iload_n 1, 1) := by decide +kernel
theorem d_Bytes_at_5 : decode b_Bytes_at 5 = .ok (.aload_n 0, 1) := by decide +kernel
theorem d_Bytes_at_6 : decode b_Bytes_at 6 = .ok (.getfield 13, 3) := by decide +kernel
theorem d_Bytes_at_9 : decode b_Bytes_at 9 = .ok (.if_icmp .ge 16, 3) := by decide +kernel
theorem d_Bytes_at_12 : decode b_Bytes_at 12 = .ok (.aload_n 0, 1) := by decide +kernel
theorem d_Bytes_at_13 : decode b_Bytes_at 13 = .ok (.getfield 7, 3) := by decide +kernel
theorem d_Bytes_at_16 : decode b_Bytes_at 16 = .ok (.iload_n 1, 1) := by decide +kernel
theorem d_Bytes_at_17 : decode b_Bytes_at 17 = .ok (.baload, 1) := by decide +kernel
theorem d_Bytes_at_18 : decode b_Bytes_at 18 = .ok (.sipush 255, 3) := by decide +kernel
theorem d_Bytes_at_21 : decode b_Bytes_at 21 = .ok (.iand, 1) := by decide +kernel
theorem d_Bytes_at_22 : decode b_Bytes_at 22 = .ok (.goto 4, 3) := by decide +kernel
theorem d_Bytes_at_25 : decode b_Bytes_at 25 = .ok (.iconst 0, 1) := by decide +kernel
theorem d_Bytes_at_26 : decode b_Bytes_at 26 = .ok (.ireturn, 1) := by decide +kernel
def p_Bytes_at (i : Int32) (a_size : Int32) (a_items_n : Nat) (a_items_f : Nat → Int32) : Option Int32 := if i < 0 then (some (0 : Int32)) else (if a_size ≤ i then (some (0 : Int32)) else (ck (ixb i a_items_n) (some ((a_items_f i.toNatClampNeg) &&& 255))))
set_option maxHeartbeats 4000000 in
set_option maxRecDepth 100000 in
theorem c_Bytes_at (l : Launch) (g : va_G) (cs : Nat → ClassId) (ka : Nat → Nat) (a a_items : Nat) (sz : Nat) (i : Int32) (a_size : Int32) (a_items_n : Nat) (a_items_f : Nat → Int32) (r : Int32) (hok : p_Bytes_at i a_size a_items_n a_items_f = some r) : Met l y_Bytes_at (.code y_Bytes_at b_Bytes_at 2 (some .int) :: GW) { frames := 0, cells := 0, slots := 0, locals := 0 } (va_Pc [.ref a, .int i] (gP g cs ka [(a, .inr (0, [.ref a_items, .int a_size])), (a_items, .inl (cs 1, a_items_n, .inl a_items_f))] sz)) (va_Qi (fun (r' : Int32) (_ : Unit) => r = r') (fun _ t => va_P g classes [(a, .inr (0, [.ref a_items, .int a_size])), (a_items, .inl (cs 1, a_items_n, .inl a_items_f))] t.heap ∧ va_D (va_A [(a, .inr (0, [.ref a_items, .int a_size])), (a_items, .inl (cs 1, a_items_n, .inl a_items_f))] sz) [(a, .inr (0, [.ref a_items, .int a_size])), (a_items, .inl (cs 1, a_items_n, .inl a_items_f))]) (va_A [(a, .inr (0, [.ref a_items, .int a_size])), (a_items, .inl (cs 1, a_items_n, .inl a_items_f))] sz)) 0 0 (va_A [(a, .inr (0, [.ref a_items, .int a_size])), (a_items, .inl (cs 1, a_items_n, .inl a_items_f))] sz) := by
  refine Met.ofW (cc := b_Bytes_at) (maxL := 2) (ret := (some .int)) (by decide) rfl ?_
  intro p e s m args below meth c s₁ B hml hv
  obtain ⟨rfl, hsz, hP, hK, hD0, hgl, hkn, hkr⟩ := hv
  have hx := B.exec
  have hb := B.bytes
  have hr := B.returns
  have hg : ∀ w ∈ GW, w.before ([.ref a, .int i] : List Value).toArray s = true := fun w hw => atoms_spec (ws := .code y_Bytes_at b_Bytes_at 2 (some .int) :: GW) B.pre w (List.mem_cons_of_mem _ hw)
  have hown : s.vm.findClass R_Bytes = some m.cls := findClass_of_methodNamed B.named
  have hlocks := B.notSynchronized
  subst hsz
  have hD := hD0.self (sz := s.heap.size)
  generalize hAe : va_A [(a, .inr (0, [.ref a_items, .int a_size])), (a_items, .inl (cs 1, a_items_n, .inl a_items_f))] s.heap.size = A at hD hkn ⊢
  have hA : ∀ q : Nat, s.heap.size ≤ q → A q := fun q h => by rw [← hAe]; exact Or.inr h
  have hS : va_S A s.heap s.heap [] := va_S.rf
  have hP : va_P g classes [(a, .inr (0, [.ref a_items, .int a_size])), (a_items, .inl (cs 1, a_items_n, .inl a_items_f))] s.heap := hP
  have hl := lv_entry ([.ref a, .int i]) (n := 2) (Nat.le_of_ble_eq_true rfl)
  rw [lg_entry_eq]
  generalize (lg_sl ([.ref a, .int i]) ++ List.replicate (2 - (lg_sl ([.ref a, .int i])).length) Slot.unset).toArray = ls at hl ⊢
  have hl : lv_has ls 2 [(0, .ref a), (1, .int i)] := hl
  refine gq (fun Q hQ => ?_)
  obtain ⟨H, hH⟩ : ∃ H : Heap, H = s.heap := ⟨_, rfl⟩
  rw [← hH] at hP
  have hS : va_S A s.heap H [] := by rw [hH]; exact hS
  refine W.eqH hH ?_
  obtain ⟨locs, hlc⟩ : ∃ L : List Loc, L = [] := ⟨_, rfl⟩
  rw [← hlc] at hS ⊢
  unfold p_Bytes_at at hok
  refine lv_iload_n hx hb d_Bytes_at_0 rfl (lv_at hl 1 rfl) ?_
  refine lv_if_lt hx hb d_Bytes_at_1 rfl (fun h1 => ?_) (fun h1 => ?_)
  · rw [if_pos h1] at hok
    refine lv_iconst (v := 0) hx hb d_Bytes_at_25 (by decide) ?_
    have hq := Option.some.inj hok
    have hq0 := hq
    subst hq0
    obtain ⟨hP9, hD9⟩ := sub2 (ws' := [(a, .inr (0, [.ref a_items, .int a_size])), (a_items, .inl (cs 1, a_items_n, .inl a_items_f))]) hP hD [0, 1] rfl (by decide) rfl
    rw [hQ]
    exact W.iret (v := 0) hx hb hr (fun t ht hW => ⟨⟨_, (), rfl, rfl, by rw [ht]; exact hP9, hD9⟩, hS.F ht⟩) hS.2.2 d_Bytes_at_26
  · rw [if_neg h1] at hok
    refine lv_iload_n hx hb d_Bytes_at_4 rfl (lv_at hl 1 rfl) ?_
    refine lv_aload_n hx hb d_Bytes_at_5 rfl (lv_at hl 0 rfl) ?_
    refine va_get (D := g) (ci := 0) (v := .int a_size) (C := R_Bytes) (T := F_Bytes) (N := 2) hx hb hg ul_Bytes hown hK hP 0 rfl rfl 1 (by decide) (hg _ wd_212) (fun _ h9 => h9) rfl d_Bytes_at_6 ?_
    refine lv_icmp_ge hx hb d_Bytes_at_9 rfl (fun h2 => ?_) (fun h2 => ?_)
    · rw [if_pos h2] at hok
      refine lv_iconst (v := 0) hx hb d_Bytes_at_25 (by decide) ?_
      have hq := Option.some.inj hok
      have hq0 := hq
      subst hq0
      obtain ⟨hP9, hD9⟩ := sub2 (ws' := [(a, .inr (0, [.ref a_items, .int a_size])), (a_items, .inl (cs 1, a_items_n, .inl a_items_f))]) hP hD [0, 1] rfl (by decide) rfl
      rw [hQ]
      exact W.iret (v := 0) hx hb hr (fun t ht hW => ⟨⟨_, (), rfl, rfl, by rw [ht]; exact hP9, hD9⟩, hS.F ht⟩) hS.2.2 d_Bytes_at_26
    · rw [if_neg h2] at hok
      refine lv_aload_n hx hb d_Bytes_at_12 rfl (lv_at hl 0 rfl) ?_
      refine va_get (D := g) (ci := 0) (v := .ref a_items) (C := R_Bytes) (T := F_Bytes) (N := 2) hx hb hg ul_Bytes hown hK hP 0 rfl rfl 0 (by decide) (hg _ wd_211) (fun _ h9 => h9) rfl d_Bytes_at_13 ?_
      refine lv_iload_n hx hb d_Bytes_at_16 rfl (lv_at hl 1 rfl) ?_
      obtain ⟨hi3, hok⟩ := ck_some hok
      refine va_bald hx hb hK hP 1 1 rfl rfl (ixb_in hi3) d_Bytes_at_17 ?_
      refine lv_sipush (v := 255) hx hb d_Bytes_at_18 (by decide) ?_
      refine lv_iand hx hb d_Bytes_at_21 ?_
      refine lv_goto hx hb d_Bytes_at_22 rfl ?_
      have hq := Option.some.inj hok
      have hq0 := hq
      subst hq0
      obtain ⟨hP9, hD9⟩ := sub2 (ws' := [(a, .inr (0, [.ref a_items, .int a_size])), (a_items, .inl (cs 1, a_items_n, .inl a_items_f))]) hP hD [0, 1] rfl (by decide) rfl
      rw [hQ]
      exact W.iret (v := (a_items_f i.toNatClampNeg) &&& 255) hx hb hr (fun t ht hW => ⟨⟨_, (), rfl, rfl, by rw [ht]; exact hP9, hD9⟩, hS.F ht⟩) hS.2.2 d_Bytes_at_26

theorem d_Bytes_add_0 : decode b_Bytes_add 0 = .ok (.aload_n 0, 1) := by decide +kernel
theorem d_Bytes_add_1 : decode b_Bytes_add 1 = .ok (.getfield 13, 3) := by decide +kernel
theorem d_Bytes_add_4 : decode b_Bytes_add 4 = .ok (.aload_n 0, 1) := by decide +kernel
theorem d_Bytes_add_5 : decode b_Bytes_add 5 = .ok (.getfield 7, 3) := by decide +kernel
theorem d_Bytes_add_8 : decode b_Bytes_add 8 = .ok (.arraylength, 1) := by decide +kernel
theorem d_Bytes_add_9 : decode b_Bytes_add 9 = .ok (.if_icmp .ne 20, 3) := by decide +kernel
theorem d_Bytes_add_12 : decode b_Bytes_add 12 = .ok (.aload_n 0, 1) := by decide +kernel
theorem d_Bytes_add_13 : decode b_Bytes_add 13 = .ok (.aload_n 0, 1) := by decide +kernel
theorem d_Bytes_add_14 : decode b_Bytes_add 14 = .ok (.getfield 7, 3) := by decide +kernel
theorem d_Bytes_add_17 : decode b_Bytes_add 17 = .ok (.iconst 2, 1) := by decide +kernel
theorem d_Bytes_add_18 : decode b_Bytes_add 18 = .ok (.aload_n 0, 1) := by decide +kernel
theorem d_Bytes_add_19 : decode b_Bytes_add 19 = .ok (.getfield 13, 3) := by decide +kernel
theorem d_Bytes_add_22 : decode b_Bytes_add 22 = .ok (.imul, 1) := by decide +kernel
theorem d_Bytes_add_23 : decode b_Bytes_add 23 = .ok (.invokestatic 17, 3) := by decide +kernel
theorem d_Bytes_add_26 : decode b_Bytes_add 26 = .ok (.putfield 7, 3) := by decide +kernel
theorem d_Bytes_add_29 : decode b_Bytes_add 29 = .ok (.aload_n 0, 1) := by decide +kernel
theorem d_Bytes_add_30 : decode b_Bytes_add 30 = .ok (.getfield 7, 3) := by decide +kernel
theorem d_Bytes_add_33 : decode b_Bytes_add 33 = .ok (.aload_n 0, 1) := by decide +kernel
theorem d_Bytes_add_34 : decode b_Bytes_add 34 = .ok (.getfield 13, 3) := by decide +kernel
theorem d_Bytes_add_37 : decode b_Bytes_add 37 = .ok (.iload_n 1, 1) := by decide +kernel
theorem d_Bytes_add_38 : decode b_Bytes_add 38 = .ok (.i2b, 1) := by decide +kernel
theorem d_Bytes_add_39 : decode b_Bytes_add 39 = .ok (.bastore, 1) := by decide +kernel
theorem d_Bytes_add_40 : decode b_Bytes_add 40 = .ok (.aload_n 0, 1) := by decide +kernel
theorem d_Bytes_add_41 : decode b_Bytes_add 41 = .ok (.dup, 1) := by decide +kernel
theorem d_Bytes_add_42 : decode b_Bytes_add 42 = .ok (.getfield 13, 3) := by decide +kernel
theorem d_Bytes_add_45 : decode b_Bytes_add 45 = .ok (.iconst 1, 1) := by decide +kernel
theorem d_Bytes_add_46 : decode b_Bytes_add 46 = .ok (.iadd, 1) := by decide +kernel
theorem d_Bytes_add_47 : decode b_Bytes_add 47 = .ok (.putfield 13, 3) := by decide +kernel
theorem d_Bytes_add_50 : decode b_Bytes_add 50 = .ok (.return_, 1) := by decide +kernel
def p_Bytes_add (b : Int32) (a_size : Int32) (a_items_n : Nat) (a_items_f : Nat → Int32) : Option ((Int32 × Nat × (Nat → Int32)) × Nat × Nat) := if a_size = (Int32.ofNat a_items_n) then ((p_Arrays_copyOf_aBI (2 * a_size) a_items_n a_items_f).bind (fun ((ret_n_3, ret_f_3), mk3, sk3) => al mk3 sk3 (ck (ixb a_size ret_n_3) (some ((a_size + 1, ret_n_3, upd ret_f_3 a_size.toNatClampNeg (vp_nar .byte b.toInt8.toInt32)), 0, 0))))) else (ck (ixb a_size a_items_n) (some ((a_size + 1, a_items_n, upd a_items_f a_size.toNatClampNeg (vp_nar .byte b.toInt8.toInt32)), 0, 0)))
set_option maxHeartbeats 4000000 in
set_option maxRecDepth 100000 in
theorem c_Bytes_add (l : Launch) (g : va_G) (cs : Nat → ClassId) (ka : Nat → Nat) (a a_items : Nat) (sz : Nat) (b : Int32) (a_size : Int32) (a_items_n : Nat) (a_items_f : Nat → Int32) (o_a_size : Int32) (o_a_items_n : Nat) (o_a_items_f : Nat → Int32) (mc ms : Nat) (hok : p_Bytes_add b a_size a_items_n a_items_f = some ((o_a_size, o_a_items_n, o_a_items_f), mc, ms)) : Met l y_Bytes_add (.code y_Bytes_add b_Bytes_add 2 none :: GW) { frames := 2, cells := mc, slots := ms, locals := 122 } (va_Pc [.ref a, .int b] (gP g cs ka [(a, .inr (0, [.ref a_items, .int a_size])), (a_items, .inl (cs 1, a_items_n, .inl a_items_f))] sz)) (va_Qv (fun _ : Unit => True) (fun _ t => ∃ b_a_items : Nat, va_P g classes [(a, .inr (0, [.ref b_a_items, .int o_a_size])), (b_a_items, .inl (cs 1, o_a_items_n, .inl o_a_items_f))] t.heap ∧ va_D (va_A [(a, .inr (0, [.ref a_items, .int a_size])), (a_items, .inl (cs 1, a_items_n, .inl a_items_f))] sz) [(a, .inr (0, [.ref b_a_items, .int o_a_size])), (b_a_items, .inl (cs 1, o_a_items_n, .inl o_a_items_f))]) (va_A [(a, .inr (0, [.ref a_items, .int a_size])), (a_items, .inl (cs 1, a_items_n, .inl a_items_f))] sz)) mc ms (va_A [(a, .inr (0, [.ref a_items, .int a_size])), (a_items, .inl (cs 1, a_items_n, .inl a_items_f))] sz) := by
  refine Met.ofW (cc := b_Bytes_add) (maxL := 2) (ret := none) (by decide) rfl ?_
  intro p e s m args below meth c s₁ B hml hv
  obtain ⟨rfl, hsz, hP, hK, hD0, hgl, hkn, hkr⟩ := hv
  have hx := B.exec
  have hb := B.bytes
  have hr := B.returns
  have hg : ∀ w ∈ GW, w.before ([.ref a, .int b] : List Value).toArray s = true := fun w hw => atoms_spec (ws := .code y_Bytes_add b_Bytes_add 2 none :: GW) B.pre w (List.mem_cons_of_mem _ hw)
  have hown : s.vm.findClass R_Bytes = some m.cls := findClass_of_methodNamed B.named
  have hlocks := B.notSynchronized
  subst hsz
  have hD := hD0.self (sz := s.heap.size)
  generalize hAe : va_A [(a, .inr (0, [.ref a_items, .int a_size])), (a_items, .inl (cs 1, a_items_n, .inl a_items_f))] s.heap.size = A at hD hkn ⊢
  have hA : ∀ q : Nat, s.heap.size ≤ q → A q := fun q h => by rw [← hAe]; exact Or.inr h
  have hS : va_S A s.heap s.heap [] := va_S.rf
  have hP : va_P g classes [(a, .inr (0, [.ref a_items, .int a_size])), (a_items, .inl (cs 1, a_items_n, .inl a_items_f))] s.heap := hP
  have hl := lv_entry ([.ref a, .int b]) (n := 2) (Nat.le_of_ble_eq_true rfl)
  rw [lg_entry_eq]
  generalize (lg_sl ([.ref a, .int b]) ++ List.replicate (2 - (lg_sl ([.ref a, .int b])).length) Slot.unset).toArray = ls at hl ⊢
  have hl : lv_has ls 2 [(0, .ref a), (1, .int b)] := hl
  refine gq (fun Q hQ => ?_)
  obtain ⟨H, hH⟩ : ∃ H : Heap, H = s.heap := ⟨_, rfl⟩
  rw [← hH] at hP
  have hS : va_S A s.heap H [] := by rw [hH]; exact hS
  refine W.eqH hH ?_
  obtain ⟨locs, hlc⟩ : ∃ L : List Loc, L = [] := ⟨_, rfl⟩
  rw [← hlc] at hS ⊢
  unfold p_Bytes_add at hok
  refine lv_aload_n hx hb d_Bytes_add_0 rfl (lv_at hl 0 rfl) ?_
  refine va_get (D := g) (ci := 0) (v := .int a_size) (C := R_Bytes) (T := F_Bytes) (N := 2) hx hb hg ul_Bytes hown hK hP 0 rfl rfl 1 (by decide) (hg _ wd_212) (fun _ h9 => h9) rfl d_Bytes_add_1 ?_
  refine lv_aload_n hx hb d_Bytes_add_4 rfl (lv_at hl 0 rfl) ?_
  refine va_get (D := g) (ci := 0) (v := .ref a_items) (C := R_Bytes) (T := F_Bytes) (N := 2) hx hb hg ul_Bytes hown hK hP 0 rfl rfl 0 (by decide) (hg _ wd_211) (fun _ h9 => h9) rfl d_Bytes_add_5 ?_
  refine va_alen (v := Int32.ofNat a_items_n) hx hb hK hP 1 1 rfl rfl rfl d_Bytes_add_8 ?_
  refine lv_icmp_ne hx hb d_Bytes_add_9 rfl (fun h1 => ?_) (fun h1 => ?_)
  · rw [if_neg h1] at hok
    refine lv_aload_n hx hb d_Bytes_add_29 rfl (lv_at hl 0 rfl) ?_
    refine va_get (D := g) (ci := 0) (v := .ref a_items) (C := R_Bytes) (T := F_Bytes) (N := 2) hx hb hg ul_Bytes hown hK hP 0 rfl rfl 0 (by decide) (hg _ wd_211) (fun _ h9 => h9) rfl d_Bytes_add_30 ?_
    refine lv_aload_n hx hb d_Bytes_add_33 rfl (lv_at hl 0 rfl) ?_
    refine va_get (D := g) (ci := 0) (v := .int a_size) (C := R_Bytes) (T := F_Bytes) (N := 2) hx hb hg ul_Bytes hown hK hP 0 rfl rfl 1 (by decide) (hg _ wd_212) (fun _ h9 => h9) rfl d_Bytes_add_34 ?_
    refine lv_iload_n hx hb d_Bytes_add_37 rfl (lv_at hl 1 rfl) ?_
    refine lv_i2b hx hb d_Bytes_add_38 rfl ?_
    obtain ⟨hi2, hok⟩ := ck_some hok
    refine va_bast hx hb hK hP hD hS 1 1 rfl rfl (ixb_in hi2) d_Bytes_add_39 (fun H locs hP hD hS => ?_)
    obtain ⟨hP, hD⟩ : PD g A H [(a, .inr (0, [.ref a_items, .int a_size])), (a_items, .inl (cs 1, a_items_n, .inl (upd a_items_f a_size.toNatClampNeg (vp_nar .byte b.toInt8.toInt32))))] := ⟨hP, hD⟩
    refine lv_aload_n hx hb d_Bytes_add_40 rfl (lv_at hl 0 rfl) ?_
    refine lv_dup hx hb d_Bytes_add_41 rfl ?_
    refine va_get (D := g) (ci := 0) (v := .int a_size) (C := R_Bytes) (T := F_Bytes) (N := 2) hx hb hg ul_Bytes hown hK hP 0 rfl rfl 1 (by decide) (hg _ wd_212) (fun _ h9 => h9) rfl d_Bytes_add_42 ?_
    refine lv_iconst (v := 1) hx hb d_Bytes_add_45 (by decide) ?_
    refine lv_iadd hx hb d_Bytes_add_46 ?_
    refine va_put (D := g) (ci := 0) (v := .int (a_size + 1)) (ty := .int) (C := R_Bytes) (T := F_Bytes) (N := 2) hx hb hg ul_Bytes t_Bytes tk_Bytes n_Bytes hown hK hP hD hS 0 rfl rfl 1 (by decide) (hg _ wd_212) (fun _ h9 => h9) rfl (by decide +kernel) rfl rfl (Nat.le_of_ble_eq_true rfl) d_Bytes_add_47 (fun H locs hP hD hS => ?_)
    obtain ⟨hP, hD⟩ : PD g A H [(a, .inr (0, [.ref a_items, .int (a_size + 1)])), (a_items, .inl (cs 1, a_items_n, .inl (upd a_items_f a_size.toNatClampNeg (vp_nar .byte b.toInt8.toInt32))))] := ⟨hP, hD⟩
    obtain ⟨hq, hw⟩ := Prod.mk.inj (Option.some.inj hok)
    obtain ⟨hmc0, hms0⟩ := Prod.mk.inj hw
    obtain ⟨hq0, hq⟩ := Prod.mk.inj hq
    obtain ⟨hq1, hq⟩ := Prod.mk.inj hq
    have hq2 := hq
    subst hq0
    subst hq1
    subst hq2
    obtain ⟨hP9, hD9⟩ := sub2 (ws' := [(a, .inr (0, [.ref a_items, .int (a_size + 1)])), (a_items, .inl (cs 1, a_items_n, .inl (upd a_items_f a_size.toNatClampNeg (vp_nar .byte b.toInt8.toInt32))))]) hP hD [0, 1] rfl (by decide) rfl
    refine W.widen (k := mc) (n := ms) (by omega) (by omega) ?_
    rw [hQ]
    exact W.vret hx hb hr (fun t ht hW => ⟨⟨(), rfl, trivial, a_items, by rw [ht]; exact hP9, hD9⟩, hS.F ht⟩) hS.2.2 d_Bytes_add_50
  · rw [if_pos h1] at hok
    refine lv_aload_n hx hb d_Bytes_add_12 rfl (lv_at hl 0 rfl) ?_
    refine lv_aload_n hx hb d_Bytes_add_13 rfl (lv_at hl 0 rfl) ?_
    refine va_get (D := g) (ci := 0) (v := .ref a_items) (C := R_Bytes) (T := F_Bytes) (N := 2) hx hb hg ul_Bytes hown hK hP 0 rfl rfl 0 (by decide) (hg _ wd_211) (fun _ h9 => h9) rfl d_Bytes_add_14 ?_
    refine lv_iconst (v := 2) hx hb d_Bytes_add_17 (by decide) ?_
    refine lv_aload_n hx hb d_Bytes_add_18 rfl (lv_at hl 0 rfl) ?_
    refine va_get (D := g) (ci := 0) (v := .int a_size) (C := R_Bytes) (T := F_Bytes) (N := 2) hx hb hg ul_Bytes hown hK hP 0 rfl rfl 1 (by decide) (hg _ wd_212) (fun _ h9 => h9) rfl d_Bytes_add_19 ?_
    refine lv_imul hx hb d_Bytes_add_22 ?_
    obtain ⟨⟨⟨ret_n_3, ret_f_3⟩, mk3, sk3⟩, hc3, hok⟩ := bd_some hok
    dsimp only at hok
    obtain ⟨m3, s3, hok, hmc3, hms3⟩ := al_some hok
    obtain ⟨hPc, hDc, hFc⟩ := cut0 (wc := [(a_items, .inl (cs 1, a_items_n, .inl a_items_f))]) hP hD hS hA [1] (by decide) rfl
    refine va_callr (va_runS (As := [.ref a_items, .int (2 * a_size)]) (rest := [.ref a]) ⟨hx, hb, hml, hown, hg⟩ (c_Arrays_copyOf_aBI l g cs ka a_items H.size (2 * a_size) a_items_n a_items_f ret_n_3 ret_f_3 mk3 sk3 hc3) (va_cwS 2 hg (gw_S wd_214 wd_215 wd_154 wd_213) rfl rfl rfl (by decide +kernel) ⟨Nat.le_of_ble_eq_true rfl, Nat.le_of_ble_eq_true rfl⟩) ⟨gP_blind, gP_pre hPc hDc hK hgl hkn hkr hS hFc⟩ rfl rfl hl.1 rfl (lv_room (Nat.le_of_ble_eq_true rfl)) d_Bytes_add_23 ⟨show 0 + mk3 ≤ mc from by omega, show 0 + sk3 ≤ ms from by omega⟩) hS (fun q _ h => hFc q h) hFc (fun u ra3 t H locs ht hvm hr3 hB hz1 hk1 hS => ?_)
    rw [ht] at hB
    obtain ⟨ret_3, hra3, hP1, hD1⟩ := hB
    subst hra3
    obtain ⟨hP, hD⟩ := jn_A hP hD [1] [0] rfl rfl (by decide) (by decide) hk1 hFc hP1 hD1
    obtain ⟨hP, hD⟩ : PD g A H [(a, .inr (0, [.ref a_items, .int a_size])), (a_items, .inl (cs 1, a_items_n, .inl a_items_f)), (ret_3, .inl (cs 1, ret_n_3, .inl ret_f_3))] := ⟨hP, hD⟩
    refine va_put (D := g) (ci := 0) (v := .ref ret_3) (ty := .array .byte) (C := R_Bytes) (T := F_Bytes) (N := 2) hx hb hg ul_Bytes t_Bytes tk_Bytes n_Bytes hown hK hP hD hS 0 rfl rfl 0 (by decide) (hg _ wd_211) (fun _ h9 => h9) rfl (by decide +kernel) rfl rfl (Nat.le_of_ble_eq_true rfl) d_Bytes_add_26 (fun H locs hP hD hS => ?_)
    obtain ⟨hP, hD⟩ : PD g A H [(a, .inr (0, [.ref ret_3, .int a_size])), (a_items, .inl (cs 1, a_items_n, .inl a_items_f)), (ret_3, .inl (cs 1, ret_n_3, .inl ret_f_3))] := ⟨hP, hD⟩
    refine lv_aload_n hx hb d_Bytes_add_29 rfl (lv_at hl 0 rfl) ?_
    refine va_get (D := g) (ci := 0) (v := .ref ret_3) (C := R_Bytes) (T := F_Bytes) (N := 2) hx hb hg ul_Bytes hown hK hP 0 rfl rfl 0 (by decide) (hg _ wd_211) (fun _ h9 => h9) rfl d_Bytes_add_30 ?_
    refine lv_aload_n hx hb d_Bytes_add_33 rfl (lv_at hl 0 rfl) ?_
    refine va_get (D := g) (ci := 0) (v := .int a_size) (C := R_Bytes) (T := F_Bytes) (N := 2) hx hb hg ul_Bytes hown hK hP 0 rfl rfl 1 (by decide) (hg _ wd_212) (fun _ h9 => h9) rfl d_Bytes_add_34 ?_
    refine lv_iload_n hx hb d_Bytes_add_37 rfl (lv_at hl 1 rfl) ?_
    refine lv_i2b hx hb d_Bytes_add_38 rfl ?_
    obtain ⟨hi4, hok⟩ := ck_some hok
    refine va_bast hx hb hK hP hD hS 2 1 rfl rfl (ixb_in hi4) d_Bytes_add_39 (fun H locs hP hD hS => ?_)
    obtain ⟨hP, hD⟩ : PD g A H [(a, .inr (0, [.ref ret_3, .int a_size])), (a_items, .inl (cs 1, a_items_n, .inl a_items_f)), (ret_3, .inl (cs 1, ret_n_3, .inl (upd ret_f_3 a_size.toNatClampNeg (vp_nar .byte b.toInt8.toInt32))))] := ⟨hP, hD⟩
    refine lv_aload_n hx hb d_Bytes_add_40 rfl (lv_at hl 0 rfl) ?_
    refine lv_dup hx hb d_Bytes_add_41 rfl ?_
    refine va_get (D := g) (ci := 0) (v := .int a_size) (C := R_Bytes) (T := F_Bytes) (N := 2) hx hb hg ul_Bytes hown hK hP 0 rfl rfl 1 (by decide) (hg _ wd_212) (fun _ h9 => h9) rfl d_Bytes_add_42 ?_
    refine lv_iconst (v := 1) hx hb d_Bytes_add_45 (by decide) ?_
    refine lv_iadd hx hb d_Bytes_add_46 ?_
    refine va_put (D := g) (ci := 0) (v := .int (a_size + 1)) (ty := .int) (C := R_Bytes) (T := F_Bytes) (N := 2) hx hb hg ul_Bytes t_Bytes tk_Bytes n_Bytes hown hK hP hD hS 0 rfl rfl 1 (by decide) (hg _ wd_212) (fun _ h9 => h9) rfl (by decide +kernel) rfl rfl (Nat.le_of_ble_eq_true rfl) d_Bytes_add_47 (fun H locs hP hD hS => ?_)
    obtain ⟨hP, hD⟩ : PD g A H [(a, .inr (0, [.ref ret_3, .int (a_size + 1)])), (a_items, .inl (cs 1, a_items_n, .inl a_items_f)), (ret_3, .inl (cs 1, ret_n_3, .inl (upd ret_f_3 a_size.toNatClampNeg (vp_nar .byte b.toInt8.toInt32))))] := ⟨hP, hD⟩
    obtain ⟨hq, hw⟩ := Prod.mk.inj (Option.some.inj hok)
    obtain ⟨hmc0, hms0⟩ := Prod.mk.inj hw
    obtain ⟨hq0, hq⟩ := Prod.mk.inj hq
    obtain ⟨hq1, hq⟩ := Prod.mk.inj hq
    have hq2 := hq
    subst hq0
    subst hq1
    subst hq2
    obtain ⟨hP9, hD9⟩ := sub2 (ws' := [(a, .inr (0, [.ref ret_3, .int (a_size + 1)])), (ret_3, .inl (cs 1, ret_n_3, .inl (upd ret_f_3 a_size.toNatClampNeg (vp_nar .byte b.toInt8.toInt32))))]) hP hD [0, 2] rfl (by decide) rfl
    refine W.widen (k := mc) (n := ms) (by omega) (by omega) ?_
    rw [hQ]
    exact W.vret hx hb hr (fun t ht hW => ⟨⟨(), rfl, trivial, ret_3, by rw [ht]; exact hP9, hD9⟩, hS.F ht⟩) hS.2.2 d_Bytes_add_50

theorem d_Bytes_cut_0 : decode b_Bytes_cut 0 = .ok (.iload_n 1, 1) := by decide +kernel
theorem d_Bytes_cut_1 : decode b_Bytes_cut 1 = .ok (.ifCond .lt 16, 3) := by decide +kernel
theorem d_Bytes_cut_4 : decode b_Bytes_cut 4 = .ok (.iload_n 1, 1) := by decide +kernel
theorem d_Bytes_cut_5 : decode b_Bytes_cut 5 = .ok (.aload_n 0, 1) := by decide +kernel
theorem d_Bytes_cut_6 : decode b_Bytes_cut 6 = .ok (.getfield 13, 3) := by decide +kernel
theorem d_Bytes_cut_9 : decode b_Bytes_cut 9 = .ok (.if_icmp .ge 8, 3) := by decide +kernel
theorem d_Bytes_cut_12 : decode b_Bytes_cut 12 = .ok (.aload_n 0, 1) := by decide +kernel
theorem d_Bytes_cut_13 : decode b_Bytes_cut 13 = .ok (.iload_n 1, 1) := by decide +kernel
theorem d_Bytes_cut_14 : decode b_Bytes_cut 14 = .ok (.putfield 13, 3) := by decide +kernel
theorem d_Bytes_cut_17 : decode b_Bytes_cut 17 = .ok (.return_, 1) := by decide +kernel
def p_Bytes_cut (length : Int32) (a_size : Int32) : Option Int32 := if length < 0 then (some a_size) else (if a_size ≤ length then (some a_size) else (some length))
set_option maxHeartbeats 4000000 in
set_option maxRecDepth 100000 in
theorem c_Bytes_cut (l : Launch) (g : va_G) (cs : Nat → ClassId) (ka : Nat → Nat) (a_items : Nat) (a : Nat) (sz : Nat) (length : Int32) (a_size : Int32) (o_a_size : Int32) (hok : p_Bytes_cut length a_size = some o_a_size) : Met l y_Bytes_cut (.code y_Bytes_cut b_Bytes_cut 2 none :: GW) { frames := 0, cells := 0, slots := 0, locals := 0 } (va_Pc [.ref a, .int length] (gP g cs ka [(a, .inr (0, [.ref a_items, .int a_size]))] sz)) (va_Qv (fun _ : Unit => True) (fun _ t => va_P g classes [(a, .inr (0, [.ref a_items, .int o_a_size]))] t.heap ∧ va_D (va_A [(a, .inr (0, [.ref a_items, .int a_size]))] sz) [(a, .inr (0, [.ref a_items, .int o_a_size]))]) (va_A [(a, .inr (0, [.ref a_items, .int a_size]))] sz)) 0 0 (va_A [(a, .inr (0, [.ref a_items, .int a_size]))] sz) := by
  refine Met.ofW (cc := b_Bytes_cut) (maxL := 2) (ret := none) (by decide) rfl ?_
  intro p e s m args below meth c s₁ B hml hv
  obtain ⟨rfl, hsz, hP, hK, hD0, hgl, hkn, hkr⟩ := hv
  have hx := B.exec
  have hb := B.bytes
  have hr := B.returns
  have hg : ∀ w ∈ GW, w.before ([.ref a, .int length] : List Value).toArray s = true := fun w hw => atoms_spec (ws := .code y_Bytes_cut b_Bytes_cut 2 none :: GW) B.pre w (List.mem_cons_of_mem _ hw)
  have hown : s.vm.findClass R_Bytes = some m.cls := findClass_of_methodNamed B.named
  have hlocks := B.notSynchronized
  subst hsz
  have hD := hD0.self (sz := s.heap.size)
  generalize hAe : va_A [(a, .inr (0, [.ref a_items, .int a_size]))] s.heap.size = A at hD hkn ⊢
  have hA : ∀ q : Nat, s.heap.size ≤ q → A q := fun q h => by rw [← hAe]; exact Or.inr h
  have hS : va_S A s.heap s.heap [] := va_S.rf
  have hP : va_P g classes [(a, .inr (0, [.ref a_items, .int a_size]))] s.heap := hP
  have hl := lv_entry ([.ref a, .int length]) (n := 2) (Nat.le_of_ble_eq_true rfl)
  rw [lg_entry_eq]
  generalize (lg_sl ([.ref a, .int length]) ++ List.replicate (2 - (lg_sl ([.ref a, .int length])).length) Slot.unset).toArray = ls at hl ⊢
  have hl : lv_has ls 2 [(0, .ref a), (1, .int length)] := hl
  refine gq (fun Q hQ => ?_)
  obtain ⟨H, hH⟩ : ∃ H : Heap, H = s.heap := ⟨_, rfl⟩
  rw [← hH] at hP
  have hS : va_S A s.heap H [] := by rw [hH]; exact hS
  refine W.eqH hH ?_
  obtain ⟨locs, hlc⟩ : ∃ L : List Loc, L = [] := ⟨_, rfl⟩
  rw [← hlc] at hS ⊢
  unfold p_Bytes_cut at hok
  refine lv_iload_n hx hb d_Bytes_cut_0 rfl (lv_at hl 1 rfl) ?_
  refine lv_if_lt hx hb d_Bytes_cut_1 rfl (fun h1 => ?_) (fun h1 => ?_)
  · rw [if_pos h1] at hok
    have hq := Option.some.inj hok
    have hq0 := hq
    subst hq0
    obtain ⟨hP9, hD9⟩ := sub2 (ws' := [(a, .inr (0, [.ref a_items, .int a_size]))]) hP hD [0] rfl (by decide) rfl
    rw [hQ]
    exact W.vret hx hb hr (fun t ht hW => ⟨⟨(), rfl, trivial, by rw [ht]; exact hP9, hD9⟩, hS.F ht⟩) hS.2.2 d_Bytes_cut_17
  · rw [if_neg h1] at hok
    refine lv_iload_n hx hb d_Bytes_cut_4 rfl (lv_at hl 1 rfl) ?_
    refine lv_aload_n hx hb d_Bytes_cut_5 rfl (lv_at hl 0 rfl) ?_
    refine va_get (D := g) (ci := 0) (v := .int a_size) (C := R_Bytes) (T := F_Bytes) (N := 2) hx hb hg ul_Bytes hown hK hP 0 rfl rfl 1 (by decide) (hg _ wd_212) (fun _ h9 => h9) rfl d_Bytes_cut_6 ?_
    refine lv_icmp_ge hx hb d_Bytes_cut_9 rfl (fun h2 => ?_) (fun h2 => ?_)
    · rw [if_pos h2] at hok
      have hq := Option.some.inj hok
      have hq0 := hq
      subst hq0
      obtain ⟨hP9, hD9⟩ := sub2 (ws' := [(a, .inr (0, [.ref a_items, .int a_size]))]) hP hD [0] rfl (by decide) rfl
      rw [hQ]
      exact W.vret hx hb hr (fun t ht hW => ⟨⟨(), rfl, trivial, by rw [ht]; exact hP9, hD9⟩, hS.F ht⟩) hS.2.2 d_Bytes_cut_17
    · rw [if_neg h2] at hok
      refine lv_aload_n hx hb d_Bytes_cut_12 rfl (lv_at hl 0 rfl) ?_
      refine lv_iload_n hx hb d_Bytes_cut_13 rfl (lv_at hl 1 rfl) ?_
      refine va_put (D := g) (ci := 0) (v := .int length) (ty := .int) (C := R_Bytes) (T := F_Bytes) (N := 2) hx hb hg ul_Bytes t_Bytes tk_Bytes n_Bytes hown hK hP hD hS 0 rfl rfl 1 (by decide) (hg _ wd_212) (fun _ h9 => h9) rfl (by decide +kernel) rfl rfl (Nat.le_of_ble_eq_true rfl) d_Bytes_cut_14 (fun H locs hP hD hS => ?_)
      obtain ⟨hP, hD⟩ : PD g A H [(a, .inr (0, [.ref a_items, .int length]))] := ⟨hP, hD⟩
      have hq := Option.some.inj hok
      have hq0 := hq
      subst hq0
      obtain ⟨hP9, hD9⟩ := sub2 (ws' := [(a, .inr (0, [.ref a_items, .int length]))]) hP hD [0] rfl (by decide) rfl
      rw [hQ]
      exact W.vret hx hb hr (fun t ht hW => ⟨⟨(), rfl, trivial, by rw [ht]; exact hP9, hD9⟩, hS.F ht⟩) hS.2.2 d_Bytes_cut_17

theorem d_Letters_isBlank_0 : decode b_Letters_isBlank 0 = .ok (.iload_n 0, 1) := by decide +kernel
theorem d_Letters_isBlank_1 : decode b_Letters_isBlank 1 = .ok (.bipush 9, 2) := by decide +kernel
theorem d_Letters_isBlank_3 : decode b_Letters_isBlank 3 = .ok (.if_icmp .eq 21, 3) := by decide +kernel
theorem d_Letters_isBlank_6 : decode b_Letters_isBlank 6 = .ok (.iload_n 0, 1) := by decide +kernel
theorem d_Letters_isBlank_7 : decode b_Letters_isBlank 7 = .ok (.bipush 10, 2) := by decide +kernel
theorem d_Letters_isBlank_9 : decode b_Letters_isBlank 9 = .ok (.if_icmp .eq 15, 3) := by decide +kernel
theorem d_Letters_isBlank_12 : decode b_Letters_isBlank 12 = .ok (.iload_n 0, 1) := by decide +kernel
theorem d_Letters_isBlank_13 : decode b_Letters_isBlank 13 = .ok (.bipush 13, 2) := by decide +kernel
theorem d_Letters_isBlank_15 : decode b_Letters_isBlank 15 = .ok (.if_icmp .eq 9, 3) := by decide +kernel
theorem d_Letters_isBlank_18 : decode b_Letters_isBlank 18 = .ok (.iload_n 0, 1) := by decide +kernel
theorem d_Letters_isBlank_19 : decode b_Letters_isBlank 19 = .ok (.bipush 32, 2) := by decide +kernel
theorem d_Letters_isBlank_21 : decode b_Letters_isBlank 21 = .ok (.if_icmp .ne 7, 3) := by decide +kernel
theorem d_Letters_isBlank_24 : decode b_Letters_isBlank 24 = .ok (.iconst 1, 1) := by decide +kernel
theorem d_Letters_isBlank_25 : decode b_Letters_isBlank 25 = .ok (.goto 4, 3) := by decide +kernel
theorem d_Letters_isBlank_28 : decode b_Letters_isBlank 28 = .ok (.iconst 0, 1) := by decide +kernel
theorem d_Letters_isBlank_29 : decode b_Letters_isBlank 29 = .ok (.ireturn, 1) := by decide +kernel
def p_Letters_isBlank (c0 : Int32) : Option Int32 := if c0 = 9 then (some (1 : Int32)) else (if c0 = 10 then (some (1 : Int32)) else (if c0 = 13 then (some (1 : Int32)) else (if c0 = 32 then (some (1 : Int32)) else (some (0 : Int32)))))
set_option maxHeartbeats 4000000 in
set_option maxRecDepth 100000 in
theorem c_Letters_isBlank (l : Launch) (g : va_G) (cs : Nat → ClassId) (ka : Nat → Nat) (sz : Nat) (c0 : Int32) (r : Int32) (hok : p_Letters_isBlank c0 = some r) : Met l y_Letters_isBlank (.code y_Letters_isBlank b_Letters_isBlank 1 (some .boolean) :: GW) { frames := 0, cells := 0, slots := 0, locals := 0 } (va_Pc [.int c0] (gP g cs ka [] sz)) (va_Qi (fun (r' : Int32) (_ : Unit) => r = r') (fun _ t => va_P g classes [] t.heap ∧ va_D (va_A [] sz) []) (va_A [] sz)) 0 0 (va_A [] sz) := by
  refine Met.ofW (cc := b_Letters_isBlank) (maxL := 1) (ret := (some .boolean)) (by decide) rfl ?_
  intro p e s m args below meth c s₁ B hml hv
  obtain ⟨rfl, hsz, hP, hK, hD0, hgl, hkn, hkr⟩ := hv
  have hx := B.exec
  have hb := B.bytes
  have hr := B.returns
  have hg : ∀ w ∈ GW, w.before ([.int c0] : List Value).toArray s = true := fun w hw => atoms_spec (ws := .code y_Letters_isBlank b_Letters_isBlank 1 (some .boolean) :: GW) B.pre w (List.mem_cons_of_mem _ hw)
  have hown : s.vm.findClass R_Letters = some m.cls := findClass_of_methodNamed B.named
  have hlocks := B.notSynchronized
  subst hsz
  have hD := hD0.self (sz := s.heap.size)
  generalize hAe : va_A [] s.heap.size = A at hD hkn ⊢
  have hA : ∀ q : Nat, s.heap.size ≤ q → A q := fun q h => by rw [← hAe]; exact Or.inr h
  have hS : va_S A s.heap s.heap [] := va_S.rf
  have hP : va_P g classes [] s.heap := hP
  have hl := lv_entry ([.int c0]) (n := 1) (Nat.le_of_ble_eq_true rfl)
  rw [lg_entry_eq]
  generalize (lg_sl ([.int c0]) ++ List.replicate (1 - (lg_sl ([.int c0])).length) Slot.unset).toArray = ls at hl ⊢
  have hl : lv_has ls 1 [(0, .int c0)] := hl
  refine gq (fun Q hQ => ?_)
  obtain ⟨H, hH⟩ : ∃ H : Heap, H = s.heap := ⟨_, rfl⟩
  rw [← hH] at hP
  have hS : va_S A s.heap H [] := by rw [hH]; exact hS
  refine W.eqH hH ?_
  obtain ⟨locs, hlc⟩ : ∃ L : List Loc, L = [] := ⟨_, rfl⟩
  rw [← hlc] at hS ⊢
  unfold p_Letters_isBlank at hok
  refine lv_iload_n hx hb d_Letters_isBlank_0 rfl (lv_at hl 0 rfl) ?_
  refine lv_bipush (v := 9) hx hb d_Letters_isBlank_1 (by decide) ?_
  refine lv_icmp_eq hx hb d_Letters_isBlank_3 rfl (fun h1 => ?_) (fun h1 => ?_)
  · rw [if_pos h1] at hok
    refine lv_iconst (v := 1) hx hb d_Letters_isBlank_24 (by decide) ?_
    refine lv_goto hx hb d_Letters_isBlank_25 rfl ?_
    have hq := Option.some.inj hok
    have hq0 := hq
    subst hq0
    obtain ⟨hP9, hD9⟩ := sub2 (ws' := []) hP hD [] rfl (by decide) rfl
    rw [hQ]
    exact W.zret (v := 1) hx hb hr rfl (fun t ht hW => ⟨⟨_, (), rfl, rfl, by rw [ht]; exact hP9, hD9⟩, hS.F ht⟩) hS.2.2 d_Letters_isBlank_29
  · rw [if_neg h1] at hok
    refine lv_iload_n hx hb d_Letters_isBlank_6 rfl (lv_at hl 0 rfl) ?_
    refine lv_bipush (v := 10) hx hb d_Letters_isBlank_7 (by decide) ?_
    refine lv_icmp_eq hx hb d_Letters_isBlank_9 rfl (fun h2 => ?_) (fun h2 => ?_)
    · rw [if_pos h2] at hok
      refine lv_iconst (v := 1) hx hb d_Letters_isBlank_24 (by decide) ?_
      refine lv_goto hx hb d_Letters_isBlank_25 rfl ?_
      have hq := Option.some.inj hok
      have hq0 := hq
      subst hq0
      obtain ⟨hP9, hD9⟩ := sub2 (ws' := []) hP hD [] rfl (by decide) rfl
      rw [hQ]
      exact W.zret (v := 1) hx hb hr rfl (fun t ht hW => ⟨⟨_, (), rfl, rfl, by rw [ht]; exact hP9, hD9⟩, hS.F ht⟩) hS.2.2 d_Letters_isBlank_29
    · rw [if_neg h2] at hok
      refine lv_iload_n hx hb d_Letters_isBlank_12 rfl (lv_at hl 0 rfl) ?_
      refine lv_bipush (v := 13) hx hb d_Letters_isBlank_13 (by decide) ?_
      refine lv_icmp_eq hx hb d_Letters_isBlank_15 rfl (fun h3 => ?_) (fun h3 => ?_)
      · rw [if_pos h3] at hok
        refine lv_iconst (v := 1) hx hb d_Letters_isBlank_24 (by decide) ?_
        refine lv_goto hx hb d_Letters_isBlank_25 rfl ?_
        have hq := Option.some.inj hok
        have hq0 := hq
        subst hq0
        obtain ⟨hP9, hD9⟩ := sub2 (ws' := []) hP hD [] rfl (by decide) rfl
        rw [hQ]
        exact W.zret (v := 1) hx hb hr rfl (fun t ht hW => ⟨⟨_, (), rfl, rfl, by rw [ht]; exact hP9, hD9⟩, hS.F ht⟩) hS.2.2 d_Letters_isBlank_29
      · rw [if_neg h3] at hok
        refine lv_iload_n hx hb d_Letters_isBlank_18 rfl (lv_at hl 0 rfl) ?_
        refine lv_bipush (v := 32) hx hb d_Letters_isBlank_19 (by decide) ?_
        refine lv_icmp_ne hx hb d_Letters_isBlank_21 rfl (fun h4 => ?_) (fun h4 => ?_)
        · rw [if_neg h4] at hok
          refine lv_iconst (v := 0) hx hb d_Letters_isBlank_28 (by decide) ?_
          have hq := Option.some.inj hok
          have hq0 := hq
          subst hq0
          obtain ⟨hP9, hD9⟩ := sub2 (ws' := []) hP hD [] rfl (by decide) rfl
          rw [hQ]
          exact W.zret (v := 0) hx hb hr rfl (fun t ht hW => ⟨⟨_, (), rfl, rfl, by rw [ht]; exact hP9, hD9⟩, hS.F ht⟩) hS.2.2 d_Letters_isBlank_29
        · rw [if_pos h4] at hok
          refine lv_iconst (v := 1) hx hb d_Letters_isBlank_24 (by decide) ?_
          refine lv_goto hx hb d_Letters_isBlank_25 rfl ?_
          have hq := Option.some.inj hok
          have hq0 := hq
          subst hq0
          obtain ⟨hP9, hD9⟩ := sub2 (ws' := []) hP hD [] rfl (by decide) rfl
          rw [hQ]
          exact W.zret (v := 1) hx hb hr rfl (fun t ht hW => ⟨⟨_, (), rfl, rfl, by rw [ht]; exact hP9, hD9⟩, hS.F ht⟩) hS.2.2 d_Letters_isBlank_29

theorem d_Letters_isDigit_0 : decode b_Letters_isDigit 0 = .ok (.iload_n 0, 1) := by decide +kernel
theorem d_Letters_isDigit_1 : decode b_Letters_isDigit 1 = .ok (.bipush 48, 2) := by decide +kernel
theorem d_Letters_isDigit_3 : decode b_Letters_isDigit 3 = .ok (.if_icmp .lt 13, 3) := by decide +kernel
theorem d_Letters_isDigit_6 : decode b_Letters_isDigit 6 = .ok (.iload_n 0, 1) := by decide +kernel
theorem d_Letters_isDigit_7 : decode b_Letters_isDigit 7 = .ok (.bipush 57, 2) := by decide +kernel
theorem d_Letters_isDigit_9 : decode b_Letters_isDigit 9 = .ok (.if_icmp .gt 7, 3) := by decide +kernel
theorem d_Letters_isDigit_12 : decode b_Letters_isDigit 12 = .ok (.iconst 1, 1) := by decide +kernel
theorem d_Letters_isDigit_13 : decode b_Letters_isDigit 13 = .ok (.goto 4, 3) := by decide +kernel
theorem d_Letters_isDigit_16 : decode b_Letters_isDigit 16 = .ok (.iconst 0, 1) := by decide +kernel
theorem d_Letters_isDigit_17 : decode b_Letters_isDigit 17 = .ok (.ireturn, 1) := by decide +kernel
def p_Letters_isDigit (c0 : Int32) : Option Int32 := if c0 < 48 then (some (0 : Int32)) else (if 57 < c0 then (some (0 : Int32)) else (some (1 : Int32)))
set_option maxHeartbeats 4000000 in
set_option maxRecDepth 100000 in
theorem c_Letters_isDigit (l : Launch) (g : va_G) (cs : Nat → ClassId) (ka : Nat → Nat) (sz : Nat) (c0 : Int32) (r : Int32) (hok : p_Letters_isDigit c0 = some r) : Met l y_Letters_isDigit (.code y_Letters_isDigit b_Letters_isDigit 1 (some .boolean) :: GW) { frames := 0, cells := 0, slots := 0, locals := 0 } (va_Pc [.int c0] (gP g cs ka [] sz)) (va_Qi (fun (r' : Int32) (_ : Unit) => r = r') (fun _ t => va_P g classes [] t.heap ∧ va_D (va_A [] sz) []) (va_A [] sz)) 0 0 (va_A [] sz) := by
  refine Met.ofW (cc := b_Letters_isDigit) (maxL := 1) (ret := (some .boolean)) (by decide) rfl ?_
  intro p e s m args below meth c s₁ B hml hv
  obtain ⟨rfl, hsz, hP, hK, hD0, hgl, hkn, hkr⟩ := hv
  have hx := B.exec
  have hb := B.bytes
  have hr := B.returns
  have hg : ∀ w ∈ GW, w.before ([.int c0] : List Value).toArray s = true := fun w hw => atoms_spec (ws := .code y_Letters_isDigit b_Letters_isDigit 1 (some .boolean) :: GW) B.pre w (List.mem_cons_of_mem _ hw)
  have hown : s.vm.findClass R_Letters = some m.cls := findClass_of_methodNamed B.named
  have hlocks := B.notSynchronized
  subst hsz
  have hD := hD0.self (sz := s.heap.size)
  generalize hAe : va_A [] s.heap.size = A at hD hkn ⊢
  have hA : ∀ q : Nat, s.heap.size ≤ q → A q := fun q h => by rw [← hAe]; exact Or.inr h
  have hS : va_S A s.heap s.heap [] := va_S.rf
  have hP : va_P g classes [] s.heap := hP
  have hl := lv_entry ([.int c0]) (n := 1) (Nat.le_of_ble_eq_true rfl)
  rw [lg_entry_eq]
  generalize (lg_sl ([.int c0]) ++ List.replicate (1 - (lg_sl ([.int c0])).length) Slot.unset).toArray = ls at hl ⊢
  have hl : lv_has ls 1 [(0, .int c0)] := hl
  refine gq (fun Q hQ => ?_)
  obtain ⟨H, hH⟩ : ∃ H : Heap, H = s.heap := ⟨_, rfl⟩
  rw [← hH] at hP
  have hS : va_S A s.heap H [] := by rw [hH]; exact hS
  refine W.eqH hH ?_
  obtain ⟨locs, hlc⟩ : ∃ L : List Loc, L = [] := ⟨_, rfl⟩
  rw [← hlc] at hS ⊢
  unfold p_Letters_isDigit at hok
  refine lv_iload_n hx hb d_Letters_isDigit_0 rfl (lv_at hl 0 rfl) ?_
  refine lv_bipush (v := 48) hx hb d_Letters_isDigit_1 (by decide) ?_
  refine lv_icmp_lt hx hb d_Letters_isDigit_3 rfl (fun h1 => ?_) (fun h1 => ?_)
  · rw [if_pos h1] at hok
    refine lv_iconst (v := 0) hx hb d_Letters_isDigit_16 (by decide) ?_
    have hq := Option.some.inj hok
    have hq0 := hq
    subst hq0
    obtain ⟨hP9, hD9⟩ := sub2 (ws' := []) hP hD [] rfl (by decide) rfl
    rw [hQ]
    exact W.zret (v := 0) hx hb hr rfl (fun t ht hW => ⟨⟨_, (), rfl, rfl, by rw [ht]; exact hP9, hD9⟩, hS.F ht⟩) hS.2.2 d_Letters_isDigit_17
  · rw [if_neg h1] at hok
    refine lv_iload_n hx hb d_Letters_isDigit_6 rfl (lv_at hl 0 rfl) ?_
    refine lv_bipush (v := 57) hx hb d_Letters_isDigit_7 (by decide) ?_
    refine lv_icmp_gt hx hb d_Letters_isDigit_9 rfl (fun h2 => ?_) (fun h2 => ?_)
    · rw [if_pos h2] at hok
      refine lv_iconst (v := 0) hx hb d_Letters_isDigit_16 (by decide) ?_
      have hq := Option.some.inj hok
      have hq0 := hq
      subst hq0
      obtain ⟨hP9, hD9⟩ := sub2 (ws' := []) hP hD [] rfl (by decide) rfl
      rw [hQ]
      exact W.zret (v := 0) hx hb hr rfl (fun t ht hW => ⟨⟨_, (), rfl, rfl, by rw [ht]; exact hP9, hD9⟩, hS.F ht⟩) hS.2.2 d_Letters_isDigit_17
    · rw [if_neg h2] at hok
      refine lv_iconst (v := 1) hx hb d_Letters_isDigit_12 (by decide) ?_
      refine lv_goto hx hb d_Letters_isDigit_13 rfl ?_
      have hq := Option.some.inj hok
      have hq0 := hq
      subst hq0
      obtain ⟨hP9, hD9⟩ := sub2 (ws' := []) hP hD [] rfl (by decide) rfl
      rw [hQ]
      exact W.zret (v := 1) hx hb hr rfl (fun t ht hW => ⟨⟨_, (), rfl, rfl, by rw [ht]; exact hP9, hD9⟩, hS.F ht⟩) hS.2.2 d_Letters_isDigit_17

theorem d_Letters_isSmall_0 : decode b_Letters_isSmall 0 = .ok (.iload_n 0, 1) := by decide +kernel
theorem d_Letters_isSmall_1 : decode b_Letters_isSmall 1 = .ok (.bipush 97, 2) := by decide +kernel
theorem d_Letters_isSmall_3 : decode b_Letters_isSmall 3 = .ok (.if_icmp .lt 13, 3) := by decide +kernel
theorem d_Letters_isSmall_6 : decode b_Letters_isSmall 6 = .ok (.iload_n 0, 1) := by decide +kernel
theorem d_Letters_isSmall_7 : decode b_Letters_isSmall 7 = .ok (.bipush 122, 2) := by decide +kernel
theorem d_Letters_isSmall_9 : decode b_Letters_isSmall 9 = .ok (.if_icmp .gt 7, 3) := by decide +kernel
theorem d_Letters_isSmall_12 : decode b_Letters_isSmall 12 = .ok (.iconst 1, 1) := by decide +kernel
theorem d_Letters_isSmall_13 : decode b_Letters_isSmall 13 = .ok (.goto 4, 3) := by decide +kernel
theorem d_Letters_isSmall_16 : decode b_Letters_isSmall 16 = .ok (.iconst 0, 1) := by decide +kernel
theorem d_Letters_isSmall_17 : decode b_Letters_isSmall 17 = .ok (.ireturn, 1) := by decide +kernel
def p_Letters_isSmall (c0 : Int32) : Option Int32 := if c0 < 97 then (some (0 : Int32)) else (if 122 < c0 then (some (0 : Int32)) else (some (1 : Int32)))
set_option maxHeartbeats 4000000 in
set_option maxRecDepth 100000 in
theorem c_Letters_isSmall (l : Launch) (g : va_G) (cs : Nat → ClassId) (ka : Nat → Nat) (sz : Nat) (c0 : Int32) (r : Int32) (hok : p_Letters_isSmall c0 = some r) : Met l y_Letters_isSmall (.code y_Letters_isSmall b_Letters_isSmall 1 (some .boolean) :: GW) { frames := 0, cells := 0, slots := 0, locals := 0 } (va_Pc [.int c0] (gP g cs ka [] sz)) (va_Qi (fun (r' : Int32) (_ : Unit) => r = r') (fun _ t => va_P g classes [] t.heap ∧ va_D (va_A [] sz) []) (va_A [] sz)) 0 0 (va_A [] sz) := by
  refine Met.ofW (cc := b_Letters_isSmall) (maxL := 1) (ret := (some .boolean)) (by decide) rfl ?_
  intro p e s m args below meth c s₁ B hml hv
  obtain ⟨rfl, hsz, hP, hK, hD0, hgl, hkn, hkr⟩ := hv
  have hx := B.exec
  have hb := B.bytes
  have hr := B.returns
  have hg : ∀ w ∈ GW, w.before ([.int c0] : List Value).toArray s = true := fun w hw => atoms_spec (ws := .code y_Letters_isSmall b_Letters_isSmall 1 (some .boolean) :: GW) B.pre w (List.mem_cons_of_mem _ hw)
  have hown : s.vm.findClass R_Letters = some m.cls := findClass_of_methodNamed B.named
  have hlocks := B.notSynchronized
  subst hsz
  have hD := hD0.self (sz := s.heap.size)
  generalize hAe : va_A [] s.heap.size = A at hD hkn ⊢
  have hA : ∀ q : Nat, s.heap.size ≤ q → A q := fun q h => by rw [← hAe]; exact Or.inr h
  have hS : va_S A s.heap s.heap [] := va_S.rf
  have hP : va_P g classes [] s.heap := hP
  have hl := lv_entry ([.int c0]) (n := 1) (Nat.le_of_ble_eq_true rfl)
  rw [lg_entry_eq]
  generalize (lg_sl ([.int c0]) ++ List.replicate (1 - (lg_sl ([.int c0])).length) Slot.unset).toArray = ls at hl ⊢
  have hl : lv_has ls 1 [(0, .int c0)] := hl
  refine gq (fun Q hQ => ?_)
  obtain ⟨H, hH⟩ : ∃ H : Heap, H = s.heap := ⟨_, rfl⟩
  rw [← hH] at hP
  have hS : va_S A s.heap H [] := by rw [hH]; exact hS
  refine W.eqH hH ?_
  obtain ⟨locs, hlc⟩ : ∃ L : List Loc, L = [] := ⟨_, rfl⟩
  rw [← hlc] at hS ⊢
  unfold p_Letters_isSmall at hok
  refine lv_iload_n hx hb d_Letters_isSmall_0 rfl (lv_at hl 0 rfl) ?_
  refine lv_bipush (v := 97) hx hb d_Letters_isSmall_1 (by decide) ?_
  refine lv_icmp_lt hx hb d_Letters_isSmall_3 rfl (fun h1 => ?_) (fun h1 => ?_)
  · rw [if_pos h1] at hok
    refine lv_iconst (v := 0) hx hb d_Letters_isSmall_16 (by decide) ?_
    have hq := Option.some.inj hok
    have hq0 := hq
    subst hq0
    obtain ⟨hP9, hD9⟩ := sub2 (ws' := []) hP hD [] rfl (by decide) rfl
    rw [hQ]
    exact W.zret (v := 0) hx hb hr rfl (fun t ht hW => ⟨⟨_, (), rfl, rfl, by rw [ht]; exact hP9, hD9⟩, hS.F ht⟩) hS.2.2 d_Letters_isSmall_17
  · rw [if_neg h1] at hok
    refine lv_iload_n hx hb d_Letters_isSmall_6 rfl (lv_at hl 0 rfl) ?_
    refine lv_bipush (v := 122) hx hb d_Letters_isSmall_7 (by decide) ?_
    refine lv_icmp_gt hx hb d_Letters_isSmall_9 rfl (fun h2 => ?_) (fun h2 => ?_)
    · rw [if_pos h2] at hok
      refine lv_iconst (v := 0) hx hb d_Letters_isSmall_16 (by decide) ?_
      have hq := Option.some.inj hok
      have hq0 := hq
      subst hq0
      obtain ⟨hP9, hD9⟩ := sub2 (ws' := []) hP hD [] rfl (by decide) rfl
      rw [hQ]
      exact W.zret (v := 0) hx hb hr rfl (fun t ht hW => ⟨⟨_, (), rfl, rfl, by rw [ht]; exact hP9, hD9⟩, hS.F ht⟩) hS.2.2 d_Letters_isSmall_17
    · rw [if_neg h2] at hok
      refine lv_iconst (v := 1) hx hb d_Letters_isSmall_12 (by decide) ?_
      refine lv_goto hx hb d_Letters_isSmall_13 rfl ?_
      have hq := Option.some.inj hok
      have hq0 := hq
      subst hq0
      obtain ⟨hP9, hD9⟩ := sub2 (ws' := []) hP hD [] rfl (by decide) rfl
      rw [hQ]
      exact W.zret (v := 1) hx hb hr rfl (fun t ht hW => ⟨⟨_, (), rfl, rfl, by rw [ht]; exact hP9, hD9⟩, hS.F ht⟩) hS.2.2 d_Letters_isSmall_17

theorem d_Letters_beginsVariable_0 : decode b_Letters_beginsVariable 0 = .ok (.iload_n 0, 1) := by decide +kernel
theorem d_Letters_beginsVariable_1 : decode b_Letters_beginsVariable 1 = .ok (.bipush 65, 2) := by decide +kernel
theorem d_Letters_beginsVariable_3 : decode b_Letters_beginsVariable 3 = .ok (.if_icmp .lt 9, 3) := by decide +kernel
theorem d_Letters_beginsVariable_6 : decode b_Letters_beginsVariable 6 = .ok (.iload_n 0, 1) := by decide +kernel
theorem d_Letters_beginsVariable_7 : decode b_Letters_beginsVariable 7 = .ok (.bipush 90, 2) := by decide +kernel
theorem d_Letters_beginsVariable_9 : decode b_Letters_beginsVariable 9 = .ok (.if_icmp .le 9, 3) := by decide +kernel
theorem d_Letters_beginsVariable_12 : decode b_Letters_beginsVariable 12 = .ok (.iload_n 0, 1) := by decide +kernel
theorem d_Letters_beginsVariable_13 : decode b_Letters_beginsVariable 13 = .ok (.bipush 95, 2) := by decide +kernel
theorem d_Letters_beginsVariable_15 : decode b_Letters_beginsVariable 15 = .ok (.if_icmp .ne 7, 3) := by decide +kernel
theorem d_Letters_beginsVariable_18 : decode b_Letters_beginsVariable 18 = .ok (.iconst 1, 1) := by decide +kernel
theorem d_Letters_beginsVariable_19 : decode b_Letters_beginsVariable 19 = .ok (.goto 4, 3) := by decide +kernel
theorem d_Letters_beginsVariable_22 : decode b_Letters_beginsVariable 22 = .ok (.iconst 0, 1) := by decide +kernel
theorem d_Letters_beginsVariable_23 : decode b_Letters_beginsVariable 23 = .ok (.ireturn, 1) := by decide +kernel
def p_Letters_beginsVariable (c0 : Int32) : Option Int32 := if c0 < 65 then (if c0 = 95 then (some (1 : Int32)) else (some (0 : Int32))) else (if c0 ≤ 90 then (some (1 : Int32)) else (if c0 = 95 then (some (1 : Int32)) else (some (0 : Int32))))
set_option maxHeartbeats 4000000 in
set_option maxRecDepth 100000 in
theorem c_Letters_beginsVariable (l : Launch) (g : va_G) (cs : Nat → ClassId) (ka : Nat → Nat) (sz : Nat) (c0 : Int32) (r : Int32) (hok : p_Letters_beginsVariable c0 = some r) : Met l y_Letters_beginsVariable (.code y_Letters_beginsVariable b_Letters_beginsVariable 1 (some .boolean) :: GW) { frames := 0, cells := 0, slots := 0, locals := 0 } (va_Pc [.int c0] (gP g cs ka [] sz)) (va_Qi (fun (r' : Int32) (_ : Unit) => r = r') (fun _ t => va_P g classes [] t.heap ∧ va_D (va_A [] sz) []) (va_A [] sz)) 0 0 (va_A [] sz) := by
  refine Met.ofW (cc := b_Letters_beginsVariable) (maxL := 1) (ret := (some .boolean)) (by decide) rfl ?_
  intro p e s m args below meth c s₁ B hml hv
  obtain ⟨rfl, hsz, hP, hK, hD0, hgl, hkn, hkr⟩ := hv
  have hx := B.exec
  have hb := B.bytes
  have hr := B.returns
  have hg : ∀ w ∈ GW, w.before ([.int c0] : List Value).toArray s = true := fun w hw => atoms_spec (ws := .code y_Letters_beginsVariable b_Letters_beginsVariable 1 (some .boolean) :: GW) B.pre w (List.mem_cons_of_mem _ hw)
  have hown : s.vm.findClass R_Letters = some m.cls := findClass_of_methodNamed B.named
  have hlocks := B.notSynchronized
  subst hsz
  have hD := hD0.self (sz := s.heap.size)
  generalize hAe : va_A [] s.heap.size = A at hD hkn ⊢
  have hA : ∀ q : Nat, s.heap.size ≤ q → A q := fun q h => by rw [← hAe]; exact Or.inr h
  have hS : va_S A s.heap s.heap [] := va_S.rf
  have hP : va_P g classes [] s.heap := hP
  have hl := lv_entry ([.int c0]) (n := 1) (Nat.le_of_ble_eq_true rfl)
  rw [lg_entry_eq]
  generalize (lg_sl ([.int c0]) ++ List.replicate (1 - (lg_sl ([.int c0])).length) Slot.unset).toArray = ls at hl ⊢
  have hl : lv_has ls 1 [(0, .int c0)] := hl
  refine gq (fun Q hQ => ?_)
  obtain ⟨H, hH⟩ : ∃ H : Heap, H = s.heap := ⟨_, rfl⟩
  rw [← hH] at hP
  have hS : va_S A s.heap H [] := by rw [hH]; exact hS
  refine W.eqH hH ?_
  obtain ⟨locs, hlc⟩ : ∃ L : List Loc, L = [] := ⟨_, rfl⟩
  rw [← hlc] at hS ⊢
  unfold p_Letters_beginsVariable at hok
  refine lv_iload_n hx hb d_Letters_beginsVariable_0 rfl (lv_at hl 0 rfl) ?_
  refine lv_bipush (v := 65) hx hb d_Letters_beginsVariable_1 (by decide) ?_
  refine lv_icmp_lt hx hb d_Letters_beginsVariable_3 rfl (fun h1 => ?_) (fun h1 => ?_)
  · rw [if_pos h1] at hok
    refine lv_iload_n hx hb d_Letters_beginsVariable_12 rfl (lv_at hl 0 rfl) ?_
    refine lv_bipush (v := 95) hx hb d_Letters_beginsVariable_13 (by decide) ?_
    refine lv_icmp_ne hx hb d_Letters_beginsVariable_15 rfl (fun h2 => ?_) (fun h2 => ?_)
    · rw [if_neg h2] at hok
      refine lv_iconst (v := 0) hx hb d_Letters_beginsVariable_22 (by decide) ?_
      have hq := Option.some.inj hok
      have hq0 := hq
      subst hq0
      obtain ⟨hP9, hD9⟩ := sub2 (ws' := []) hP hD [] rfl (by decide) rfl
      rw [hQ]
      exact W.zret (v := 0) hx hb hr rfl (fun t ht hW => ⟨⟨_, (), rfl, rfl, by rw [ht]; exact hP9, hD9⟩, hS.F ht⟩) hS.2.2 d_Letters_beginsVariable_23
    · rw [if_pos h2] at hok
      refine lv_iconst (v := 1) hx hb d_Letters_beginsVariable_18 (by decide) ?_
      refine lv_goto hx hb d_Letters_beginsVariable_19 rfl ?_
      have hq := Option.some.inj hok
      have hq0 := hq
      subst hq0
      obtain ⟨hP9, hD9⟩ := sub2 (ws' := []) hP hD [] rfl (by decide) rfl
      rw [hQ]
      exact W.zret (v := 1) hx hb hr rfl (fun t ht hW => ⟨⟨_, (), rfl, rfl, by rw [ht]; exact hP9, hD9⟩, hS.F ht⟩) hS.2.2 d_Letters_beginsVariable_23
  · rw [if_neg h1] at hok
    refine lv_iload_n hx hb d_Letters_beginsVariable_6 rfl (lv_at hl 0 rfl) ?_
    refine lv_bipush (v := 90) hx hb d_Letters_beginsVariable_7 (by decide) ?_
    refine lv_icmp_le hx hb d_Letters_beginsVariable_9 rfl (fun h3 => ?_) (fun h3 => ?_)
    · rw [if_pos h3] at hok
      refine lv_iconst (v := 1) hx hb d_Letters_beginsVariable_18 (by decide) ?_
      refine lv_goto hx hb d_Letters_beginsVariable_19 rfl ?_
      have hq := Option.some.inj hok
      have hq0 := hq
      subst hq0
      obtain ⟨hP9, hD9⟩ := sub2 (ws' := []) hP hD [] rfl (by decide) rfl
      rw [hQ]
      exact W.zret (v := 1) hx hb hr rfl (fun t ht hW => ⟨⟨_, (), rfl, rfl, by rw [ht]; exact hP9, hD9⟩, hS.F ht⟩) hS.2.2 d_Letters_beginsVariable_23
    · rw [if_neg h3] at hok
      refine lv_iload_n hx hb d_Letters_beginsVariable_12 rfl (lv_at hl 0 rfl) ?_
      refine lv_bipush (v := 95) hx hb d_Letters_beginsVariable_13 (by decide) ?_
      refine lv_icmp_ne hx hb d_Letters_beginsVariable_15 rfl (fun h4 => ?_) (fun h4 => ?_)
      · rw [if_neg h4] at hok
        refine lv_iconst (v := 0) hx hb d_Letters_beginsVariable_22 (by decide) ?_
        have hq := Option.some.inj hok
        have hq0 := hq
        subst hq0
        obtain ⟨hP9, hD9⟩ := sub2 (ws' := []) hP hD [] rfl (by decide) rfl
        rw [hQ]
        exact W.zret (v := 0) hx hb hr rfl (fun t ht hW => ⟨⟨_, (), rfl, rfl, by rw [ht]; exact hP9, hD9⟩, hS.F ht⟩) hS.2.2 d_Letters_beginsVariable_23
      · rw [if_pos h4] at hok
        refine lv_iconst (v := 1) hx hb d_Letters_beginsVariable_18 (by decide) ?_
        refine lv_goto hx hb d_Letters_beginsVariable_19 rfl ?_
        have hq := Option.some.inj hok
        have hq0 := hq
        subst hq0
        obtain ⟨hP9, hD9⟩ := sub2 (ws' := []) hP hD [] rfl (by decide) rfl
        rw [hQ]
        exact W.zret (v := 1) hx hb hr rfl (fun t ht hW => ⟨⟨_, (), rfl, rfl, by rw [ht]; exact hP9, hD9⟩, hS.F ht⟩) hS.2.2 d_Letters_beginsVariable_23

theorem d_Letters_isOfWord_0 : decode b_Letters_isOfWord 0 = .ok (.iload_n 0, 1) := by decide +kernel
theorem d_Letters_isOfWord_1 : decode b_Letters_isOfWord 1 = .ok (.invokestatic 7, 3) := by decide +kernel
theorem d_Letters_isOfWord_4 : decode b_Letters_isOfWord 4 = .ok (.ifCond .ne 17, 3) := by decide +kernel
theorem d_Letters_isOfWord_7 : decode b_Letters_isOfWord 7 = .ok (.iload_n 0, 1) := by decide +kernel
theorem d_Letters_isOfWord_8 : decode b_Letters_isOfWord 8 = .ok (.invokestatic 13, 3) := by decide +kernel
theorem d_Letters_isOfWord_11 : decode b_Letters_isOfWord 11 = .ok (.ifCond .ne 10, 3) := by decide +kernel
theorem d_Letters_isOfWord_14 : decode b_Letters_isOfWord 14 = .ok (.iload_n 0, 1) := by decide +kernel
theorem d_Letters_isOfWord_15 : decode b_Letters_isOfWord 15 = .ok (.invokestatic 16, 3) := by decide +kernel
theorem d_Letters_isOfWord_18 : decode b_Letters_isOfWord 18 = .ok (.ifCond .eq 7, 3) := by decide +kernel
theorem d_Letters_isOfWord_21 : decode b_Letters_isOfWord 21 = .ok (.iconst 1, 1) := by decide +kernel
theorem d_Letters_isOfWord_22 : decode b_Letters_isOfWord 22 = .ok (.goto 4, 3) := by decide +kernel
theorem d_Letters_isOfWord_25 : decode b_Letters_isOfWord 25 = .ok (.iconst 0, 1) := by decide +kernel
theorem d_Letters_isOfWord_26 : decode b_Letters_isOfWord 26 = .ok (.ireturn, 1) := by decide +kernel
def p_Letters_isOfWord (c0 : Int32) : Option Int32 := (p_Letters_isSmall c0).bind (fun r1 => if r1 = 0 then ((p_Letters_beginsVariable c0).bind (fun r3 => if r3 = 0 then ((p_Letters_isDigit c0).bind (fun r5 => if r5 = 0 then (some (0 : Int32)) else (some (1 : Int32)))) else (some (1 : Int32)))) else (some (1 : Int32)))
set_option maxHeartbeats 4000000 in
set_option maxRecDepth 100000 in
theorem c_Letters_isOfWord (l : Launch) (g : va_G) (cs : Nat → ClassId) (ka : Nat → Nat) (sz : Nat) (c0 : Int32) (r : Int32) (hok : p_Letters_isOfWord c0 = some r) : Met l y_Letters_isOfWord (.code y_Letters_isOfWord b_Letters_isOfWord 1 (some .boolean) :: GW) { frames := 1, cells := 0, slots := 0, locals := 20 } (va_Pc [.int c0] (gP g cs ka [] sz)) (va_Qi (fun (r' : Int32) (_ : Unit) => r = r') (fun _ t => va_P g classes [] t.heap ∧ va_D (va_A [] sz) []) (va_A [] sz)) 0 0 (va_A [] sz) := by
  refine Met.ofW (cc := b_Letters_isOfWord) (maxL := 1) (ret := (some .boolean)) (by decide) rfl ?_
  intro p e s m args below meth c s₁ B hml hv
  obtain ⟨rfl, hsz, hP, hK, hD0, hgl, hkn, hkr⟩ := hv
  have hx := B.exec
  have hb := B.bytes
  have hr := B.returns
  have hg : ∀ w ∈ GW, w.before ([.int c0] : List Value).toArray s = true := fun w hw => atoms_spec (ws := .code y_Letters_isOfWord b_Letters_isOfWord 1 (some .boolean) :: GW) B.pre w (List.mem_cons_of_mem _ hw)
  have hown : s.vm.findClass R_Letters = some m.cls := findClass_of_methodNamed B.named
  have hlocks := B.notSynchronized
  subst hsz
  have hD := hD0.self (sz := s.heap.size)
  generalize hAe : va_A [] s.heap.size = A at hD hkn ⊢
  have hA : ∀ q : Nat, s.heap.size ≤ q → A q := fun q h => by rw [← hAe]; exact Or.inr h
  have hS : va_S A s.heap s.heap [] := va_S.rf
  have hP : va_P g classes [] s.heap := hP
  have hl := lv_entry ([.int c0]) (n := 1) (Nat.le_of_ble_eq_true rfl)
  rw [lg_entry_eq]
  generalize (lg_sl ([.int c0]) ++ List.replicate (1 - (lg_sl ([.int c0])).length) Slot.unset).toArray = ls at hl ⊢
  have hl : lv_has ls 1 [(0, .int c0)] := hl
  refine gq (fun Q hQ => ?_)
  obtain ⟨H, hH⟩ : ∃ H : Heap, H = s.heap := ⟨_, rfl⟩
  rw [← hH] at hP
  have hS : va_S A s.heap H [] := by rw [hH]; exact hS
  refine W.eqH hH ?_
  obtain ⟨locs, hlc⟩ : ∃ L : List Loc, L = [] := ⟨_, rfl⟩
  rw [← hlc] at hS ⊢
  unfold p_Letters_isOfWord at hok
  refine lv_iload_n hx hb d_Letters_isOfWord_0 rfl (lv_at hl 0 rfl) ?_
  obtain ⟨r1, hc1, hok⟩ := bd_some hok
  obtain ⟨hPc, hDc, hFc⟩ := cut0 (wc := []) hP hD hS hA [] (by decide) rfl
  refine va_calli (va_runS (As := [.int c0]) (rest := []) ⟨hx, hb, hml, hown, hg⟩ (c_Letters_isSmall l g cs ka H.size c0 r1 hc1) (va_cwS 1 hg (gw_S wd_218 wd_219 wd_217 wd_216) rfl rfl rfl (by decide +kernel) ⟨Nat.le_of_ble_eq_true rfl, Nat.le_of_ble_eq_true rfl⟩) ⟨gP_blind, gP_pre hPc hDc hK hgl hkn hkr hS hFc⟩ rfl rfl hl.1 rfl (lv_room (Nat.le_of_ble_eq_true rfl)) d_Letters_isOfWord_1 ⟨Nat.le_of_ble_eq_true rfl, Nat.le_of_ble_eq_true rfl⟩) hS (fun q _ h => hFc q h) hFc (fun r1' u t H locs ht hvm hr1 hB hz1 hk1 hS => ?_)
  subst hr1
  rw [ht] at hB
  obtain ⟨hP1, hD1⟩ := hB
  obtain ⟨hP, hD⟩ := jn_A hP hD [] [] rfl rfl (by decide) (by decide) hk1 hFc hP1 hD1
  obtain ⟨hP, hD⟩ : PD g A H [] := ⟨hP, hD⟩
  refine lv_if_ne hx hb d_Letters_isOfWord_4 rfl (fun h2 => ?_) (fun h2 => ?_)
  · rw [if_neg h2] at hok
    refine lv_iconst (v := 1) hx hb d_Letters_isOfWord_21 (by decide) ?_
    refine lv_goto hx hb d_Letters_isOfWord_22 rfl ?_
    have hq := Option.some.inj hok
    have hq0 := hq
    subst hq0
    obtain ⟨hP9, hD9⟩ := sub2 (ws' := []) hP hD [] rfl (by decide) rfl
    rw [hQ]
    exact W.zret (v := 1) hx hb hr rfl (fun t ht hW => ⟨⟨_, (), rfl, rfl, by rw [ht]; exact hP9, hD9⟩, hS.F ht⟩) hS.2.2 d_Letters_isOfWord_26
  · rw [if_pos h2] at hok
    refine lv_iload_n hx hb d_Letters_isOfWord_7 rfl (lv_at hl 0 rfl) ?_
    obtain ⟨r3, hc3, hok⟩ := bd_some hok
    obtain ⟨hPc, hDc, hFc⟩ := cut0 (wc := []) hP hD hS hA [] (by decide) rfl
    refine va_calli (va_runS (As := [.int c0]) (rest := []) ⟨hx, hb, hml, hown, hg⟩ (c_Letters_beginsVariable l g cs ka H.size c0 r3 hc3) (va_cwS 1 hg (gw_S wd_221 wd_222 wd_217 wd_220) rfl rfl rfl (by decide +kernel) ⟨Nat.le_of_ble_eq_true rfl, Nat.le_of_ble_eq_true rfl⟩) ⟨gP_blind, gP_pre hPc hDc hK hgl hkn hkr hS hFc⟩ rfl rfl hl.1 rfl (lv_room (Nat.le_of_ble_eq_true rfl)) d_Letters_isOfWord_8 ⟨Nat.le_of_ble_eq_true rfl, Nat.le_of_ble_eq_true rfl⟩) hS (fun q _ h => hFc q h) hFc (fun r3' u t H locs ht hvm hr3 hB hz1 hk1 hS => ?_)
    subst hr3
    rw [ht] at hB
    obtain ⟨hP1, hD1⟩ := hB
    obtain ⟨hP, hD⟩ := jn_A hP hD [] [] rfl rfl (by decide) (by decide) hk1 hFc hP1 hD1
    obtain ⟨hP, hD⟩ : PD g A H [] := ⟨hP, hD⟩
    refine lv_if_ne hx hb d_Letters_isOfWord_11 rfl (fun h4 => ?_) (fun h4 => ?_)
    · rw [if_neg h4] at hok
      refine lv_iconst (v := 1) hx hb d_Letters_isOfWord_21 (by decide) ?_
      refine lv_goto hx hb d_Letters_isOfWord_22 rfl ?_
      have hq := Option.some.inj hok
      have hq0 := hq
      subst hq0
      obtain ⟨hP9, hD9⟩ := sub2 (ws' := []) hP hD [] rfl (by decide) rfl
      rw [hQ]
      exact W.zret (v := 1) hx hb hr rfl (fun t ht hW => ⟨⟨_, (), rfl, rfl, by rw [ht]; exact hP9, hD9⟩, hS.F ht⟩) hS.2.2 d_Letters_isOfWord_26
    · rw [if_pos h4] at hok
      refine lv_iload_n hx hb d_Letters_isOfWord_14 rfl (lv_at hl 0 rfl) ?_
      obtain ⟨r5, hc5, hok⟩ := bd_some hok
      obtain ⟨hPc, hDc, hFc⟩ := cut0 (wc := []) hP hD hS hA [] (by decide) rfl
      refine va_calli (va_runS (As := [.int c0]) (rest := []) ⟨hx, hb, hml, hown, hg⟩ (c_Letters_isDigit l g cs ka H.size c0 r5 hc5) (va_cwS 1 hg (gw_S wd_224 wd_225 wd_217 wd_223) rfl rfl rfl (by decide +kernel) ⟨Nat.le_of_ble_eq_true rfl, Nat.le_of_ble_eq_true rfl⟩) ⟨gP_blind, gP_pre hPc hDc hK hgl hkn hkr hS hFc⟩ rfl rfl hl.1 rfl (lv_room (Nat.le_of_ble_eq_true rfl)) d_Letters_isOfWord_15 ⟨Nat.le_of_ble_eq_true rfl, Nat.le_of_ble_eq_true rfl⟩) hS (fun q _ h => hFc q h) hFc (fun r5' u t H locs ht hvm hr5 hB hz1 hk1 hS => ?_)
      subst hr5
      rw [ht] at hB
      obtain ⟨hP1, hD1⟩ := hB
      obtain ⟨hP, hD⟩ := jn_A hP hD [] [] rfl rfl (by decide) (by decide) hk1 hFc hP1 hD1
      obtain ⟨hP, hD⟩ : PD g A H [] := ⟨hP, hD⟩
      refine lv_if_eq hx hb d_Letters_isOfWord_18 rfl (fun h6 => ?_) (fun h6 => ?_)
      · rw [if_pos h6] at hok
        refine lv_iconst (v := 0) hx hb d_Letters_isOfWord_25 (by decide) ?_
        have hq := Option.some.inj hok
        have hq0 := hq
        subst hq0
        obtain ⟨hP9, hD9⟩ := sub2 (ws' := []) hP hD [] rfl (by decide) rfl
        rw [hQ]
        exact W.zret (v := 0) hx hb hr rfl (fun t ht hW => ⟨⟨_, (), rfl, rfl, by rw [ht]; exact hP9, hD9⟩, hS.F ht⟩) hS.2.2 d_Letters_isOfWord_26
      · rw [if_neg h6] at hok
        refine lv_iconst (v := 1) hx hb d_Letters_isOfWord_21 (by decide) ?_
        refine lv_goto hx hb d_Letters_isOfWord_22 rfl ?_
        have hq := Option.some.inj hok
        have hq0 := hq
        subst hq0
        obtain ⟨hP9, hD9⟩ := sub2 (ws' := []) hP hD [] rfl (by decide) rfl
        rw [hQ]
        exact W.zret (v := 1) hx hb hr rfl (fun t ht hW => ⟨⟨_, (), rfl, rfl, by rw [ht]; exact hP9, hD9⟩, hS.F ht⟩) hS.2.2 d_Letters_isOfWord_26

theorem d_Letters_isQuotable_0 : decode b_Letters_isQuotable 0 = .ok (.iload_n 0, 1) := by decide +kernel
theorem d_Letters_isQuotable_1 : decode b_Letters_isQuotable 1 = .ok (.bipush 32, 2) := by decide +kernel
theorem d_Letters_isQuotable_3 : decode b_Letters_isQuotable 3 = .ok (.if_icmp .lt 13, 3) := by decide +kernel
theorem d_Letters_isQuotable_6 : decode b_Letters_isQuotable 6 = .ok (.iload_n 0, 1) := by decide +kernel
theorem d_Letters_isQuotable_7 : decode b_Letters_isQuotable 7 = .ok (.bipush 126, 2) := by decide +kernel
theorem d_Letters_isQuotable_9 : decode b_Letters_isQuotable 9 = .ok (.if_icmp .gt 7, 3) := by decide +kernel
theorem d_Letters_isQuotable_12 : decode b_Letters_isQuotable 12 = .ok (.iconst 1, 1) := by decide +kernel
theorem d_Letters_isQuotable_13 : decode b_Letters_isQuotable 13 = .ok (.goto 4, 3) := by decide +kernel
theorem d_Letters_isQuotable_16 : decode b_Letters_isQuotable 16 = .ok (.iconst 0, 1) := by decide +kernel
theorem d_Letters_isQuotable_17 : decode b_Letters_isQuotable 17 = .ok (.ireturn, 1) := by decide +kernel
def p_Letters_isQuotable (c0 : Int32) : Option Int32 := if c0 < 32 then (some (0 : Int32)) else (if 126 < c0 then (some (0 : Int32)) else (some (1 : Int32)))
set_option maxHeartbeats 4000000 in
set_option maxRecDepth 100000 in
theorem c_Letters_isQuotable (l : Launch) (g : va_G) (cs : Nat → ClassId) (ka : Nat → Nat) (sz : Nat) (c0 : Int32) (r : Int32) (hok : p_Letters_isQuotable c0 = some r) : Met l y_Letters_isQuotable (.code y_Letters_isQuotable b_Letters_isQuotable 1 (some .boolean) :: GW) { frames := 0, cells := 0, slots := 0, locals := 0 } (va_Pc [.int c0] (gP g cs ka [] sz)) (va_Qi (fun (r' : Int32) (_ : Unit) => r = r') (fun _ t => va_P g classes [] t.heap ∧ va_D (va_A [] sz) []) (va_A [] sz)) 0 0 (va_A [] sz) := by
  refine Met.ofW (cc := b_Letters_isQuotable) (maxL := 1) (ret := (some .boolean)) (by decide) rfl ?_
  intro p e s m args below meth c s₁ B hml hv
  obtain ⟨rfl, hsz, hP, hK, hD0, hgl, hkn, hkr⟩ := hv
  have hx := B.exec
  have hb := B.bytes
  have hr := B.returns
  have hg : ∀ w ∈ GW, w.before ([.int c0] : List Value).toArray s = true := fun w hw => atoms_spec (ws := .code y_Letters_isQuotable b_Letters_isQuotable 1 (some .boolean) :: GW) B.pre w (List.mem_cons_of_mem _ hw)
  have hown : s.vm.findClass R_Letters = some m.cls := findClass_of_methodNamed B.named
  have hlocks := B.notSynchronized
  subst hsz
  have hD := hD0.self (sz := s.heap.size)
  generalize hAe : va_A [] s.heap.size = A at hD hkn ⊢
  have hA : ∀ q : Nat, s.heap.size ≤ q → A q := fun q h => by rw [← hAe]; exact Or.inr h
  have hS : va_S A s.heap s.heap [] := va_S.rf
  have hP : va_P g classes [] s.heap := hP
  have hl := lv_entry ([.int c0]) (n := 1) (Nat.le_of_ble_eq_true rfl)
  rw [lg_entry_eq]
  generalize (lg_sl ([.int c0]) ++ List.replicate (1 - (lg_sl ([.int c0])).length) Slot.unset).toArray = ls at hl ⊢
  have hl : lv_has ls 1 [(0, .int c0)] := hl
  refine gq (fun Q hQ => ?_)
  obtain ⟨H, hH⟩ : ∃ H : Heap, H = s.heap := ⟨_, rfl⟩
  rw [← hH] at hP
  have hS : va_S A s.heap H [] := by rw [hH]; exact hS
  refine W.eqH hH ?_
  obtain ⟨locs, hlc⟩ : ∃ L : List Loc, L = [] := ⟨_, rfl⟩
  rw [← hlc] at hS ⊢
  unfold p_Letters_isQuotable at hok
  refine lv_iload_n hx hb d_Letters_isQuotable_0 rfl (lv_at hl 0 rfl) ?_
  refine lv_bipush (v := 32) hx hb d_Letters_isQuotable_1 (by decide) ?_
  refine lv_icmp_lt hx hb d_Letters_isQuotable_3 rfl (fun h1 => ?_) (fun h1 => ?_)
  · rw [if_pos h1] at hok
    refine lv_iconst (v := 0) hx hb d_Letters_isQuotable_16 (by decide) ?_
    have hq := Option.some.inj hok
    have hq0 := hq
    subst hq0
    obtain ⟨hP9, hD9⟩ := sub2 (ws' := []) hP hD [] rfl (by decide) rfl
    rw [hQ]
    exact W.zret (v := 0) hx hb hr rfl (fun t ht hW => ⟨⟨_, (), rfl, rfl, by rw [ht]; exact hP9, hD9⟩, hS.F ht⟩) hS.2.2 d_Letters_isQuotable_17
  · rw [if_neg h1] at hok
    refine lv_iload_n hx hb d_Letters_isQuotable_6 rfl (lv_at hl 0 rfl) ?_
    refine lv_bipush (v := 126) hx hb d_Letters_isQuotable_7 (by decide) ?_
    refine lv_icmp_gt hx hb d_Letters_isQuotable_9 rfl (fun h2 => ?_) (fun h2 => ?_)
    · rw [if_pos h2] at hok
      refine lv_iconst (v := 0) hx hb d_Letters_isQuotable_16 (by decide) ?_
      have hq := Option.some.inj hok
      have hq0 := hq
      subst hq0
      obtain ⟨hP9, hD9⟩ := sub2 (ws' := []) hP hD [] rfl (by decide) rfl
      rw [hQ]
      exact W.zret (v := 0) hx hb hr rfl (fun t ht hW => ⟨⟨_, (), rfl, rfl, by rw [ht]; exact hP9, hD9⟩, hS.F ht⟩) hS.2.2 d_Letters_isQuotable_17
    · rw [if_neg h2] at hok
      refine lv_iconst (v := 1) hx hb d_Letters_isQuotable_12 (by decide) ?_
      refine lv_goto hx hb d_Letters_isQuotable_13 rfl ?_
      have hq := Option.some.inj hok
      have hq0 := hq
      subst hq0
      obtain ⟨hP9, hD9⟩ := sub2 (ws' := []) hP hD [] rfl (by decide) rfl
      rw [hQ]
      exact W.zret (v := 1) hx hb hr rfl (fun t ht hW => ⟨⟨_, (), rfl, rfl, by rw [ht]; exact hP9, hD9⟩, hS.F ht⟩) hS.2.2 d_Letters_isQuotable_17
