theorem wd_142 : ((.arrayClass .int) : Cond) ∈ GW := gw_1 76 (by decide +kernel) rfl
theorem wd_143 : ((.methodLink "java/util/Arrays" 304 y_Math_min_II) : Cond) ∈ GW := gw_1 160 (by decide +kernel) rfl
theorem wd_144 : ((.static y_Math_min_II) : Cond) ∈ GW := gw_1 161 (by decide +kernel) rfl
theorem wd_145 : ((.initialized "java/lang/Math") : Cond) ∈ GW := gw_1 12 (by decide +kernel) rfl
theorem wd_146 : ((.code y_Math_min_II prog_26_method_69_code 2 (some .int)) : Cond) ∈ GW := gw_1 162 (by decide +kernel) rfl
theorem wd_147 : ((.methodLink "java/util/Arrays" 150 ⟨"java/lang/System", "arraycopy", "(Ljava/lang/Object;ILjava/lang/Object;II)V"⟩) : Cond) ∈ GW := gw_1 163 (by decide +kernel) rfl
theorem wd_148 : ((.native ⟨"java/lang/System", "arraycopy", "(Ljava/lang/Object;ILjava/lang/Object;II)V"⟩) : Cond) ∈ GW := gw_1 165 (by decide +kernel) rfl
theorem wd_149 : ((.static ⟨"java/lang/System", "arraycopy", "(Ljava/lang/Object;ILjava/lang/Object;II)V"⟩) : Cond) ∈ GW := gw_1 164 (by decide +kernel) rfl
theorem wd_150 : ((.initialized "java/lang/System") : Cond) ∈ GW := gw_1 13 (by decide +kernel) rfl
theorem wd_151 : ((.fieldLink "UnifyBench$Ints" 13 "UnifyBench$Ints" "size" "I") : Cond) ∈ GW := gw_1 70 (by decide +kernel) rfl
theorem wd_152 : ((.fieldLink "UnifyBench$Ints" 7 "UnifyBench$Ints" "items" "[I") : Cond) ∈ GW := gw_1 69 (by decide +kernel) rfl
theorem wd_153 : ((.code y_Arrays_copyOf_aII prog_34_method_123_code 3 (some (.array .int))) : Cond) ∈ GW := gw_1 192 (by decide +kernel) rfl
theorem wd_154 : ((.initialized "java/util/Arrays") : Cond) ∈ GW := gw_1 5 (by decide +kernel) rfl
theorem wd_155 : ((.methodLink "UnifyBench$Ints" 17 y_Arrays_copyOf_aII) : Cond) ∈ GW := gw_1 190 (by decide +kernel) rfl
theorem wd_156 : ((.static y_Arrays_copyOf_aII) : Cond) ∈ GW := gw_1 191 (by decide +kernel) rfl
theorem wd_157 : ((.methodLink "UnifyBench$Ints" 1 y_Object_init) : Cond) ∈ GW := gw_1 68 (by decide +kernel) rfl
theorem wd_158 : ((.instanceMethod y_Object_init) : Cond) ∈ GW := gw_1 41 (by decide +kernel) rfl
theorem wd_159 : ((.code y_Object_init object_method_1_code 1 none) : Cond) ∈ GW := gw_1 42 (by decide +kernel) rfl
theorem d_Arrays_fill_0 : decode b_Arrays_fill 0 = .ok (.iconst 0, 1) := by decide +kernel
theorem d_Arrays_fill_1 : decode b_Arrays_fill 1 = .ok (.istore_n 2, 1) := by decide +kernel
theorem d_Arrays_fill_2 : decode b_Arrays_fill 2 = .ok (.aload_n 0, 1) := by decide +kernel
theorem d_Arrays_fill_3 : decode b_Arrays_fill 3 = .ok (.arraylength, 1) := by decide +kernel
theorem d_Arrays_fill_4 : decode b_Arrays_fill 4 = .ok (.istore_n 3, 1) := by decide +kernel
theorem d_Arrays_fill_5 : decode b_Arrays_fill 5 = .ok (.iload_n 2, 1) := by decide +kernel
theorem d_Arrays_fill_6 : decode b_Arrays_fill 6 = .ok (.iload_n 3, 1) := by decide +kernel
theorem d_Arrays_fill_7 : decode b_Arrays_fill 7 = .ok (.if_icmp .ge 13, 3) := by decide +kernel
theorem d_Arrays_fill_10 : decode b_Arrays_fill 10 = .ok (.aload_n 0, 1) := by decide +kernel
theorem d_Arrays_fill_11 : decode b_Arrays_fill 11 = .ok (.iload_n 2, 1) := by decide +kernel
theorem d_Arrays_fill_12 : decode b_Arrays_fill 12 = .ok (.iload_n 1, 1) := by decide +kernel
theorem d_Arrays_fill_13 : decode b_Arrays_fill 13 = .ok (.iastore, 1) := by decide +kernel
theorem d_Arrays_fill_14 : decode b_Arrays_fill 14 = .ok (.iinc 2 1, 3) := by decide +kernel
theorem d_Arrays_fill_17 : decode b_Arrays_fill 17 = .ok (.goto (-12), 3) := by decide +kernel
theorem d_Arrays_fill_20 : decode b_Arrays_fill 20 = .ok (.return_, 1) := by decide +kernel
def p_Arrays_fill_5 (n : Nat) (v : Int32) (b_n : Nat) (kf1 : Nat) (x2_1 : Int32) (b_1f : Nat → Int32) : Option (Nat → Int32) := match kf1 with
  | 0 => none
  | kf1 + 1 => if (Int32.ofNat b_n) ≤ x2_1 then (some b_1f) else (ck (ixb x2_1 b_n) (p_Arrays_fill_5 n v b_n kf1 (x2_1 + 1) (upd b_1f x2_1.toNatClampNeg v)))
def p_Arrays_fill (n : Nat) (v : Int32) (b_n : Nat) (b_f : Nat → Int32) : Option (Nat → Int32) := p_Arrays_fill_5 n v b_n n (0 : Int32) b_f
set_option maxHeartbeats 4000000 in
set_option maxRecDepth 100000 in
theorem c_Arrays_fill (l : Launch) (g : va_G) (cs : Nat → ClassId) (ka : Nat → Nat) (b : Nat) (sz : Nat) (n : Nat) (v : Int32) (b_n : Nat) (b_f : Nat → Int32) (o_b_f : Nat → Int32) (hok : p_Arrays_fill n v b_n b_f = some o_b_f) : Met l y_Arrays_fill (.code y_Arrays_fill b_Arrays_fill 4 none :: GW) { frames := 0, cells := 0, slots := 0, locals := 0 } (va_Pc [.ref b, .int v] (gP g cs ka [(b, .inl (cs 0, b_n, .inl b_f))] sz)) (va_Qv (fun _ : Unit => True) (fun _ t => va_P g classes [(b, .inl (cs 0, b_n, .inl o_b_f))] t.heap ∧ va_D (va_A [(b, .inl (cs 0, b_n, .inl b_f))] sz) [(b, .inl (cs 0, b_n, .inl o_b_f))]) (va_A [(b, .inl (cs 0, b_n, .inl b_f))] sz)) 0 0 (va_A [(b, .inl (cs 0, b_n, .inl b_f))] sz) := by
  refine Met.ofW (cc := b_Arrays_fill) (maxL := 4) (ret := none) (by decide) rfl ?_
  intro p e s m args below meth c s₁ B hml hv
  obtain ⟨rfl, hsz, hP, hK, hD0, hgl, hkn, hkr⟩ := hv
  have hx := B.exec
  have hb := B.bytes
  have hr := B.returns
  have hg : ∀ w ∈ GW, w.before ([.ref b, .int v] : List Value).toArray s = true := fun w hw => atoms_spec (ws := .code y_Arrays_fill b_Arrays_fill 4 none :: GW) B.pre w (List.mem_cons_of_mem _ hw)
  have hown : s.vm.findClass R_Arrays = some m.cls := findClass_of_methodNamed B.named
  have hlocks := B.notSynchronized
  subst hsz
  have hD := hD0.self (sz := s.heap.size)
  generalize hAe : va_A [(b, .inl (cs 0, b_n, .inl b_f))] s.heap.size = A at hD hkn ⊢
  have hA : ∀ q : Nat, s.heap.size ≤ q → A q := fun q h => by rw [← hAe]; exact Or.inr h
  have hS : va_S A s.heap s.heap [] := va_S.rf
  have hP : va_P g classes [(b, .inl (cs 0, b_n, .inl b_f))] s.heap := hP
  have hl := lv_entry ([.ref b, .int v]) (n := 4) (Nat.le_of_ble_eq_true rfl)
  rw [lg_entry_eq]
  generalize (lg_sl ([.ref b, .int v]) ++ List.replicate (4 - (lg_sl ([.ref b, .int v])).length) Slot.unset).toArray = ls at hl ⊢
  have hl : lv_has ls 4 [(0, .ref b), (1, .int v)] := hl
  refine gq (fun Q hQ => ?_)
  obtain ⟨H, hH⟩ : ∃ H : Heap, H = s.heap := ⟨_, rfl⟩
  rw [← hH] at hP
  have hS : va_S A s.heap H [] := by rw [hH]; exact hS
  refine W.eqH hH ?_
  obtain ⟨locs, hlc⟩ : ∃ L : List Loc, L = [] := ⟨_, rfl⟩
  rw [← hlc] at hS ⊢
  unfold p_Arrays_fill at hok
  refine lv_iconst (v := 0) hx hb d_Arrays_fill_0 (by decide) ?_
  refine lv_istore_n hx hb d_Arrays_fill_1 rfl hl (by decide) rfl (fun ls hl => ?_)
  have hl : lv_has ls 4 [(2, .int 0), (0, .ref b), (1, .int v)] := hl
  refine lv_aload_n hx hb d_Arrays_fill_2 rfl (lv_at hl 1 rfl) ?_
  refine va_alen (v := Int32.ofNat b_n) hx hb hK hP 0 0 rfl rfl rfl d_Arrays_fill_3 ?_
  refine lv_istore_n hx hb d_Arrays_fill_4 rfl hl (by decide) rfl (fun ls hl => ?_)
  have hl : lv_has ls 4 [(3, .int (Int32.ofNat b_n)), (2, .int 0), (0, .ref b), (1, .int v)] := hl
  have J1 : ∀ (kf1 : Nat) (H : Heap) (locs : List Loc) (ls : Array Slot) (x2_1 : Int32) (b_1f : Nat → Int32), lv_has ls 4 [(3, .int (Int32.ofNat b_n)), (2, .int x2_1), (0, .ref b), (1, .int v)] → PD g A H [(b, .inl (cs 0, b_n, .inl b_1f))] → va_S A s.heap H locs → p_Arrays_fill_5 n v b_n kf1 x2_1 b_1f = some o_b_f → W p l e (headSpec (.code y_Arrays_fill b_Arrays_fill 4 none :: GW) { frames := 0, cells := 0, slots := 0, locals := 0 }).room s m ([.ref b, .int v] : List Value).toArray below meth c H locs 0 0 Q (F0 m 5 ls []) := by
    intro kf1
    induction kf1 with
    | zero => intro H locs ls x2_1 b_1f hl ⟨hP, hD⟩ hS hok; rw [p_Arrays_fill_5] at hok; cases hok
    | succ kf1 ih1 =>
      intro H locs ls x2_1 b_1f hl ⟨hP, hD⟩ hS hok
      rw [p_Arrays_fill_5] at hok
      refine lv_iload_n hx hb d_Arrays_fill_5 rfl (lv_at hl 1 rfl) ?_
      refine lv_iload_n hx hb d_Arrays_fill_6 rfl (lv_at hl 0 rfl) ?_
      refine lv_icmp_ge hx hb d_Arrays_fill_7 rfl (fun h2 => ?_) (fun h2 => ?_)
      · rw [if_pos h2] at hok
        have hq := Option.some.inj hok
        have hq0 := hq
        subst hq0
        obtain ⟨hP9, hD9⟩ := sub2 (ws' := [(b, .inl (cs 0, b_n, .inl b_1f))]) hP hD [0] rfl (by decide) rfl
        rw [hQ]
        exact W.vret hx hb hr (fun t ht hW => ⟨⟨(), rfl, trivial, by rw [ht]; exact hP9, hD9⟩, hS.F ht⟩) hS.2.2 d_Arrays_fill_20
      · rw [if_neg h2] at hok
        refine lv_aload_n hx hb d_Arrays_fill_10 rfl (lv_at hl 2 rfl) ?_
        refine lv_iload_n hx hb d_Arrays_fill_11 rfl (lv_at hl 1 rfl) ?_
        refine lv_iload_n hx hb d_Arrays_fill_12 rfl (lv_at hl 3 rfl) ?_
        obtain ⟨hi3, hok⟩ := ck_some hok
        refine va_iast hx hb hK hP hD hS 0 0 rfl rfl (ixb_in hi3) d_Arrays_fill_13 (fun H locs hP hD hS => ?_)
        obtain ⟨hP, hD⟩ : PD g A H [(b, .inl (cs 0, b_n, .inl (upd b_1f x2_1.toNatClampNeg v)))] := ⟨hP, hD⟩
        refine lv_iinc (k := 1) (v := x2_1 + 1) hx hb d_Arrays_fill_14 hl rfl rfl (by decide) rfl (fun ls hl => ?_)
        have hl : lv_has ls 4 [(2, .int (x2_1 + 1)), (3, .int (Int32.ofNat b_n)), (0, .ref b), (1, .int v)] := hl
        refine lv_goto hx hb d_Arrays_fill_17 rfl ?_
        exact ih1 _ _ _ (x2_1 + 1) (upd b_1f x2_1.toNatClampNeg v) (lv_sub hl [1, 0, 2, 3] rfl) (sub3 hP hD [0] (by decide)) hS hok
  exact J1 n H locs ls (0 : Int32) b_f hl ⟨hP, hD⟩ hS hok

theorem d_Arrays_copyOf_aII_0 : decode b_Arrays_copyOf_aII 0 = .ok (.iload_n 1, 1) := by decide +kernel
theorem d_Arrays_copyOf_aII_1 : decode b_Arrays_copyOf_aII 1 = .ok (.aload_n 0, 1) := by decide +kernel
theorem d_Arrays_copyOf_aII_2 : decode b_Arrays_copyOf_aII 2 = .ok (.arraylength, 1) := by decide +kernel
theorem d_Arrays_copyOf_aII_3 : decode b_Arrays_copyOf_aII 3 = .ok (.if_icmp .ne 11, 3) := by decide +kernel
theorem d_Arrays_copyOf_aII_14 : decode b_Arrays_copyOf_aII 14 = .ok (.iload_n 1, 1) := by decide +kernel
theorem d_Arrays_copyOf_aII_15 : decode b_Arrays_copyOf_aII 15 = .ok (.newarray .int, 2) := by decide +kernel
theorem d_Arrays_copyOf_aII_17 : decode b_Arrays_copyOf_aII 17 = .ok (.astore_n 2, 1) := by decide +kernel
theorem d_Arrays_copyOf_aII_18 : decode b_Arrays_copyOf_aII 18 = .ok (.aload_n 0, 1) := by decide +kernel
theorem d_Arrays_copyOf_aII_19 : decode b_Arrays_copyOf_aII 19 = .ok (.iconst 0, 1) := by decide +kernel
theorem d_Arrays_copyOf_aII_20 : decode b_Arrays_copyOf_aII 20 = .ok (.aload_n 2, 1) := by decide +kernel
theorem d_Arrays_copyOf_aII_21 : decode b_Arrays_copyOf_aII 21 = .ok (.iconst 0, 1) := by decide +kernel
theorem d_Arrays_copyOf_aII_22 : decode b_Arrays_copyOf_aII 22 = .ok (.aload_n 0, 1) := by decide +kernel
theorem d_Arrays_copyOf_aII_23 : decode b_Arrays_copyOf_aII 23 = .ok (.arraylength, 1) := by decide +kernel
theorem d_Arrays_copyOf_aII_24 : decode b_Arrays_copyOf_aII 24 = .ok (.iload_n 1, 1) := by decide +kernel
theorem d_Arrays_copyOf_aII_25 : decode b_Arrays_copyOf_aII 25 = .ok (.invokestatic 304, 3) := by decide +kernel
theorem d_Arrays_copyOf_aII_28 : decode b_Arrays_copyOf_aII 28 = .ok (.invokestatic 150, 3) := by decide +kernel
theorem d_Arrays_copyOf_aII_31 : decode b_Arrays_copyOf_aII 31 = .ok (.aload_n 2, 1) := by decide +kernel
theorem d_Arrays_copyOf_aII_32 : decode b_Arrays_copyOf_aII 32 = .ok (.areturn, 1) := by decide +kernel
def p_Arrays_copyOf_aII (v : Int32) (b_n : Nat) (b_f : Nat → Int32) : Option ((Nat × (Nat → Int32)) × Nat × Nat) := if v = (Int32.ofNat b_n) then (none) else (ck (nab v 4) (al 1 v.toNatClampNeg (ck (cpb (0 : Int32) (0 : Int32) (if v < (Int32.ofNat b_n) then v else (Int32.ofNat b_n)) b_n v.toNatClampNeg) (some ((v.toNatClampNeg, va_cpy b_f (fun _ => 0) (0 : Int32).toNatClampNeg (0 : Int32).toNatClampNeg (if v < (Int32.ofNat b_n) then v else (Int32.ofNat b_n)).toNatClampNeg), 0, 0)))))
set_option maxHeartbeats 4000000 in
set_option maxRecDepth 100000 in
theorem c_Arrays_copyOf_aII (l : Launch) (g : va_G) (cs : Nat → ClassId) (ka : Nat → Nat) (b : Nat) (sz : Nat) (v : Int32) (b_n : Nat) (b_f : Nat → Int32) (o_ret_n : Nat) (o_ret_f : Nat → Int32) (mc ms : Nat) (hok : p_Arrays_copyOf_aII v b_n b_f = some ((o_ret_n, o_ret_f), mc, ms)) : Met l y_Arrays_copyOf_aII (.code y_Arrays_copyOf_aII b_Arrays_copyOf_aII 3 (some (.array .int)) :: GW) { frames := 1, cells := mc, slots := ms, locals := 100 } (va_Pc [.ref b, .int v] (gP g cs ka [(b, .inl (cs 0, b_n, .inl b_f))] sz)) (va_Qr (fun _ : Unit => True) (fun _ ra t => ∃ b_ret : Nat, b_ret = ra ∧ va_P g classes [(b, .inl (cs 0, b_n, .inl b_f)), (b_ret, .inl (cs 0, o_ret_n, .inl o_ret_f))] t.heap ∧ va_D (va_A [(b, .inl (cs 0, b_n, .inl b_f))] sz) [(b, .inl (cs 0, b_n, .inl b_f)), (b_ret, .inl (cs 0, o_ret_n, .inl o_ret_f))]) (va_A [(b, .inl (cs 0, b_n, .inl b_f))] sz)) mc ms (va_A [(b, .inl (cs 0, b_n, .inl b_f))] sz) := by
  refine Met.ofW (cc := b_Arrays_copyOf_aII) (maxL := 3) (ret := (some (.array .int))) (by decide) rfl ?_
  intro p e s m args below meth c s₁ B hml hv
  obtain ⟨rfl, hsz, hP, hK, hD0, hgl, hkn, hkr⟩ := hv
  have hx := B.exec
  have hb := B.bytes
  have hr := B.returns
  have hg : ∀ w ∈ GW, w.before ([.ref b, .int v] : List Value).toArray s = true := fun w hw => atoms_spec (ws := .code y_Arrays_copyOf_aII b_Arrays_copyOf_aII 3 (some (.array .int)) :: GW) B.pre w (List.mem_cons_of_mem _ hw)
  have hown : s.vm.findClass R_Arrays = some m.cls := findClass_of_methodNamed B.named
  have hlocks := B.notSynchronized
  subst hsz
  have hD := hD0.self (sz := s.heap.size)
  generalize hAe : va_A [(b, .inl (cs 0, b_n, .inl b_f))] s.heap.size = A at hD hkn ⊢
  have hA : ∀ q : Nat, s.heap.size ≤ q → A q := fun q h => by rw [← hAe]; exact Or.inr h
  have hS : va_S A s.heap s.heap [] := va_S.rf
  have hP : va_P g classes [(b, .inl (cs 0, b_n, .inl b_f))] s.heap := hP
  have hl := lv_entry ([.ref b, .int v]) (n := 3) (Nat.le_of_ble_eq_true rfl)
  rw [lg_entry_eq]
  generalize (lg_sl ([.ref b, .int v]) ++ List.replicate (3 - (lg_sl ([.ref b, .int v])).length) Slot.unset).toArray = ls at hl ⊢
  have hl : lv_has ls 3 [(0, .ref b), (1, .int v)] := hl
  refine gq (fun Q hQ => ?_)
  obtain ⟨H, hH⟩ : ∃ H : Heap, H = s.heap := ⟨_, rfl⟩
  rw [← hH] at hP
  have hS : va_S A s.heap H [] := by rw [hH]; exact hS
  refine W.eqH hH ?_
  obtain ⟨locs, hlc⟩ : ∃ L : List Loc, L = [] := ⟨_, rfl⟩
  rw [← hlc] at hS ⊢
  unfold p_Arrays_copyOf_aII at hok
  refine lv_iload_n hx hb d_Arrays_copyOf_aII_0 rfl (lv_at hl 1 rfl) ?_
  refine lv_aload_n hx hb d_Arrays_copyOf_aII_1 rfl (lv_at hl 0 rfl) ?_
  refine va_alen (v := Int32.ofNat b_n) hx hb hK hP 0 0 rfl rfl rfl d_Arrays_copyOf_aII_2 ?_
  refine lv_icmp_ne hx hb d_Arrays_copyOf_aII_3 rfl (fun h1 => ?_) (fun h1 => ?_)
  · rw [if_neg h1] at hok
    refine lv_iload_n hx hb d_Arrays_copyOf_aII_14 rfl (lv_at hl 1 rfl) ?_
    obtain ⟨hi2, hok⟩ := ck_some hok
    obtain ⟨m2, s2, hok, hmc2, hms2⟩ := al_some hok
    refine g_newI hx hb (hg _ wd_142) hK hP hD hS hA (v.toNatClampNeg) (nab_in hi2).1 rfl (nab_in hi2).2 (show 0 + 1 ≤ mc from by omega) (show 0 + v.toNatClampNeg ≤ ms from by omega) d_Arrays_copyOf_aII_15 (fun q2 H hP hD hS => ?_)
    obtain ⟨hP, hD⟩ : PD g A H [(b, .inl (cs 0, b_n, .inl b_f)), (q2, .inl (cs 0, v.toNatClampNeg, .inl (fun _ => 0)))] := ⟨hP, hD⟩
    refine lv_astore_n hx hb d_Arrays_copyOf_aII_17 rfl hl (by decide) rfl (fun ls hl => ?_)
    have hl : lv_has ls 3 [(2, .ref q2), (0, .ref b), (1, .int v)] := hl
    refine lv_aload_n hx hb d_Arrays_copyOf_aII_18 rfl (lv_at hl 1 rfl) ?_
    refine lv_iconst (v := 0) hx hb d_Arrays_copyOf_aII_19 (by decide) ?_
    refine lv_aload_n hx hb d_Arrays_copyOf_aII_20 rfl (lv_at hl 0 rfl) ?_
    refine lv_iconst (v := 0) hx hb d_Arrays_copyOf_aII_21 (by decide) ?_
    refine lv_aload_n hx hb d_Arrays_copyOf_aII_22 rfl (lv_at hl 1 rfl) ?_
    refine va_alen (v := Int32.ofNat b_n) hx hb hK hP 0 0 rfl rfl rfl d_Arrays_copyOf_aII_23 ?_
    refine lv_iload_n hx hb d_Arrays_copyOf_aII_24 rfl (lv_at hl 2 rfl) ?_
    refine va_mmin hx hb (hml.trans hl.1.symm) hown (hg _ wd_143) (hg _ wd_144) (hg _ wd_145) (hg _ wd_146) (Nat.le_of_ble_eq_true rfl) (Nat.le_of_ble_eq_true rfl) (show 0 + 1 ≤ mc from by omega) (show 0 + v.toNatClampNeg ≤ ms from by omega) d_Arrays_copyOf_aII_25 ?_
    obtain ⟨hi3, hok⟩ := ck_some hok
    obtain ⟨ha3, hb3, hc3, hd3, he3⟩ := cpb_in hi3
    refine va_copyi hx hb (hml.trans hl.1.symm) hown (hg _ wd_147) (hg _ wd_148) (hg _ wd_149) (hg _ wd_150) hK hP hD hS 0 1 0 0 rfl rfl rfl rfl rfl ha3 hb3 hc3 hd3 he3 (fun _ _ => rfl) (Nat.le_of_ble_eq_true rfl) (Nat.le_of_ble_eq_true rfl) d_Arrays_copyOf_aII_28 (fun H locs hP hD hS => ?_)
    obtain ⟨hP, hD⟩ : PD g A H [(b, .inl (cs 0, b_n, .inl b_f)), (q2, .inl (cs 0, v.toNatClampNeg, .inl (va_cpy b_f (fun _ => 0) (0 : Int32).toNatClampNeg (0 : Int32).toNatClampNeg (if v < (Int32.ofNat b_n) then v else (Int32.ofNat b_n)).toNatClampNeg)))] := ⟨hP, hD⟩
    refine lv_aload_n hx hb d_Arrays_copyOf_aII_31 rfl (lv_at hl 0 rfl) ?_
    obtain ⟨hq, hw⟩ := Prod.mk.inj (Option.some.inj hok)
    obtain ⟨hmc0, hms0⟩ := Prod.mk.inj hw
    obtain ⟨hq0, hq⟩ := Prod.mk.inj hq
    have hq1 := hq
    subst hq0
    subst hq1
    obtain ⟨hP9, hD9⟩ := sub2 (ws' := [(b, .inl (cs 0, b_n, .inl b_f)), (q2, .inl (cs 0, v.toNatClampNeg, .inl (va_cpy b_f (fun _ => 0) (0 : Int32).toNatClampNeg (0 : Int32).toNatClampNeg (if v < (Int32.ofNat b_n) then v else (Int32.ofNat b_n)).toNatClampNeg)))]) hP hD [0, 1] rfl (by decide) rfl
    refine W.widen (k := mc) (n := ms) (by omega) (by omega) ?_
    rw [hQ]
    exact W.aret (v := .ref q2) hx hb hr (Or.inr ⟨_, rfl⟩) (Or.inr ⟨_, rfl⟩) (fun t ht hW => ⟨⟨(), _, rfl, trivial, q2, rfl, by rw [ht]; exact hP9, hD9⟩, hS.F ht⟩) hS.2.2 d_Arrays_copyOf_aII_32
  · rw [if_pos h1] at hok
    cases hok

theorem d_Ints_size_0 : decode b_Ints_size 0 = .ok (.aload_n 0, 1) := by decide +kernel
theorem d_Ints_size_1 : decode b_Ints_size 1 = .ok (.getfield 13, 3) := by decide +kernel
theorem d_Ints_size_4 : decode b_Ints_size 4 = .ok (.ireturn, 1) := by decide +kernel
def p_Ints_size (a_size : Int32) : Option Int32 := some a_size
set_option maxHeartbeats 4000000 in
set_option maxRecDepth 100000 in
theorem c_Ints_size (l : Launch) (g : va_G) (cs : Nat → ClassId) (ka : Nat → Nat) (a_items : Nat) (a : Nat) (sz : Nat) (a_size : Int32) (r : Int32) (hok : p_Ints_size a_size = some r) : Met l y_Ints_size (.code y_Ints_size b_Ints_size 1 (some .int) :: GW) { frames := 0, cells := 0, slots := 0, locals := 0 } (va_Pc [.ref a] (gP g cs ka [(a, .inr (1, [.ref a_items, .int a_size]))] sz)) (va_Qi (fun (r' : Int32) (_ : Unit) => r = r') (fun _ t => va_P g classes [(a, .inr (1, [.ref a_items, .int a_size]))] t.heap ∧ va_D (va_A [(a, .inr (1, [.ref a_items, .int a_size]))] sz) [(a, .inr (1, [.ref a_items, .int a_size]))]) (va_A [(a, .inr (1, [.ref a_items, .int a_size]))] sz)) 0 0 (va_A [(a, .inr (1, [.ref a_items, .int a_size]))] sz) := by
  refine Met.ofW (cc := b_Ints_size) (maxL := 1) (ret := (some .int)) (by decide) rfl ?_
  intro p e s m args below meth c s₁ B hml hv
  obtain ⟨rfl, hsz, hP, hK, hD0, hgl, hkn, hkr⟩ := hv
  have hx := B.exec
  have hb := B.bytes
  have hr := B.returns
  have hg : ∀ w ∈ GW, w.before ([.ref a] : List Value).toArray s = true := fun w hw => atoms_spec (ws := .code y_Ints_size b_Ints_size 1 (some .int) :: GW) B.pre w (List.mem_cons_of_mem _ hw)
  have hown : s.vm.findClass R_Ints = some m.cls := findClass_of_methodNamed B.named
  have hlocks := B.notSynchronized
  subst hsz
  have hD := hD0.self (sz := s.heap.size)
  generalize hAe : va_A [(a, .inr (1, [.ref a_items, .int a_size]))] s.heap.size = A at hD hkn ⊢
  have hA : ∀ q : Nat, s.heap.size ≤ q → A q := fun q h => by rw [← hAe]; exact Or.inr h
  have hS : va_S A s.heap s.heap [] := va_S.rf
  have hP : va_P g classes [(a, .inr (1, [.ref a_items, .int a_size]))] s.heap := hP
  have hl := lv_entry ([.ref a]) (n := 1) (Nat.le_of_ble_eq_true rfl)
  rw [lg_entry_eq]
  generalize (lg_sl ([.ref a]) ++ List.replicate (1 - (lg_sl ([.ref a])).length) Slot.unset).toArray = ls at hl ⊢
  have hl : lv_has ls 1 [(0, .ref a)] := hl
  refine gq (fun Q hQ => ?_)
  obtain ⟨H, hH⟩ : ∃ H : Heap, H = s.heap := ⟨_, rfl⟩
  rw [← hH] at hP
  have hS : va_S A s.heap H [] := by rw [hH]; exact hS
  refine W.eqH hH ?_
  obtain ⟨locs, hlc⟩ : ∃ L : List Loc, L = [] := ⟨_, rfl⟩
  rw [← hlc] at hS ⊢
  unfold p_Ints_size at hok
  refine lv_aload_n hx hb d_Ints_size_0 rfl (lv_at hl 0 rfl) ?_
  refine va_get (D := g) (ci := 1) (v := .int a_size) (C := R_Ints) (T := F_Ints) (N := 2) hx hb hg ul_Ints hown hK hP 0 rfl rfl 1 (by decide) (hg _ wd_151) (fun _ h9 => h9) rfl d_Ints_size_1 ?_
  have hq := Option.some.inj hok
  have hq0 := hq
  subst hq0
  obtain ⟨hP9, hD9⟩ := sub2 (ws' := [(a, .inr (1, [.ref a_items, .int a_size]))]) hP hD [0] rfl (by decide) rfl
  rw [hQ]
  exact W.iret (v := a_size) hx hb hr (fun t ht hW => ⟨⟨_, (), rfl, rfl, by rw [ht]; exact hP9, hD9⟩, hS.F ht⟩) hS.2.2 d_Ints_size_4

theorem d_Ints_at_0 : decode b_Ints_at 0 = .ok (.iload_n 1, 1) := by decide +kernel
theorem d_Ints_at_1 : decode b_Ints_at 1 = .ok (.ifCond .lt 20, 3) := by decide +kernel
theorem d_Ints_at_4 : decode b_Ints_at 4 = .ok (.iload_n 1, 1) := by decide +kernel
theorem d_Ints_at_5 : decode b_Ints_at 5 = .ok (.aload_n 0, 1) := by decide +kernel
theorem d_Ints_at_6 : decode b_Ints_at 6 = .ok (.getfield 13, 3) := by decide +kernel
theorem d_Ints_at_9 : decode b_Ints_at 9 = .ok (.if_icmp .ge 12, 3) := by decide +kernel
theorem d_Ints_at_12 : decode b_Ints_at 12 = .ok (.aload_n 0, 1) := by decide +kernel
theorem d_Ints_at_13 : decode b_Ints_at 13 = .ok (.getfield 7, 3) := by decide +kernel
theorem d_Ints_at_16 : decode b_Ints_at 16 = .ok (.iload_n 1, 1) := by decide +kernel
theorem d_Ints_at_17 : decode b_Ints_at 17 = .ok (.iaload, 1) := by decide +kernel
theorem d_Ints_at_18 : decode b_Ints_at 18 = .ok (.goto 4, 3) := by decide +kernel
theorem d_Ints_at_21 : decode b_Ints_at 21 = .ok (.iconst 0, 1) := by decide +kernel
theorem d_Ints_at_22 : decode b_Ints_at 22 = .ok (.ireturn, 1) := by decide +kernel
def p_Ints_at (i : Int32) (a_size : Int32) (a_items_n : Nat) (a_items_f : Nat → Int32) : Option Int32 := if i < 0 then (some (0 : Int32)) else (if a_size ≤ i then (some (0 : Int32)) else (ck (ixb i a_items_n) (some (a_items_f i.toNatClampNeg))))
set_option maxHeartbeats 4000000 in
set_option maxRecDepth 100000 in
theorem c_Ints_at (l : Launch) (g : va_G) (cs : Nat → ClassId) (ka : Nat → Nat) (a a_items : Nat) (sz : Nat) (i : Int32) (a_size : Int32) (a_items_n : Nat) (a_items_f : Nat → Int32) (r : Int32) (hok : p_Ints_at i a_size a_items_n a_items_f = some r) : Met l y_Ints_at (.code y_Ints_at b_Ints_at 2 (some .int) :: GW) { frames := 0, cells := 0, slots := 0, locals := 0 } (va_Pc [.ref a, .int i] (gP g cs ka [(a, .inr (1, [.ref a_items, .int a_size])), (a_items, .inl (cs 0, a_items_n, .inl a_items_f))] sz)) (va_Qi (fun (r' : Int32) (_ : Unit) => r = r') (fun _ t => va_P g classes [(a, .inr (1, [.ref a_items, .int a_size])), (a_items, .inl (cs 0, a_items_n, .inl a_items_f))] t.heap ∧ va_D (va_A [(a, .inr (1, [.ref a_items, .int a_size])), (a_items, .inl (cs 0, a_items_n, .inl a_items_f))] sz) [(a, .inr (1, [.ref a_items, .int a_size])), (a_items, .inl (cs 0, a_items_n, .inl a_items_f))]) (va_A [(a, .inr (1, [.ref a_items, .int a_size])), (a_items, .inl (cs 0, a_items_n, .inl a_items_f))] sz)) 0 0 (va_A [(a, .inr (1, [.ref a_items, .int a_size])), (a_items, .inl (cs 0, a_items_n, .inl a_items_f))] sz) := by
  refine Met.ofW (cc := b_Ints_at) (maxL := 2) (ret := (some .int)) (by decide) rfl ?_
  intro p e s m args below meth c s₁ B hml hv
  obtain ⟨rfl, hsz, hP, hK, hD0, hgl, hkn, hkr⟩ := hv
  have hx := B.exec
  have hb := B.bytes
  have hr := B.returns
  have hg : ∀ w ∈ GW, w.before ([.ref a, .int i] : List Value).toArray s = true := fun w hw => atoms_spec (ws := .code y_Ints_at b_Ints_at 2 (some .int) :: GW) B.pre w (List.mem_cons_of_mem _ hw)
  have hown : s.vm.findClass R_Ints = some m.cls := findClass_of_methodNamed B.named
  have hlocks := B.notSynchronized
  subst hsz
  have hD := hD0.self (sz := s.heap.size)
  generalize hAe : va_A [(a, .inr (1, [.ref a_items, .int a_size])), (a_items, .inl (cs 0, a_items_n, .inl a_items_f))] s.heap.size = A at hD hkn ⊢
  have hA : ∀ q : Nat, s.heap.size ≤ q → A q := fun q h => by rw [← hAe]; exact Or.inr h
  have hS : va_S A s.heap s.heap [] := va_S.rf
  have hP : va_P g classes [(a, .inr (1, [.ref a_items, .int a_size])), (a_items, .inl (cs 0, a_items_n, .inl a_items_f))] s.heap := hP
  have hl := lv_entry ([.ref a, .int i]) (n := 2) (Nat.le_of_ble_eq_true rfl)
  rw [lg_entry_eq]
  generalize (lg_sl ([.ref a, .int i]) ++ List.replicate (2 - (lg_sl ([.ref a, .int i])).length) Slot.unset).toArray = ls at hl ⊢
  have hl : lv_has ls 2 [(0, .ref a), (1, .int i)] := hl
  refine gq (fun Q hQ => ?_)
  obtain ⟨H, hH⟩ : ∃ H : Heap, H = s.heap := ⟨_, rfl⟩
  rw [← hH] at hP
  have hS : va_S A s.heap H [] := by rw [hH]; exact hS
  refine W.eqH hH ?_
  obtain ⟨locs, hlc⟩ : ∃ L : List Loc, L = [] := ⟨_, rfl⟩
  rw [← hlc] at hS ⊢
  unfold p_Ints_at at hok
  refine lv_iload_n hx hb d_Ints_at_0 rfl (lv_at hl 1 rfl) ?_
  refine lv_if_lt hx hb d_Ints_at_1 rfl (fun h1 => ?_) (fun h1 => ?_)
  · rw [if_pos h1] at hok
    refine lv_iconst (v := 0) hx hb d_Ints_at_21 (by decide) ?_
    have hq := Option.some.inj hok
    have hq0 := hq
    subst hq0
    obtain ⟨hP9, hD9⟩ := sub2 (ws' := [(a, .inr (1, [.ref a_items, .int a_size])), (a_items, .inl (cs 0, a_items_n, .inl a_items_f))]) hP hD [0, 1] rfl (by decide) rfl
    rw [hQ]
    exact W.iret (v := 0) hx hb hr (fun t ht hW => ⟨⟨_, (), rfl, rfl, by rw [ht]; exact hP9, hD9⟩, hS.F ht⟩) hS.2.2 d_Ints_at_22
  · rw [if_neg h1] at hok
    refine lv_iload_n hx hb d_Ints_at_4 rfl (lv_at hl 1 rfl) ?_
    refine lv_aload_n hx hb d_Ints_at_5 rfl (lv_at hl 0 rfl) ?_
    refine va_get (D := g) (ci := 1) (v := .int a_size) (C := R_Ints) (T := F_Ints) (N := 2) hx hb hg ul_Ints hown hK hP 0 rfl rfl 1 (by decide) (hg _ wd_151) (fun _ h9 => h9) rfl d_Ints_at_6 ?_
    refine lv_icmp_ge hx hb d_Ints_at_9 rfl (fun h2 => ?_) (fun h2 => ?_)
    · rw [if_pos h2] at hok
      refine lv_iconst (v := 0) hx hb d_Ints_at_21 (by decide) ?_
      have hq := Option.some.inj hok
      have hq0 := hq
      subst hq0
      obtain ⟨hP9, hD9⟩ := sub2 (ws' := [(a, .inr (1, [.ref a_items, .int a_size])), (a_items, .inl (cs 0, a_items_n, .inl a_items_f))]) hP hD [0, 1] rfl (by decide) rfl
      rw [hQ]
      exact W.iret (v := 0) hx hb hr (fun t ht hW => ⟨⟨_, (), rfl, rfl, by rw [ht]; exact hP9, hD9⟩, hS.F ht⟩) hS.2.2 d_Ints_at_22
    · rw [if_neg h2] at hok
      refine lv_aload_n hx hb d_Ints_at_12 rfl (lv_at hl 0 rfl) ?_
      refine va_get (D := g) (ci := 1) (v := .ref a_items) (C := R_Ints) (T := F_Ints) (N := 2) hx hb hg ul_Ints hown hK hP 0 rfl rfl 0 (by decide) (hg _ wd_152) (fun _ h9 => h9) rfl d_Ints_at_13 ?_
      refine lv_iload_n hx hb d_Ints_at_16 rfl (lv_at hl 1 rfl) ?_
      obtain ⟨hi3, hok⟩ := ck_some hok
      refine va_iald hx hb hK hP 1 0 rfl rfl (ixb_in hi3) d_Ints_at_17 ?_
      refine lv_goto hx hb d_Ints_at_18 rfl ?_
      have hq := Option.some.inj hok
      have hq0 := hq
      subst hq0
      obtain ⟨hP9, hD9⟩ := sub2 (ws' := [(a, .inr (1, [.ref a_items, .int a_size])), (a_items, .inl (cs 0, a_items_n, .inl a_items_f))]) hP hD [0, 1] rfl (by decide) rfl
      rw [hQ]
      exact W.iret (v := a_items_f i.toNatClampNeg) hx hb hr (fun t ht hW => ⟨⟨_, (), rfl, rfl, by rw [ht]; exact hP9, hD9⟩, hS.F ht⟩) hS.2.2 d_Ints_at_22

theorem d_Ints_push_0 : decode b_Ints_push 0 = .ok (.aload_n 0, 1) := by decide +kernel
theorem d_Ints_push_1 : decode b_Ints_push 1 = .ok (.getfield 13, 3) := by decide +kernel
theorem d_Ints_push_4 : decode b_Ints_push 4 = .ok (.aload_n 0, 1) := by decide +kernel
theorem d_Ints_push_5 : decode b_Ints_push 5 = .ok (.getfield 7, 3) := by decide +kernel
theorem d_Ints_push_8 : decode b_Ints_push 8 = .ok (.arraylength, 1) := by decide +kernel
theorem d_Ints_push_9 : decode b_Ints_push 9 = .ok (.if_icmp .ne 20, 3) := by decide +kernel
theorem d_Ints_push_12 : decode b_Ints_push 12 = .ok (.aload_n 0, 1) := by decide +kernel
theorem d_Ints_push_13 : decode b_Ints_push 13 = .ok (.aload_n 0, 1) := by decide +kernel
theorem d_Ints_push_14 : decode b_Ints_push 14 = .ok (.getfield 7, 3) := by decide +kernel
theorem d_Ints_push_17 : decode b_Ints_push 17 = .ok (.iconst 2, 1) := by decide +kernel
theorem d_Ints_push_18 : decode b_Ints_push 18 = .ok (.aload_n 0, 1) := by decide +kernel
theorem d_Ints_push_19 : decode b_Ints_push 19 = .ok (.getfield 13, 3) := by decide +kernel
theorem d_Ints_push_22 : decode b_Ints_push 22 = .ok (.imul, 1) := by decide +kernel
theorem d_Ints_push_23 : decode b_Ints_push 23 = .ok (.invokestatic 17, 3) := by decide +kernel
theorem d_Ints_push_26 : decode b_Ints_push 26 = .ok (.putfield 7, 3) := by decide +kernel
theorem d_Ints_push_29 : decode b_Ints_push 29 = .ok (.aload_n 0, 1) := by decide +kernel
theorem d_Ints_push_30 : decode b_Ints_push 30 = .ok (.getfield 7, 3) := by decide +kernel
theorem d_Ints_push_33 : decode b_Ints_push 33 = .ok (.aload_n 0, 1) := by decide +kernel
theorem d_Ints_push_34 : decode b_Ints_push 34 = .ok (.getfield 13, 3) := by decide +kernel
theorem d_Ints_push_37 : decode b_Ints_push 37 = .ok (.iload_n 1, 1) := by decide +kernel
theorem d_Ints_push_38 : decode b_Ints_push 38 = .ok (.iastore, 1) := by decide +kernel
theorem d_Ints_push_39 : decode b_Ints_push 39 = .ok (.aload_n 0, 1) := by decide +kernel
theorem d_Ints_push_40 : decode b_Ints_push 40 = .ok (.dup, 1) := by decide +kernel
theorem d_Ints_push_41 : decode b_Ints_push 41 = .ok (.getfield 13, 3) := by decide +kernel
theorem d_Ints_push_44 : decode b_Ints_push 44 = .ok (.iconst 1, 1) := by decide +kernel
theorem d_Ints_push_45 : decode b_Ints_push 45 = .ok (.iadd, 1) := by decide +kernel
theorem d_Ints_push_46 : decode b_Ints_push 46 = .ok (.putfield 13, 3) := by decide +kernel
theorem d_Ints_push_49 : decode b_Ints_push 49 = .ok (.return_, 1) := by decide +kernel
def p_Ints_push (item : Int32) (a_size : Int32) (a_items_n : Nat) (a_items_f : Nat → Int32) : Option ((Int32 × Nat × (Nat → Int32)) × Nat × Nat) := if a_size = (Int32.ofNat a_items_n) then ((p_Arrays_copyOf_aII (2 * a_size) a_items_n a_items_f).bind (fun ((ret_n_3, ret_f_3), mk3, sk3) => al mk3 sk3 (ck (ixb a_size ret_n_3) (some ((a_size + 1, ret_n_3, upd ret_f_3 a_size.toNatClampNeg item), 0, 0))))) else (ck (ixb a_size a_items_n) (some ((a_size + 1, a_items_n, upd a_items_f a_size.toNatClampNeg item), 0, 0)))
set_option maxHeartbeats 4000000 in
set_option maxRecDepth 100000 in
theorem c_Ints_push (l : Launch) (g : va_G) (cs : Nat → ClassId) (ka : Nat → Nat) (a a_items : Nat) (sz : Nat) (item : Int32) (a_size : Int32) (a_items_n : Nat) (a_items_f : Nat → Int32) (o_a_size : Int32) (o_a_items_n : Nat) (o_a_items_f : Nat → Int32) (mc ms : Nat) (hok : p_Ints_push item a_size a_items_n a_items_f = some ((o_a_size, o_a_items_n, o_a_items_f), mc, ms)) : Met l y_Ints_push (.code y_Ints_push b_Ints_push 2 none :: GW) { frames := 2, cells := mc, slots := ms, locals := 122 } (va_Pc [.ref a, .int item] (gP g cs ka [(a, .inr (1, [.ref a_items, .int a_size])), (a_items, .inl (cs 0, a_items_n, .inl a_items_f))] sz)) (va_Qv (fun _ : Unit => True) (fun _ t => ∃ b_a_items : Nat, va_P g classes [(a, .inr (1, [.ref b_a_items, .int o_a_size])), (b_a_items, .inl (cs 0, o_a_items_n, .inl o_a_items_f))] t.heap ∧ va_D (va_A [(a, .inr (1, [.ref a_items, .int a_size])), (a_items, .inl (cs 0, a_items_n, .inl a_items_f))] sz) [(a, .inr (1, [.ref b_a_items, .int o_a_size])), (b_a_items, .inl (cs 0, o_a_items_n, .inl o_a_items_f))]) (va_A [(a, .inr (1, [.ref a_items, .int a_size])), (a_items, .inl (cs 0, a_items_n, .inl a_items_f))] sz)) mc ms (va_A [(a, .inr (1, [.ref a_items, .int a_size])), (a_items, .inl (cs 0, a_items_n, .inl a_items_f))] sz) := by
  refine Met.ofW (cc := b_Ints_push) (maxL := 2) (ret := none) (by decide) rfl ?_
  intro p e s m args below meth c s₁ B hml hv
  obtain ⟨rfl, hsz, hP, hK, hD0, hgl, hkn, hkr⟩ := hv
  have hx := B.exec
  have hb := B.bytes
  have hr := B.returns
  have hg : ∀ w ∈ GW, w.before ([.ref a, .int item] : List Value).toArray s = true := fun w hw => atoms_spec (ws := .code y_Ints_push b_Ints_push 2 none :: GW) B.pre w (List.mem_cons_of_mem _ hw)
  have hown : s.vm.findClass R_Ints = some m.cls := findClass_of_methodNamed B.named
  have hlocks := B.notSynchronized
  subst hsz
  have hD := hD0.self (sz := s.heap.size)
  generalize hAe : va_A [(a, .inr (1, [.ref a_items, .int a_size])), (a_items, .inl (cs 0, a_items_n, .inl a_items_f))] s.heap.size = A at hD hkn ⊢
  have hA : ∀ q : Nat, s.heap.size ≤ q → A q := fun q h => by rw [← hAe]; exact Or.inr h
  have hS : va_S A s.heap s.heap [] := va_S.rf
  have hP : va_P g classes [(a, .inr (1, [.ref a_items, .int a_size])), (a_items, .inl (cs 0, a_items_n, .inl a_items_f))] s.heap := hP
  have hl := lv_entry ([.ref a, .int item]) (n := 2) (Nat.le_of_ble_eq_true rfl)
  rw [lg_entry_eq]
  generalize (lg_sl ([.ref a, .int item]) ++ List.replicate (2 - (lg_sl ([.ref a, .int item])).length) Slot.unset).toArray = ls at hl ⊢
  have hl : lv_has ls 2 [(0, .ref a), (1, .int item)] := hl
  refine gq (fun Q hQ => ?_)
  obtain ⟨H, hH⟩ : ∃ H : Heap, H = s.heap := ⟨_, rfl⟩
  rw [← hH] at hP
  have hS : va_S A s.heap H [] := by rw [hH]; exact hS
  refine W.eqH hH ?_
  obtain ⟨locs, hlc⟩ : ∃ L : List Loc, L = [] := ⟨_, rfl⟩
  rw [← hlc] at hS ⊢
  unfold p_Ints_push at hok
  refine lv_aload_n hx hb d_Ints_push_0 rfl (lv_at hl 0 rfl) ?_
  refine va_get (D := g) (ci := 1) (v := .int a_size) (C := R_Ints) (T := F_Ints) (N := 2) hx hb hg ul_Ints hown hK hP 0 rfl rfl 1 (by decide) (hg _ wd_151) (fun _ h9 => h9) rfl d_Ints_push_1 ?_
  refine lv_aload_n hx hb d_Ints_push_4 rfl (lv_at hl 0 rfl) ?_
  refine va_get (D := g) (ci := 1) (v := .ref a_items) (C := R_Ints) (T := F_Ints) (N := 2) hx hb hg ul_Ints hown hK hP 0 rfl rfl 0 (by decide) (hg _ wd_152) (fun _ h9 => h9) rfl d_Ints_push_5 ?_
  refine va_alen (v := Int32.ofNat a_items_n) hx hb hK hP 1 0 rfl rfl rfl d_Ints_push_8 ?_
  refine lv_icmp_ne hx hb d_Ints_push_9 rfl (fun h1 => ?_) (fun h1 => ?_)
  · rw [if_neg h1] at hok
    refine lv_aload_n hx hb d_Ints_push_29 rfl (lv_at hl 0 rfl) ?_
    refine va_get (D := g) (ci := 1) (v := .ref a_items) (C := R_Ints) (T := F_Ints) (N := 2) hx hb hg ul_Ints hown hK hP 0 rfl rfl 0 (by decide) (hg _ wd_152) (fun _ h9 => h9) rfl d_Ints_push_30 ?_
    refine lv_aload_n hx hb d_Ints_push_33 rfl (lv_at hl 0 rfl) ?_
    refine va_get (D := g) (ci := 1) (v := .int a_size) (C := R_Ints) (T := F_Ints) (N := 2) hx hb hg ul_Ints hown hK hP 0 rfl rfl 1 (by decide) (hg _ wd_151) (fun _ h9 => h9) rfl d_Ints_push_34 ?_
    refine lv_iload_n hx hb d_Ints_push_37 rfl (lv_at hl 1 rfl) ?_
    obtain ⟨hi2, hok⟩ := ck_some hok
    refine va_iast hx hb hK hP hD hS 1 0 rfl rfl (ixb_in hi2) d_Ints_push_38 (fun H locs hP hD hS => ?_)
    obtain ⟨hP, hD⟩ : PD g A H [(a, .inr (1, [.ref a_items, .int a_size])), (a_items, .inl (cs 0, a_items_n, .inl (upd a_items_f a_size.toNatClampNeg item)))] := ⟨hP, hD⟩
    refine lv_aload_n hx hb d_Ints_push_39 rfl (lv_at hl 0 rfl) ?_
    refine lv_dup hx hb d_Ints_push_40 rfl ?_
    refine va_get (D := g) (ci := 1) (v := .int a_size) (C := R_Ints) (T := F_Ints) (N := 2) hx hb hg ul_Ints hown hK hP 0 rfl rfl 1 (by decide) (hg _ wd_151) (fun _ h9 => h9) rfl d_Ints_push_41 ?_
    refine lv_iconst (v := 1) hx hb d_Ints_push_44 (by decide) ?_
    refine lv_iadd hx hb d_Ints_push_45 ?_
    refine va_put (D := g) (ci := 1) (v := .int (a_size + 1)) (ty := .int) (C := R_Ints) (T := F_Ints) (N := 2) hx hb hg ul_Ints t_Ints tk_Ints n_Ints hown hK hP hD hS 0 rfl rfl 1 (by decide) (hg _ wd_151) (fun _ h9 => h9) rfl (by decide +kernel) rfl rfl (Nat.le_of_ble_eq_true rfl) d_Ints_push_46 (fun H locs hP hD hS => ?_)
    obtain ⟨hP, hD⟩ : PD g A H [(a, .inr (1, [.ref a_items, .int (a_size + 1)])), (a_items, .inl (cs 0, a_items_n, .inl (upd a_items_f a_size.toNatClampNeg item)))] := ⟨hP, hD⟩
    obtain ⟨hq, hw⟩ := Prod.mk.inj (Option.some.inj hok)
    obtain ⟨hmc0, hms0⟩ := Prod.mk.inj hw
    obtain ⟨hq0, hq⟩ := Prod.mk.inj hq
    obtain ⟨hq1, hq⟩ := Prod.mk.inj hq
    have hq2 := hq
    subst hq0
    subst hq1
    subst hq2
    obtain ⟨hP9, hD9⟩ := sub2 (ws' := [(a, .inr (1, [.ref a_items, .int (a_size + 1)])), (a_items, .inl (cs 0, a_items_n, .inl (upd a_items_f a_size.toNatClampNeg item)))]) hP hD [0, 1] rfl (by decide) rfl
    refine W.widen (k := mc) (n := ms) (by omega) (by omega) ?_
    rw [hQ]
    exact W.vret hx hb hr (fun t ht hW => ⟨⟨(), rfl, trivial, a_items, by rw [ht]; exact hP9, hD9⟩, hS.F ht⟩) hS.2.2 d_Ints_push_49
  · rw [if_pos h1] at hok
    refine lv_aload_n hx hb d_Ints_push_12 rfl (lv_at hl 0 rfl) ?_
    refine lv_aload_n hx hb d_Ints_push_13 rfl (lv_at hl 0 rfl) ?_
    refine va_get (D := g) (ci := 1) (v := .ref a_items) (C := R_Ints) (T := F_Ints) (N := 2) hx hb hg ul_Ints hown hK hP 0 rfl rfl 0 (by decide) (hg _ wd_152) (fun _ h9 => h9) rfl d_Ints_push_14 ?_
    refine lv_iconst (v := 2) hx hb d_Ints_push_17 (by decide) ?_
    refine lv_aload_n hx hb d_Ints_push_18 rfl (lv_at hl 0 rfl) ?_
    refine va_get (D := g) (ci := 1) (v := .int a_size) (C := R_Ints) (T := F_Ints) (N := 2) hx hb hg ul_Ints hown hK hP 0 rfl rfl 1 (by decide) (hg _ wd_151) (fun _ h9 => h9) rfl d_Ints_push_19 ?_
    refine lv_imul hx hb d_Ints_push_22 ?_
    obtain ⟨⟨⟨ret_n_3, ret_f_3⟩, mk3, sk3⟩, hc3, hok⟩ := bd_some hok
    dsimp only at hok
    obtain ⟨m3, s3, hok, hmc3, hms3⟩ := al_some hok
    obtain ⟨hPc, hDc, hFc⟩ := cut0 (wc := [(a_items, .inl (cs 0, a_items_n, .inl a_items_f))]) hP hD hS hA [1] (by decide) rfl
    refine va_callr (va_runS (As := [.ref a_items, .int (2 * a_size)]) (rest := [.ref a]) ⟨hx, hb, hml, hown, hg⟩ (c_Arrays_copyOf_aII l g cs ka a_items H.size (2 * a_size) a_items_n a_items_f ret_n_3 ret_f_3 mk3 sk3 hc3) (va_cwS 2 hg (gw_S wd_155 wd_156 wd_154 wd_153) rfl rfl rfl (by decide +kernel) ⟨Nat.le_of_ble_eq_true rfl, Nat.le_of_ble_eq_true rfl⟩) ⟨gP_blind, gP_pre hPc hDc hK hgl hkn hkr hS hFc⟩ rfl rfl hl.1 rfl (lv_room (Nat.le_of_ble_eq_true rfl)) d_Ints_push_23 ⟨show 0 + mk3 ≤ mc from by omega, show 0 + sk3 ≤ ms from by omega⟩) hS (fun q _ h => hFc q h) hFc (fun u ra3 t H locs ht hvm hr3 hB hz1 hk1 hS => ?_)
    rw [ht] at hB
    obtain ⟨ret_3, hra3, hP1, hD1⟩ := hB
    subst hra3
    obtain ⟨hP, hD⟩ := jn_A hP hD [1] [0] rfl rfl (by decide) (by decide) hk1 hFc hP1 hD1
    obtain ⟨hP, hD⟩ : PD g A H [(a, .inr (1, [.ref a_items, .int a_size])), (a_items, .inl (cs 0, a_items_n, .inl a_items_f)), (ret_3, .inl (cs 0, ret_n_3, .inl ret_f_3))] := ⟨hP, hD⟩
    refine va_put (D := g) (ci := 1) (v := .ref ret_3) (ty := .array .int) (C := R_Ints) (T := F_Ints) (N := 2) hx hb hg ul_Ints t_Ints tk_Ints n_Ints hown hK hP hD hS 0 rfl rfl 0 (by decide) (hg _ wd_152) (fun _ h9 => h9) rfl (by decide +kernel) rfl rfl (Nat.le_of_ble_eq_true rfl) d_Ints_push_26 (fun H locs hP hD hS => ?_)
    obtain ⟨hP, hD⟩ : PD g A H [(a, .inr (1, [.ref ret_3, .int a_size])), (a_items, .inl (cs 0, a_items_n, .inl a_items_f)), (ret_3, .inl (cs 0, ret_n_3, .inl ret_f_3))] := ⟨hP, hD⟩
    refine lv_aload_n hx hb d_Ints_push_29 rfl (lv_at hl 0 rfl) ?_
    refine va_get (D := g) (ci := 1) (v := .ref ret_3) (C := R_Ints) (T := F_Ints) (N := 2) hx hb hg ul_Ints hown hK hP 0 rfl rfl 0 (by decide) (hg _ wd_152) (fun _ h9 => h9) rfl d_Ints_push_30 ?_
    refine lv_aload_n hx hb d_Ints_push_33 rfl (lv_at hl 0 rfl) ?_
    refine va_get (D := g) (ci := 1) (v := .int a_size) (C := R_Ints) (T := F_Ints) (N := 2) hx hb hg ul_Ints hown hK hP 0 rfl rfl 1 (by decide) (hg _ wd_151) (fun _ h9 => h9) rfl d_Ints_push_34 ?_
    refine lv_iload_n hx hb d_Ints_push_37 rfl (lv_at hl 1 rfl) ?_
    obtain ⟨hi4, hok⟩ := ck_some hok
    refine va_iast hx hb hK hP hD hS 2 0 rfl rfl (ixb_in hi4) d_Ints_push_38 (fun H locs hP hD hS => ?_)
    obtain ⟨hP, hD⟩ : PD g A H [(a, .inr (1, [.ref ret_3, .int a_size])), (a_items, .inl (cs 0, a_items_n, .inl a_items_f)), (ret_3, .inl (cs 0, ret_n_3, .inl (upd ret_f_3 a_size.toNatClampNeg item)))] := ⟨hP, hD⟩
    refine lv_aload_n hx hb d_Ints_push_39 rfl (lv_at hl 0 rfl) ?_
    refine lv_dup hx hb d_Ints_push_40 rfl ?_
    refine va_get (D := g) (ci := 1) (v := .int a_size) (C := R_Ints) (T := F_Ints) (N := 2) hx hb hg ul_Ints hown hK hP 0 rfl rfl 1 (by decide) (hg _ wd_151) (fun _ h9 => h9) rfl d_Ints_push_41 ?_
    refine lv_iconst (v := 1) hx hb d_Ints_push_44 (by decide) ?_
    refine lv_iadd hx hb d_Ints_push_45 ?_
    refine va_put (D := g) (ci := 1) (v := .int (a_size + 1)) (ty := .int) (C := R_Ints) (T := F_Ints) (N := 2) hx hb hg ul_Ints t_Ints tk_Ints n_Ints hown hK hP hD hS 0 rfl rfl 1 (by decide) (hg _ wd_151) (fun _ h9 => h9) rfl (by decide +kernel) rfl rfl (Nat.le_of_ble_eq_true rfl) d_Ints_push_46 (fun H locs hP hD hS => ?_)
    obtain ⟨hP, hD⟩ : PD g A H [(a, .inr (1, [.ref ret_3, .int (a_size + 1)])), (a_items, .inl (cs 0, a_items_n, .inl a_items_f)), (ret_3, .inl (cs 0, ret_n_3, .inl (upd ret_f_3 a_size.toNatClampNeg item)))] := ⟨hP, hD⟩
    obtain ⟨hq, hw⟩ := Prod.mk.inj (Option.some.inj hok)
    obtain ⟨hmc0, hms0⟩ := Prod.mk.inj hw
    obtain ⟨hq0, hq⟩ := Prod.mk.inj hq
    obtain ⟨hq1, hq⟩ := Prod.mk.inj hq
    have hq2 := hq
    subst hq0
    subst hq1
    subst hq2
    obtain ⟨hP9, hD9⟩ := sub2 (ws' := [(a, .inr (1, [.ref ret_3, .int (a_size + 1)])), (ret_3, .inl (cs 0, ret_n_3, .inl (upd ret_f_3 a_size.toNatClampNeg item)))]) hP hD [0, 2] rfl (by decide) rfl
    refine W.widen (k := mc) (n := ms) (by omega) (by omega) ?_
    rw [hQ]
    exact W.vret hx hb hr (fun t ht hW => ⟨⟨(), rfl, trivial, ret_3, by rw [ht]; exact hP9, hD9⟩, hS.F ht⟩) hS.2.2 d_Ints_push_49

theorem d_Ints_pop_0 : decode b_Ints_pop 0 = .ok (.aload_n 0, 1) := by decide +kernel
theorem d_Ints_pop_1 : decode b_Ints_pop 1 = .ok (.getfield 13, 3) := by decide +kernel
theorem d_Ints_pop_4 : decode b_Ints_pop 4 = .ok (.ifCond .ne 5, 3) := by decide +kernel
theorem d_Ints_pop_7 : decode b_Ints_pop 7 = .ok (.iconst 0, 1) := by decide +kernel
theorem d_Ints_pop_8 : decode b_Ints_pop 8 = .ok (.ireturn, 1) := by decide +kernel
theorem d_Ints_pop_9 : decode b_Ints_pop 9 = .ok (.aload_n 0, 1) := by decide +kernel
theorem d_Ints_pop_10 : decode b_Ints_pop 10 = .ok (.dup, 1) := by decide +kernel
theorem d_Ints_pop_11 : decode b_Ints_pop 11 = .ok (.getfield 13, 3) := by decide +kernel
theorem d_Ints_pop_14 : decode b_Ints_pop 14 = .ok (.iconst 1, 1) := by decide +kernel
theorem d_Ints_pop_15 : decode b_Ints_pop 15 = .ok (.isub, 1) := by decide +kernel
theorem d_Ints_pop_16 : decode b_Ints_pop 16 = .ok (.putfield 13, 3) := by decide +kernel
theorem d_Ints_pop_19 : decode b_Ints_pop 19 = .ok (.aload_n 0, 1) := by decide +kernel
theorem d_Ints_pop_20 : decode b_Ints_pop 20 = .ok (.getfield 7, 3) := by decide +kernel
theorem d_Ints_pop_23 : decode b_Ints_pop 23 = .ok (.aload_n 0, 1) := by decide +kernel
theorem d_Ints_pop_24 : decode b_Ints_pop 24 = .ok (.getfield 13, 3) := by decide +kernel
theorem d_Ints_pop_27 : decode b_Ints_pop 27 = .ok (.iaload, 1) := by decide +kernel
theorem d_Ints_pop_28 : decode b_Ints_pop 28 = .ok (.ireturn, 1) := by decide +kernel
def p_Ints_pop (a_size : Int32) (a_items_n : Nat) (a_items_f : Nat → Int32) : Option (Int32 × Int32) := if a_size = 0 then (some ((0 : Int32), a_size)) else (ck (ixb (a_size - 1) a_items_n) (some (a_items_f (a_size - 1).toNatClampNeg, a_size - 1)))
set_option maxHeartbeats 4000000 in
set_option maxRecDepth 100000 in
theorem c_Ints_pop (l : Launch) (g : va_G) (cs : Nat → ClassId) (ka : Nat → Nat) (a a_items : Nat) (sz : Nat) (a_size : Int32) (a_items_n : Nat) (a_items_f : Nat → Int32) (r : Int32) (o_a_size : Int32) (hok : p_Ints_pop a_size a_items_n a_items_f = some (r, o_a_size)) : Met l y_Ints_pop (.code y_Ints_pop b_Ints_pop 1 (some .int) :: GW) { frames := 0, cells := 0, slots := 0, locals := 0 } (va_Pc [.ref a] (gP g cs ka [(a, .inr (1, [.ref a_items, .int a_size])), (a_items, .inl (cs 0, a_items_n, .inl a_items_f))] sz)) (va_Qi (fun (r' : Int32) (_ : Unit) => r = r') (fun _ t => va_P g classes [(a, .inr (1, [.ref a_items, .int o_a_size])), (a_items, .inl (cs 0, a_items_n, .inl a_items_f))] t.heap ∧ va_D (va_A [(a, .inr (1, [.ref a_items, .int a_size])), (a_items, .inl (cs 0, a_items_n, .inl a_items_f))] sz) [(a, .inr (1, [.ref a_items, .int o_a_size])), (a_items, .inl (cs 0, a_items_n, .inl a_items_f))]) (va_A [(a, .inr (1, [.ref a_items, .int a_size])), (a_items, .inl (cs 0, a_items_n, .inl a_items_f))] sz)) 0 0 (va_A [(a, .inr (1, [.ref a_items, .int a_size])), (a_items, .inl (cs 0, a_items_n, .inl a_items_f))] sz) := by
  refine Met.ofW (cc := b_Ints_pop) (maxL := 1) (ret := (some .int)) (by decide) rfl ?_
  intro p e s m args below meth c s₁ B hml hv
  obtain ⟨rfl, hsz, hP, hK, hD0, hgl, hkn, hkr⟩ := hv
  have hx := B.exec
  have hb := B.bytes
  have hr := B.returns
  have hg : ∀ w ∈ GW, w.before ([.ref a] : List Value).toArray s = true := fun w hw => atoms_spec (ws := .code y_Ints_pop b_Ints_pop 1 (some .int) :: GW) B.pre w (List.mem_cons_of_mem _ hw)
  have hown : s.vm.findClass R_Ints = some m.cls := findClass_of_methodNamed B.named
  have hlocks := B.notSynchronized
  subst hsz
  have hD := hD0.self (sz := s.heap.size)
  generalize hAe : va_A [(a, .inr (1, [.ref a_items, .int a_size])), (a_items, .inl (cs 0, a_items_n, .inl a_items_f))] s.heap.size = A at hD hkn ⊢
  have hA : ∀ q : Nat, s.heap.size ≤ q → A q := fun q h => by rw [← hAe]; exact Or.inr h
  have hS : va_S A s.heap s.heap [] := va_S.rf
  have hP : va_P g classes [(a, .inr (1, [.ref a_items, .int a_size])), (a_items, .inl (cs 0, a_items_n, .inl a_items_f))] s.heap := hP
  have hl := lv_entry ([.ref a]) (n := 1) (Nat.le_of_ble_eq_true rfl)
  rw [lg_entry_eq]
  generalize (lg_sl ([.ref a]) ++ List.replicate (1 - (lg_sl ([.ref a])).length) Slot.unset).toArray = ls at hl ⊢
  have hl : lv_has ls 1 [(0, .ref a)] := hl
  refine gq (fun Q hQ => ?_)
  obtain ⟨H, hH⟩ : ∃ H : Heap, H = s.heap := ⟨_, rfl⟩
  rw [← hH] at hP
  have hS : va_S A s.heap H [] := by rw [hH]; exact hS
  refine W.eqH hH ?_
  obtain ⟨locs, hlc⟩ : ∃ L : List Loc, L = [] := ⟨_, rfl⟩
  rw [← hlc] at hS ⊢
  unfold p_Ints_pop at hok
  refine lv_aload_n hx hb d_Ints_pop_0 rfl (lv_at hl 0 rfl) ?_
  refine va_get (D := g) (ci := 1) (v := .int a_size) (C := R_Ints) (T := F_Ints) (N := 2) hx hb hg ul_Ints hown hK hP 0 rfl rfl 1 (by decide) (hg _ wd_151) (fun _ h9 => h9) rfl d_Ints_pop_1 ?_
  refine lv_if_ne hx hb d_Ints_pop_4 rfl (fun h1 => ?_) (fun h1 => ?_)
  · rw [if_neg h1] at hok
    refine lv_aload_n hx hb d_Ints_pop_9 rfl (lv_at hl 0 rfl) ?_
    refine lv_dup hx hb d_Ints_pop_10 rfl ?_
    refine va_get (D := g) (ci := 1) (v := .int a_size) (C := R_Ints) (T := F_Ints) (N := 2) hx hb hg ul_Ints hown hK hP 0 rfl rfl 1 (by decide) (hg _ wd_151) (fun _ h9 => h9) rfl d_Ints_pop_11 ?_
    refine lv_iconst (v := 1) hx hb d_Ints_pop_14 (by decide) ?_
    refine lv_isub hx hb d_Ints_pop_15 ?_
    refine va_put (D := g) (ci := 1) (v := .int (a_size - 1)) (ty := .int) (C := R_Ints) (T := F_Ints) (N := 2) hx hb hg ul_Ints t_Ints tk_Ints n_Ints hown hK hP hD hS 0 rfl rfl 1 (by decide) (hg _ wd_151) (fun _ h9 => h9) rfl (by decide +kernel) rfl rfl (Nat.le_of_ble_eq_true rfl) d_Ints_pop_16 (fun H locs hP hD hS => ?_)
    obtain ⟨hP, hD⟩ : PD g A H [(a, .inr (1, [.ref a_items, .int (a_size - 1)])), (a_items, .inl (cs 0, a_items_n, .inl a_items_f))] := ⟨hP, hD⟩
    refine lv_aload_n hx hb d_Ints_pop_19 rfl (lv_at hl 0 rfl) ?_
    refine va_get (D := g) (ci := 1) (v := .ref a_items) (C := R_Ints) (T := F_Ints) (N := 2) hx hb hg ul_Ints hown hK hP 0 rfl rfl 0 (by decide) (hg _ wd_152) (fun _ h9 => h9) rfl d_Ints_pop_20 ?_
    refine lv_aload_n hx hb d_Ints_pop_23 rfl (lv_at hl 0 rfl) ?_
    refine va_get (D := g) (ci := 1) (v := .int (a_size - 1)) (C := R_Ints) (T := F_Ints) (N := 2) hx hb hg ul_Ints hown hK hP 0 rfl rfl 1 (by decide) (hg _ wd_151) (fun _ h9 => h9) rfl d_Ints_pop_24 ?_
    obtain ⟨hi2, hok⟩ := ck_some hok
    refine va_iald hx hb hK hP 1 0 rfl rfl (ixb_in hi2) d_Ints_pop_27 ?_
    have hq := Option.some.inj hok
    obtain ⟨hq0, hq⟩ := Prod.mk.inj hq
    have hq1 := hq
    subst hq0
    subst hq1
    obtain ⟨hP9, hD9⟩ := sub2 (ws' := [(a, .inr (1, [.ref a_items, .int (a_size - 1)])), (a_items, .inl (cs 0, a_items_n, .inl a_items_f))]) hP hD [0, 1] rfl (by decide) rfl
    rw [hQ]
    exact W.iret (v := a_items_f (a_size - 1).toNatClampNeg) hx hb hr (fun t ht hW => ⟨⟨_, (), rfl, rfl, by rw [ht]; exact hP9, hD9⟩, hS.F ht⟩) hS.2.2 d_Ints_pop_28
  · rw [if_pos h1] at hok
    refine lv_iconst (v := 0) hx hb d_Ints_pop_7 (by decide) ?_
    have hq := Option.some.inj hok
    obtain ⟨hq0, hq⟩ := Prod.mk.inj hq
    have hq1 := hq
    subst hq0
    subst hq1
    obtain ⟨hP9, hD9⟩ := sub2 (ws' := [(a, .inr (1, [.ref a_items, .int a_size])), (a_items, .inl (cs 0, a_items_n, .inl a_items_f))]) hP hD [0, 1] rfl (by decide) rfl
    rw [hQ]
    exact W.iret (v := 0) hx hb hr (fun t ht hW => ⟨⟨_, (), rfl, rfl, by rw [ht]; exact hP9, hD9⟩, hS.F ht⟩) hS.2.2 d_Ints_pop_8

theorem d_Ints_cut_0 : decode b_Ints_cut 0 = .ok (.iload_n 1, 1) := by decide +kernel
theorem d_Ints_cut_1 : decode b_Ints_cut 1 = .ok (.ifCond .lt 16, 3) := by decide +kernel
theorem d_Ints_cut_4 : decode b_Ints_cut 4 = .ok (.iload_n 1, 1) := by decide +kernel
theorem d_Ints_cut_5 : decode b_Ints_cut 5 = .ok (.aload_n 0, 1) := by decide +kernel
theorem d_Ints_cut_6 : decode b_Ints_cut 6 = .ok (.getfield 13, 3) := by decide +kernel
theorem d_Ints_cut_9 : decode b_Ints_cut 9 = .ok (.if_icmp .ge 8, 3) := by decide +kernel
theorem d_Ints_cut_12 : decode b_Ints_cut 12 = .ok (.aload_n 0, 1) := by decide +kernel
theorem d_Ints_cut_13 : decode b_Ints_cut 13 = .ok (.iload_n 1, 1) := by decide +kernel
theorem d_Ints_cut_14 : decode b_Ints_cut 14 = .ok (.putfield 13, 3) := by decide +kernel
theorem d_Ints_cut_17 : decode b_Ints_cut 17 = .ok (.return_, 1) := by decide +kernel
def p_Ints_cut (length : Int32) (a_size : Int32) : Option Int32 := if length < 0 then (some a_size) else (if a_size ≤ length then (some a_size) else (some length))
set_option maxHeartbeats 4000000 in
set_option maxRecDepth 100000 in
theorem c_Ints_cut (l : Launch) (g : va_G) (cs : Nat → ClassId) (ka : Nat → Nat) (a_items : Nat) (a : Nat) (sz : Nat) (length : Int32) (a_size : Int32) (o_a_size : Int32) (hok : p_Ints_cut length a_size = some o_a_size) : Met l y_Ints_cut (.code y_Ints_cut b_Ints_cut 2 none :: GW) { frames := 0, cells := 0, slots := 0, locals := 0 } (va_Pc [.ref a, .int length] (gP g cs ka [(a, .inr (1, [.ref a_items, .int a_size]))] sz)) (va_Qv (fun _ : Unit => True) (fun _ t => va_P g classes [(a, .inr (1, [.ref a_items, .int o_a_size]))] t.heap ∧ va_D (va_A [(a, .inr (1, [.ref a_items, .int a_size]))] sz) [(a, .inr (1, [.ref a_items, .int o_a_size]))]) (va_A [(a, .inr (1, [.ref a_items, .int a_size]))] sz)) 0 0 (va_A [(a, .inr (1, [.ref a_items, .int a_size]))] sz) := by
  refine Met.ofW (cc := b_Ints_cut) (maxL := 2) (ret := none) (by decide) rfl ?_
  intro p e s m args below meth c s₁ B hml hv
  obtain ⟨rfl, hsz, hP, hK, hD0, hgl, hkn, hkr⟩ := hv
  have hx := B.exec
  have hb := B.bytes
  have hr := B.returns
  have hg : ∀ w ∈ GW, w.before ([.ref a, .int length] : List Value).toArray s = true := fun w hw => atoms_spec (ws := .code y_Ints_cut b_Ints_cut 2 none :: GW) B.pre w (List.mem_cons_of_mem _ hw)
  have hown : s.vm.findClass R_Ints = some m.cls := findClass_of_methodNamed B.named
  have hlocks := B.notSynchronized
  subst hsz
  have hD := hD0.self (sz := s.heap.size)
  generalize hAe : va_A [(a, .inr (1, [.ref a_items, .int a_size]))] s.heap.size = A at hD hkn ⊢
  have hA : ∀ q : Nat, s.heap.size ≤ q → A q := fun q h => by rw [← hAe]; exact Or.inr h
  have hS : va_S A s.heap s.heap [] := va_S.rf
  have hP : va_P g classes [(a, .inr (1, [.ref a_items, .int a_size]))] s.heap := hP
  have hl := lv_entry ([.ref a, .int length]) (n := 2) (Nat.le_of_ble_eq_true rfl)
  rw [lg_entry_eq]
  generalize (lg_sl ([.ref a, .int length]) ++ List.replicate (2 - (lg_sl ([.ref a, .int length])).length) Slot.unset).toArray = ls at hl ⊢
  have hl : lv_has ls 2 [(0, .ref a), (1, .int length)] := hl
  refine gq (fun Q hQ => ?_)
  obtain ⟨H, hH⟩ : ∃ H : Heap, H = s.heap := ⟨_, rfl⟩
  rw [← hH] at hP
  have hS : va_S A s.heap H [] := by rw [hH]; exact hS
  refine W.eqH hH ?_
  obtain ⟨locs, hlc⟩ : ∃ L : List Loc, L = [] := ⟨_, rfl⟩
  rw [← hlc] at hS ⊢
  unfold p_Ints_cut at hok
  refine lv_iload_n hx hb d_Ints_cut_0 rfl (lv_at hl 1 rfl) ?_
  refine lv_if_lt hx hb d_Ints_cut_1 rfl (fun h1 => ?_) (fun h1 => ?_)
  · rw [if_pos h1] at hok
    have hq := Option.some.inj hok
    have hq0 := hq
    subst hq0
    obtain ⟨hP9, hD9⟩ := sub2 (ws' := [(a, .inr (1, [.ref a_items, .int a_size]))]) hP hD [0] rfl (by decide) rfl
    rw [hQ]
    exact W.vret hx hb hr (fun t ht hW => ⟨⟨(), rfl, trivial, by rw [ht]; exact hP9, hD9⟩, hS.F ht⟩) hS.2.2 d_Ints_cut_17
  · rw [if_neg h1] at hok
    refine lv_iload_n hx hb d_Ints_cut_4 rfl (lv_at hl 1 rfl) ?_
    refine lv_aload_n hx hb d_Ints_cut_5 rfl (lv_at hl 0 rfl) ?_
    refine va_get (D := g) (ci := 1) (v := .int a_size) (C := R_Ints) (T := F_Ints) (N := 2) hx hb hg ul_Ints hown hK hP 0 rfl rfl 1 (by decide) (hg _ wd_151) (fun _ h9 => h9) rfl d_Ints_cut_6 ?_
    refine lv_icmp_ge hx hb d_Ints_cut_9 rfl (fun h2 => ?_) (fun h2 => ?_)
    · rw [if_pos h2] at hok
      have hq := Option.some.inj hok
      have hq0 := hq
      subst hq0
      obtain ⟨hP9, hD9⟩ := sub2 (ws' := [(a, .inr (1, [.ref a_items, .int a_size]))]) hP hD [0] rfl (by decide) rfl
      rw [hQ]
      exact W.vret hx hb hr (fun t ht hW => ⟨⟨(), rfl, trivial, by rw [ht]; exact hP9, hD9⟩, hS.F ht⟩) hS.2.2 d_Ints_cut_17
    · rw [if_neg h2] at hok
      refine lv_aload_n hx hb d_Ints_cut_12 rfl (lv_at hl 0 rfl) ?_
      refine lv_iload_n hx hb d_Ints_cut_13 rfl (lv_at hl 1 rfl) ?_
      refine va_put (D := g) (ci := 1) (v := .int length) (ty := .int) (C := R_Ints) (T := F_Ints) (N := 2) hx hb hg ul_Ints t_Ints tk_Ints n_Ints hown hK hP hD hS 0 rfl rfl 1 (by decide) (hg _ wd_151) (fun _ h9 => h9) rfl (by decide +kernel) rfl rfl (Nat.le_of_ble_eq_true rfl) d_Ints_cut_14 (fun H locs hP hD hS => ?_)
      obtain ⟨hP, hD⟩ : PD g A H [(a, .inr (1, [.ref a_items, .int length]))] := ⟨hP, hD⟩
      have hq := Option.some.inj hok
      have hq0 := hq
      subst hq0
      obtain ⟨hP9, hD9⟩ := sub2 (ws' := [(a, .inr (1, [.ref a_items, .int length]))]) hP hD [0] rfl (by decide) rfl
      rw [hQ]
      exact W.vret hx hb hr (fun t ht hW => ⟨⟨(), rfl, trivial, by rw [ht]; exact hP9, hD9⟩, hS.F ht⟩) hS.2.2 d_Ints_cut_17

theorem d_Ints_init_0 : decode b_Ints_init 0 = .ok (.aload_n 0, 1) := by decide +kernel
theorem d_Ints_init_1 : decode b_Ints_init 1 = .ok (.invokespecial 1, 3) := by decide +kernel
theorem d_Ints_init_4 : decode b_Ints_init 4 = .ok (.aload_n 0, 1) := by decide +kernel
theorem d_Ints_init_5 : decode b_Ints_init 5 = .ok (.bipush 64, 2) := by decide +kernel
theorem d_Ints_init_7 : decode b_Ints_init 7 = .ok (.newarray .int, 2) := by decide +kernel
theorem d_Ints_init_9 : decode b_Ints_init 9 = .ok (.putfield 7, 3) := by decide +kernel
theorem d_Ints_init_12 : decode b_Ints_init 12 = .ok (.aload_n 0, 1) := by decide +kernel
theorem d_Ints_init_13 : decode b_Ints_init 13 = .ok (.iconst 0, 1) := by decide +kernel
theorem d_Ints_init_14 : decode b_Ints_init 14 = .ok (.putfield 13, 3) := by decide +kernel
theorem d_Ints_init_17 : decode b_Ints_init 17 = .ok (.return_, 1) := by decide +kernel
def p_Ints_init : Option ((Int32 × Nat × (Nat → Int32)) × Nat × Nat) := al 1 64 (some (((0 : Int32), 64, (fun _ => 0 : Nat → Int32)), 0, 0))
set_option maxHeartbeats 4000000 in
set_option maxRecDepth 100000 in
theorem c_Ints_init (l : Launch) (g : va_G) (cs : Nat → ClassId) (ka : Nat → Nat) (a : Nat) (sz : Nat) (o_a_size : Int32) (o_a_items_n : Nat) (o_a_items_f : Nat → Int32) (mc ms : Nat) (hok : p_Ints_init = some ((o_a_size, o_a_items_n, o_a_items_f), mc, ms)) : Met l y_Ints_init (.code y_Ints_init b_Ints_init 1 none :: GW) { frames := 1, cells := mc, slots := ms, locals := 12 } (va_Pc [.ref a] (gP g cs ka [(a, .inr (1, [.null, .int 0]))] sz)) (va_Qv (fun _ : Unit => True) (fun _ t => ∃ b_a_items : Nat, va_P g classes [(a, .inr (1, [.ref b_a_items, .int o_a_size])), (b_a_items, .inl (cs 0, o_a_items_n, .inl o_a_items_f))] t.heap ∧ va_D (va_A [(a, .inr (1, [.null, .int 0]))] sz) [(a, .inr (1, [.ref b_a_items, .int o_a_size])), (b_a_items, .inl (cs 0, o_a_items_n, .inl o_a_items_f))]) (va_A [(a, .inr (1, [.null, .int 0]))] sz)) mc ms (va_A [(a, .inr (1, [.null, .int 0]))] sz) := by
  refine Met.ofW (cc := b_Ints_init) (maxL := 1) (ret := none) (by decide) rfl ?_
  intro p e s m args below meth c s₁ B hml hv
  obtain ⟨rfl, hsz, hP, hK, hD0, hgl, hkn, hkr⟩ := hv
  have hx := B.exec
  have hb := B.bytes
  have hr := B.returns
  have hg : ∀ w ∈ GW, w.before ([.ref a] : List Value).toArray s = true := fun w hw => atoms_spec (ws := .code y_Ints_init b_Ints_init 1 none :: GW) B.pre w (List.mem_cons_of_mem _ hw)
  have hown : s.vm.findClass R_Ints = some m.cls := findClass_of_methodNamed B.named
  have hlocks := B.notSynchronized
  have hin : meth.name = "<init>" := (name_of_methodNamed B.named B.method).1
  subst hsz
  have hD := hD0.self (sz := s.heap.size)
  generalize hAe : va_A [(a, .inr (1, [.null, .int 0]))] s.heap.size = A at hD hkn ⊢
  have hA : ∀ q : Nat, s.heap.size ≤ q → A q := fun q h => by rw [← hAe]; exact Or.inr h
  have hS : va_S A s.heap s.heap [] := va_S.rf
  have hP : va_P g classes [(a, .inr (1, [.null, .int 0]))] s.heap := hP
  have hl := lv_entry ([.ref a]) (n := 1) (Nat.le_of_ble_eq_true rfl)
  rw [lg_entry_eq]
  generalize (lg_sl ([.ref a]) ++ List.replicate (1 - (lg_sl ([.ref a])).length) Slot.unset).toArray = ls at hl ⊢
  have hl : lv_has ls 1 [(0, .ref a)] := hl
  refine gq (fun Q hQ => ?_)
  obtain ⟨H, hH⟩ : ∃ H : Heap, H = s.heap := ⟨_, rfl⟩
  rw [← hH] at hP
  have hS : va_S A s.heap H [] := by rw [hH]; exact hS
  refine W.eqH hH ?_
  obtain ⟨locs, hlc⟩ : ∃ L : List Loc, L = [] := ⟨_, rfl⟩
  rw [← hlc] at hS ⊢
  unfold p_Ints_init at hok
  refine lv_aload_n hx hb d_Ints_init_0 rfl (lv_at hl 0 rfl) ?_
  refine W.objInit hx hb hown (hg _ wd_157) (hg _ wd_158) (hg _ wd_159) rfl (by rw [hml]; exact hl.1) rfl d_Ints_init_1 (Nat.le_of_ble_eq_true rfl) (Nat.le_of_ble_eq_true rfl) ?_
  refine W.eq (g2 := F0 m 4 ls []) rfl ?_
  refine lv_aload_n hx hb d_Ints_init_4 rfl (lv_at hl 0 rfl) ?_
  refine lv_bipush (v := 64) hx hb d_Ints_init_5 (by decide) ?_
  obtain ⟨m1, s1, hok, hmc1, hms1⟩ := al_some hok
  refine g_newI hx hb (hg _ wd_142) hK hP hD hS hA (64) (by decide) (by decide) (by decide) (show 0 + 1 ≤ mc from by omega) (show 0 + 64 ≤ ms from by omega) d_Ints_init_7 (fun q1 H hP hD hS => ?_)
  obtain ⟨hP, hD⟩ : PD g A H [(a, .inr (1, [.null, .int 0])), (q1, .inl (cs 0, 64, .inl (fun _ => 0)))] := ⟨hP, hD⟩
  refine va_put (D := g) (ci := 1) (v := .ref q1) (ty := .array .int) (C := R_Ints) (T := F_Ints) (N := 2) hx hb hg ul_Ints t_Ints tk_Ints n_Ints hown hK hP hD hS 0 rfl rfl 0 (by decide) (hg _ wd_152) (fun _ h9 => h9) rfl (by decide +kernel) rfl rfl (Nat.le_of_ble_eq_true rfl) d_Ints_init_9 (fun H locs hP hD hS => ?_)
  obtain ⟨hP, hD⟩ : PD g A H [(a, .inr (1, [.ref q1, .int 0])), (q1, .inl (cs 0, 64, .inl (fun _ => 0)))] := ⟨hP, hD⟩
  refine lv_aload_n hx hb d_Ints_init_12 rfl (lv_at hl 0 rfl) ?_
  refine lv_iconst (v := 0) hx hb d_Ints_init_13 (by decide) ?_
  refine va_put (D := g) (ci := 1) (v := .int 0) (ty := .int) (C := R_Ints) (T := F_Ints) (N := 2) hx hb hg ul_Ints t_Ints tk_Ints n_Ints hown hK hP hD hS 0 rfl rfl 1 (by decide) (hg _ wd_151) (fun _ h9 => h9) rfl (by decide +kernel) rfl rfl (Nat.le_of_ble_eq_true rfl) d_Ints_init_14 (fun H locs hP hD hS => ?_)
  obtain ⟨hP, hD⟩ : PD g A H [(a, .inr (1, [.ref q1, .int 0])), (q1, .inl (cs 0, 64, .inl (fun _ => 0)))] := ⟨hP, hD⟩
  obtain ⟨hq, hw⟩ := Prod.mk.inj (Option.some.inj hok)
  obtain ⟨hmc0, hms0⟩ := Prod.mk.inj hw
  obtain ⟨hq0, hq⟩ := Prod.mk.inj hq
  obtain ⟨hq1, hq⟩ := Prod.mk.inj hq
  have hq2 := hq
  subst hq0
  subst hq1
  subst hq2
  obtain ⟨hP9, hD9⟩ := sub2 (ws' := [(a, .inr (1, [.ref q1, .int 0])), (q1, .inl (cs 0, 64, .inl (fun _ => 0)))]) hP hD [0, 1] rfl (by decide) rfl
  refine W.widen (k := mc) (n := ms) (by omega) (by omega) ?_
  rw [hQ]
  exact W.vret hx hb hr (fun t ht hW => ⟨⟨(), rfl, trivial, q1, by rw [ht]; exact hP9, hD9⟩, hS.F ht⟩) hS.2.2 d_Ints_init_17
