def kn_tm : List (String × Nat) := [("UnifyBench$Letters", 19), ("UnifyBench$Letters", 27), ("UnifyBenchModel$Reader", 11), ("UnifyBenchModel$Reader", 13), ("UnifyBenchModel$Reader", 15), ("UnifyBenchModel$Reader", 17), ("UnifyBenchModel$Reader", 19), ("UnifyBenchModel$Reader", 21), ("UnifyBenchModel$Reader", 23), ("UnifyBenchModel$Reader", 25), ("UnifyBenchModel$Reader", 27), ("UnifyBenchModel$Reader", 29), ("UnifyBenchModel$Reader", 31), ("UnifyBenchModel$Reader", 33), ("UnifyBenchModel$Reader", 35), ("UnifyBenchModel$Reader", 37), ("UnifyBenchModel$Reader", 39), ("UnifyBenchModel$Reader", 41), ("UnifyBenchModel$Reader", 43), ("UnifyBenchModel$Reader", 45), ("UnifyBenchModel$Reader", 47), ("UnifyBenchModel$Reader", 49), ("UnifyBenchModel$Reader", 196), ("UnifyBenchModel$Paper", 59), ("UnifyBenchModel$Paper", 53), ("UnifyBench$Known", 122)]
def kn_tt : List (String × Nat) := [("UnifyBench$Known", 113), ("UnifyBench$Known", 119), ("UnifyBench$Known", 122), ("UnifyBench$Known", 125), ("UnifyBench$Known", 128), ("UnifyBench$Known", 131), ("UnifyBench$Known", 134), ("UnifyBench$Known", 137), ("UnifyBench$Known", 140), ("UnifyBench$Known", 143), ("UnifyBench$Known", 146), ("UnifyBench$Known", 149), ("UnifyBench$Known", 152), ("UnifyBench$Known", 155), ("UnifyBench$Known", 158), ("UnifyBench$Known", 161), ("UnifyBench$Known", 164), ("UnifyBench$Known", 167), ("UnifyBench$Known", 170), ("UnifyBench$Known", 173), ("UnifyBench$Known", 176), ("UnifyBench$Known", 179), ("UnifyBench$Known", 182), ("UnifyBench$Known", 185)]
def kn_nm : List String := ["EMPTY", "DOT", "COMMA", "MINUS", "NOT", "NECK", "OR", "THEN", "UNIFIED", "NOT_UNIFIED", "SAME", "NOT_SAME", "IS", "LESS", "GREATER", "AT_MOST", "AT_LEAST", "EQUAL", "NOT_EQUAL", "PLUS", "TIMES", "DIVIDED", "MOD", "REM"]
abbrev st_C : Cond := Jvm.Cond.and given_1 narrow_1
abbrev st_tm (i : Nat) : Term := .string (kn_tm.getD i ("", 0)).1 (kn_tm.getD i ("", 0)).2
abbrev st_v (i : Nat) : Term := .field (st_tm i) "java/lang/String" "value" "[B"
abbrev st_en (i : Nat) : Term := .static "UnifyBench$Known" (kn_nm.getD i "") "LUnifyBench$Known;"
abbrev st_all : Term := .static "UnifyBench$Known" "ALL" "[LUnifyBench$Known;"
theorem st_m1 : (List.range 26).all (fun i => decide (Cond.exactly (st_tm i) "java/lang/String" ∈ flatC st_C)) = true := by decide +kernel
theorem st_m2 : (List.range 26).all (fun i => decide (Cond.eq (.field (st_tm i) "java/lang/String" "coder" "B") (.int 0) ∈ flatC st_C)) = true := by decide +kernel
theorem st_m3 : (List.range 26).all (fun i => decide (Cond.arrayOf (st_v i) .byte ∈ flatC st_C)) = true := by decide +kernel
theorem st_m4 : (List.range 26).all (fun i => decide (Cond.eq (.length (st_v i)) (.int (Int32.ofNat (kn_len.getD i 0))) ∈ flatC st_C)) = true := by decide +kernel
theorem st_m5_0 : (List.range 17).all (fun j => decide (Cond.eq (.elem (st_v 0) (.int (Int32.ofNat j))) (.int ((kn_byt.getD 0 []).getD j 0)) ∈ flatC st_C)) = true := by decide +kernel
theorem st_m5_1 : (List.range 8).all (fun j => decide (Cond.eq (.elem (st_v 1) (.int (Int32.ofNat j))) (.int ((kn_byt.getD 1 []).getD j 0)) ∈ flatC st_C)) = true := by decide +kernel
theorem st_m5_2 : (List.range 2).all (fun j => decide (Cond.eq (.elem (st_v 2) (.int (Int32.ofNat j))) (.int ((kn_byt.getD 2 []).getD j 0)) ∈ flatC st_C)) = true := by decide +kernel
theorem st_m5_3 : (List.range 1).all (fun j => decide (Cond.eq (.elem (st_v 3) (.int (Int32.ofNat j))) (.int ((kn_byt.getD 3 []).getD j 0)) ∈ flatC st_C)) = true := by decide +kernel
theorem st_m5_4 : (List.range 2).all (fun j => decide (Cond.eq (.elem (st_v 4) (.int (Int32.ofNat j))) (.int ((kn_byt.getD 4 []).getD j 0)) ∈ flatC st_C)) = true := by decide +kernel
theorem st_m5_5 : (List.range 1).all (fun j => decide (Cond.eq (.elem (st_v 5) (.int (Int32.ofNat j))) (.int ((kn_byt.getD 5 []).getD j 0)) ∈ flatC st_C)) = true := by decide +kernel
theorem st_m5_6 : (List.range 2).all (fun j => decide (Cond.eq (.elem (st_v 6) (.int (Int32.ofNat j))) (.int ((kn_byt.getD 6 []).getD j 0)) ∈ flatC st_C)) = true := by decide +kernel
theorem st_m5_7 : (List.range 2).all (fun j => decide (Cond.eq (.elem (st_v 7) (.int (Int32.ofNat j))) (.int ((kn_byt.getD 7 []).getD j 0)) ∈ flatC st_C)) = true := by decide +kernel
theorem st_m5_8 : (List.range 3).all (fun j => decide (Cond.eq (.elem (st_v 8) (.int (Int32.ofNat j))) (.int ((kn_byt.getD 8 []).getD j 0)) ∈ flatC st_C)) = true := by decide +kernel
theorem st_m5_9 : (List.range 2).all (fun j => decide (Cond.eq (.elem (st_v 9) (.int (Int32.ofNat j))) (.int ((kn_byt.getD 9 []).getD j 0)) ∈ flatC st_C)) = true := by decide +kernel
theorem st_m5_10 : (List.range 1).all (fun j => decide (Cond.eq (.elem (st_v 10) (.int (Int32.ofNat j))) (.int ((kn_byt.getD 10 []).getD j 0)) ∈ flatC st_C)) = true := by decide +kernel
theorem st_m5_11 : (List.range 1).all (fun j => decide (Cond.eq (.elem (st_v 11) (.int (Int32.ofNat j))) (.int ((kn_byt.getD 11 []).getD j 0)) ∈ flatC st_C)) = true := by decide +kernel
theorem st_m5_12 : (List.range 2).all (fun j => decide (Cond.eq (.elem (st_v 12) (.int (Int32.ofNat j))) (.int ((kn_byt.getD 12 []).getD j 0)) ∈ flatC st_C)) = true := by decide +kernel
theorem st_m5_13 : (List.range 2).all (fun j => decide (Cond.eq (.elem (st_v 13) (.int (Int32.ofNat j))) (.int ((kn_byt.getD 13 []).getD j 0)) ∈ flatC st_C)) = true := by decide +kernel
theorem st_m5_14 : (List.range 3).all (fun j => decide (Cond.eq (.elem (st_v 14) (.int (Int32.ofNat j))) (.int ((kn_byt.getD 14 []).getD j 0)) ∈ flatC st_C)) = true := by decide +kernel
theorem st_m5_15 : (List.range 3).all (fun j => decide (Cond.eq (.elem (st_v 15) (.int (Int32.ofNat j))) (.int ((kn_byt.getD 15 []).getD j 0)) ∈ flatC st_C)) = true := by decide +kernel
theorem st_m5_16 : (List.range 1).all (fun j => decide (Cond.eq (.elem (st_v 16) (.int (Int32.ofNat j))) (.int ((kn_byt.getD 16 []).getD j 0)) ∈ flatC st_C)) = true := by decide +kernel
theorem st_m5_17 : (List.range 1).all (fun j => decide (Cond.eq (.elem (st_v 17) (.int (Int32.ofNat j))) (.int ((kn_byt.getD 17 []).getD j 0)) ∈ flatC st_C)) = true := by decide +kernel
theorem st_m5_18 : (List.range 1).all (fun j => decide (Cond.eq (.elem (st_v 18) (.int (Int32.ofNat j))) (.int ((kn_byt.getD 18 []).getD j 0)) ∈ flatC st_C)) = true := by decide +kernel
theorem st_m5_19 : (List.range 2).all (fun j => decide (Cond.eq (.elem (st_v 19) (.int (Int32.ofNat j))) (.int ((kn_byt.getD 19 []).getD j 0)) ∈ flatC st_C)) = true := by decide +kernel
theorem st_m5_20 : (List.range 3).all (fun j => decide (Cond.eq (.elem (st_v 20) (.int (Int32.ofNat j))) (.int ((kn_byt.getD 20 []).getD j 0)) ∈ flatC st_C)) = true := by decide +kernel
theorem st_m5_21 : (List.range 3).all (fun j => decide (Cond.eq (.elem (st_v 21) (.int (Int32.ofNat j))) (.int ((kn_byt.getD 21 []).getD j 0)) ∈ flatC st_C)) = true := by decide +kernel
theorem st_m5_22 : (List.range 2).all (fun j => decide (Cond.eq (.elem (st_v 22) (.int (Int32.ofNat j))) (.int ((kn_byt.getD 22 []).getD j 0)) ∈ flatC st_C)) = true := by decide +kernel
theorem st_m5_23 : (List.range 1).all (fun j => decide (Cond.eq (.elem (st_v 23) (.int (Int32.ofNat j))) (.int ((kn_byt.getD 23 []).getD j 0)) ∈ flatC st_C)) = true := by decide +kernel
theorem st_m5_24 : (List.range 2).all (fun j => decide (Cond.eq (.elem (st_v 24) (.int (Int32.ofNat j))) (.int ((kn_byt.getD 24 []).getD j 0)) ∈ flatC st_C)) = true := by decide +kernel
theorem st_m5_25 : (List.range 1).all (fun j => decide (Cond.eq (.elem (st_v 25) (.int (Int32.ofNat j))) (.int ((kn_byt.getD 25 []).getD j 0)) ∈ flatC st_C)) = true := by decide +kernel
theorem st_m5 (i : Nat) (hi : i < 26) : ∀ j, j < kn_len.getD i 0 → Cond.eq (.elem (st_v i) (.int (Int32.ofNat j))) (.int ((kn_byt.getD i []).getD j 0)) ∈ flatC st_C := by
  rcases (show i = 0 ∨ i = 1 ∨ i = 2 ∨ i = 3 ∨ i = 4 ∨ i = 5 ∨ i = 6 ∨ i = 7 ∨ i = 8 ∨ i = 9 ∨ i = 10 ∨ i = 11 ∨ i = 12 ∨ i = 13 ∨ i = 14 ∨ i = 15 ∨ i = 16 ∨ i = 17 ∨ i = 18 ∨ i = 19 ∨ i = 20 ∨ i = 21 ∨ i = 22 ∨ i = 23 ∨ i = 24 ∨ i = 25 by omega) with rfl | rfl | rfl | rfl | rfl | rfl | rfl | rfl | rfl | rfl | rfl | rfl | rfl | rfl | rfl | rfl | rfl | rfl | rfl | rfl | rfl | rfl | rfl | rfl | rfl | rfl
  · exact fun j hj => co_dec (P := fun j => Cond.eq (.elem (st_v 0) (.int (Int32.ofNat j))) (.int ((kn_byt.getD 0 []).getD j 0)) ∈ flatC st_C) st_m5_0 hj
  · exact fun j hj => co_dec (P := fun j => Cond.eq (.elem (st_v 1) (.int (Int32.ofNat j))) (.int ((kn_byt.getD 1 []).getD j 0)) ∈ flatC st_C) st_m5_1 hj
  · exact fun j hj => co_dec (P := fun j => Cond.eq (.elem (st_v 2) (.int (Int32.ofNat j))) (.int ((kn_byt.getD 2 []).getD j 0)) ∈ flatC st_C) st_m5_2 hj
  · exact fun j hj => co_dec (P := fun j => Cond.eq (.elem (st_v 3) (.int (Int32.ofNat j))) (.int ((kn_byt.getD 3 []).getD j 0)) ∈ flatC st_C) st_m5_3 hj
  · exact fun j hj => co_dec (P := fun j => Cond.eq (.elem (st_v 4) (.int (Int32.ofNat j))) (.int ((kn_byt.getD 4 []).getD j 0)) ∈ flatC st_C) st_m5_4 hj
  · exact fun j hj => co_dec (P := fun j => Cond.eq (.elem (st_v 5) (.int (Int32.ofNat j))) (.int ((kn_byt.getD 5 []).getD j 0)) ∈ flatC st_C) st_m5_5 hj
  · exact fun j hj => co_dec (P := fun j => Cond.eq (.elem (st_v 6) (.int (Int32.ofNat j))) (.int ((kn_byt.getD 6 []).getD j 0)) ∈ flatC st_C) st_m5_6 hj
  · exact fun j hj => co_dec (P := fun j => Cond.eq (.elem (st_v 7) (.int (Int32.ofNat j))) (.int ((kn_byt.getD 7 []).getD j 0)) ∈ flatC st_C) st_m5_7 hj
  · exact fun j hj => co_dec (P := fun j => Cond.eq (.elem (st_v 8) (.int (Int32.ofNat j))) (.int ((kn_byt.getD 8 []).getD j 0)) ∈ flatC st_C) st_m5_8 hj
  · exact fun j hj => co_dec (P := fun j => Cond.eq (.elem (st_v 9) (.int (Int32.ofNat j))) (.int ((kn_byt.getD 9 []).getD j 0)) ∈ flatC st_C) st_m5_9 hj
  · exact fun j hj => co_dec (P := fun j => Cond.eq (.elem (st_v 10) (.int (Int32.ofNat j))) (.int ((kn_byt.getD 10 []).getD j 0)) ∈ flatC st_C) st_m5_10 hj
  · exact fun j hj => co_dec (P := fun j => Cond.eq (.elem (st_v 11) (.int (Int32.ofNat j))) (.int ((kn_byt.getD 11 []).getD j 0)) ∈ flatC st_C) st_m5_11 hj
  · exact fun j hj => co_dec (P := fun j => Cond.eq (.elem (st_v 12) (.int (Int32.ofNat j))) (.int ((kn_byt.getD 12 []).getD j 0)) ∈ flatC st_C) st_m5_12 hj
  · exact fun j hj => co_dec (P := fun j => Cond.eq (.elem (st_v 13) (.int (Int32.ofNat j))) (.int ((kn_byt.getD 13 []).getD j 0)) ∈ flatC st_C) st_m5_13 hj
  · exact fun j hj => co_dec (P := fun j => Cond.eq (.elem (st_v 14) (.int (Int32.ofNat j))) (.int ((kn_byt.getD 14 []).getD j 0)) ∈ flatC st_C) st_m5_14 hj
  · exact fun j hj => co_dec (P := fun j => Cond.eq (.elem (st_v 15) (.int (Int32.ofNat j))) (.int ((kn_byt.getD 15 []).getD j 0)) ∈ flatC st_C) st_m5_15 hj
  · exact fun j hj => co_dec (P := fun j => Cond.eq (.elem (st_v 16) (.int (Int32.ofNat j))) (.int ((kn_byt.getD 16 []).getD j 0)) ∈ flatC st_C) st_m5_16 hj
  · exact fun j hj => co_dec (P := fun j => Cond.eq (.elem (st_v 17) (.int (Int32.ofNat j))) (.int ((kn_byt.getD 17 []).getD j 0)) ∈ flatC st_C) st_m5_17 hj
  · exact fun j hj => co_dec (P := fun j => Cond.eq (.elem (st_v 18) (.int (Int32.ofNat j))) (.int ((kn_byt.getD 18 []).getD j 0)) ∈ flatC st_C) st_m5_18 hj
  · exact fun j hj => co_dec (P := fun j => Cond.eq (.elem (st_v 19) (.int (Int32.ofNat j))) (.int ((kn_byt.getD 19 []).getD j 0)) ∈ flatC st_C) st_m5_19 hj
  · exact fun j hj => co_dec (P := fun j => Cond.eq (.elem (st_v 20) (.int (Int32.ofNat j))) (.int ((kn_byt.getD 20 []).getD j 0)) ∈ flatC st_C) st_m5_20 hj
  · exact fun j hj => co_dec (P := fun j => Cond.eq (.elem (st_v 21) (.int (Int32.ofNat j))) (.int ((kn_byt.getD 21 []).getD j 0)) ∈ flatC st_C) st_m5_21 hj
  · exact fun j hj => co_dec (P := fun j => Cond.eq (.elem (st_v 22) (.int (Int32.ofNat j))) (.int ((kn_byt.getD 22 []).getD j 0)) ∈ flatC st_C) st_m5_22 hj
  · exact fun j hj => co_dec (P := fun j => Cond.eq (.elem (st_v 23) (.int (Int32.ofNat j))) (.int ((kn_byt.getD 23 []).getD j 0)) ∈ flatC st_C) st_m5_23 hj
  · exact fun j hj => co_dec (P := fun j => Cond.eq (.elem (st_v 24) (.int (Int32.ofNat j))) (.int ((kn_byt.getD 24 []).getD j 0)) ∈ flatC st_C) st_m5_24 hj
  · exact fun j hj => co_dec (P := fun j => Cond.eq (.elem (st_v 25) (.int (Int32.ofNat j))) (.int ((kn_byt.getD 25 []).getD j 0)) ∈ flatC st_C) st_m5_25 hj
theorem st_e1 : (List.range 24).all (fun i => decide (Cond.exactly (st_en i) "UnifyBench$Known" ∈ flatC st_C)) = true := by decide +kernel
theorem st_e2 : (List.range 24).all (fun i => decide (Cond.eq (.elem st_all (.int (Int32.ofNat i))) (st_en i) ∈ flatC st_C)) = true := by decide +kernel
theorem st_e3 : (List.range 24).all (fun i => decide (Cond.eq (.field (st_en i) "UnifyBench$Known" "text" "Ljava/lang/String;") (.string (kn_tt.getD i ("", 0)).1 (kn_tt.getD i ("", 0)).2) ∈ flatC st_C)) = true := by decide +kernel
theorem st_e4 : (List.range 24).all (fun i => decide (Cond.eq (.field (st_en i) "UnifyBench$Known" "level" "I") (.int (kn_level.getD i 0)) ∈ flatC st_C)) = true := by decide +kernel
theorem st_e5 : (List.range 24).all (fun i => decide (Cond.eq (.field (st_en i) "UnifyBench$Known" "left" "I") (.int (kn_left.getD i 0)) ∈ flatC st_C)) = true := by decide +kernel
theorem st_e6 : (List.range 24).all (fun i => decide (Cond.eq (.field (st_en i) "UnifyBench$Known" "right" "I") (.int (kn_right.getD i 0)) ∈ flatC st_C)) = true := by decide +kernel
theorem st_e7 : (List.range 24).all (fun i => decide (Cond.eq (.field (st_en i) "UnifyBench$Known" "prefixLevel" "I") (.int (kn_prefixLevel.getD i 0)) ∈ flatC st_C)) = true := by decide +kernel
theorem st_l1 : (List.range kn_ldc.length).all (fun i => decide (Cond.stringRef (kn_ldc.getD i ("", 0, "", 0)).1 (kn_ldc.getD i ("", 0, "", 0)).2.1 (kn_ldc.getD i ("", 0, "", 0)).2.2.1 ∈ tables_1)) = true := by decide +kernel
theorem st_l2 : (List.range kn_ldc.length).all (fun i => decide ((kn_ldc.getD i ("", 0, "", 0)).2.2.2 < 26 ∧ (((kn_ldc.getD i ("", 0, "", 0)).1, (kn_ldc.getD i ("", 0, "", 0)).2.1) = kn_tm.getD (kn_ldc.getD i ("", 0, "", 0)).2.2.2 ("", 0) ∨ Cond.eq (st_tm (kn_ldc.getD i ("", 0, "", 0)).2.2.2) (.string (kn_ldc.getD i ("", 0, "", 0)).1 (kn_ldc.getD i ("", 0, "", 0)).2.1) ∈ flatC st_C))) = true := by decide +kernel
theorem st_l3 : (List.range 24).all (fun i => decide (∃ q ∈ kn_ldc, q.1 = (kn_tt.getD i ("", 0)).1 ∧ q.2.1 = (kn_tt.getD i ("", 0)).2 ∧ q.2.2.2 = kn_text.getD i 0)) = true := by decide +kernel
theorem st_n1 : kn_not.all (fun q => decide (Cond.not (.castable q.1 q.2) ∈ flatC st_C)) = true := by decide +kernel
theorem va_eqr {args : Array Value} {s : State} {t u : Term} {a : Nat} (h : (Cond.eq t u).before args s = true) (ht : t.eval args s none [] s = some (.ref a)) : u.eval args s none [] s = some (.ref a) := by
  cases hu : u.eval args s none [] s with
  | none => simp [Cond.before, Cond.holds, Cond.value, ht, hu] at h
  | some w =>
    simp only [Cond.before, Cond.holds, Cond.value, ht, hu] at h
    cases w <;> simp_all
theorem st_KLS {args : Array Value} {s : State} {C n d : String} {A : Nat → Prop} (hl : (Cond.laysStatic C n d).before args s = true) (h : (Cond.isRef (.static C n d)).before args s = true) (hA : ∀ a : Nat, a < s.heap.size → ¬ A a) : KLS C n d A s s.heap := by
  obtain ⟨c, k, i, f, a, cell, hc, hi, hst, ha, hcell, hs, hcls, hlt, hty⟩ := Cond.laysStatic_spec hl
  obtain ⟨v, hv, hr⟩ := Cond.isRef_spec h
  obtain ⟨-, a', cell', ha', hcell', -, hslot⟩ := Term.static_spec hi hv
  cases ha.symm.trans ha'
  cases hcell.symm.trans hcell'
  exact ⟨c, k, i, f, a, cell, v, hc, hi, hst, ha, hty, hcell, hs, hcls, hlt, hslot, hr, hA a (Array.getElem?_eq_some_iff.mp hcell).1⟩
set_option maxHeartbeats 4000000 in
theorem st_KN {args : Array Value} {s : State} {A : Nat → Prop} (hts : ∀ w ∈ lw_tbl, w.before args s = true) (hgv : st_C.before args s = true) (hA : ∀ a : Nat, a < s.heap.size → ¬ A a) : ∃ ka, KN ka A s s.heap ∧ KR ka s := by
  have hs := flat_of_before _ hgv
  have htb : ∀ w ∈ tables_1, w.before args s = true := fun w hw => hts w (List.mem_append_right _ hw)
  have hstr : ∀ i : Nat, ∃ q : Nat × Nat, i < 26 → (st_tm i).eval args s none [] s = some (.ref q.1) ∧ va_O "java/lang/String" q.1 A s s.heap ∧ va_OF "java/lang/String" "coder" "B" (.int 0) q.1 A s s.heap ∧ va_OF "java/lang/String" "value" "[B" (.ref q.2) q.1 A s s.heap ∧ va_T .byte q.2 (kn_len.getD i 0) (fun j => .int ((kn_byt.getD i []).getD j 0)) A s s.heap := by
    intro i
    by_cases hi : i < 26
    · have x1 := hs _ (co_dec (P := fun i => Cond.exactly (st_tm i) "java/lang/String" ∈ flatC st_C) st_m1 hi)
      have x2 := hs _ (co_dec (P := fun i => Cond.eq (.field (st_tm i) "java/lang/String" "coder" "B") (.int 0) ∈ flatC st_C) st_m2 hi)
      have x3 := hs _ (co_dec (P := fun i => Cond.arrayOf (st_v i) .byte ∈ flatC st_C) st_m3 hi)
      have x4 := hs _ (co_dec (P := fun i => Cond.eq (.length (st_v i)) (.int (Int32.ofNat (kn_len.getD i 0))) ∈ flatC st_C) st_m4 hi)
      have x5 := st_m5 i hi
      obtain ⟨a, cc, cA, kA, q1, q2, q3, q4, q5, q6, -⟩ := Cond.exactly_spec (args := args) (first := s) (o := none) (s := s) (idx := []) (t := st_tm i) (cls := "java/lang/String") x1
      have hlen : kn_len.getD i 0 < 2 ^ 31 := co_dec (P := fun i => kn_len.getD i 0 < 2 ^ 31) (N := 26) (by decide +kernel) hi
      obtain ⟨t, ht, hT⟩ := va_Tof (f := fun j => .int ((kn_byt.getD i []).getD j 0)) (A := A) hlen x3 (va_eqt x4) (fun j hj => va_eqt (hs _ (x5 j hj))) hA
      exact ⟨(a, t), fun _ => ⟨q1, ⟨cA, q3, q5, by rw [q6]; exact q2, hA a (Array.getElem?_eq_some_iff.mp q3).1⟩, vk_OFof q1 (va_eqt x2) hA, vk_OFof q1 ht hA, hT⟩⟩
    · exact ⟨(0, 0), fun h => absurd h hi⟩
  obtain ⟨ad, had⟩ := Classical.axiomOfChoice hstr
  have hen : ∀ i : Nat, ∃ a : Nat, i < 24 → (st_en i).eval args s none [] s = some (.ref a) := by
    intro i
    by_cases hi : i < 24
    · obtain ⟨a, cc, cA, kA, q1, -⟩ := Cond.exactly_spec (args := args) (first := s) (o := none) (s := s) (idx := []) (t := st_en i) (cls := "UnifyBench$Known") (hs _ (co_dec (P := fun i => Cond.exactly (st_en i) "UnifyBench$Known" ∈ flatC st_C) st_e1 hi))
      exact ⟨a, fun _ => q1⟩
    · exact ⟨0, fun h => absurd h hi⟩
  obtain ⟨ae, hae⟩ := Classical.axiomOfChoice hen
  have y1 : (Cond.arrayOf st_all (.object "UnifyBench$Known")).before args s = true := hs _ (by decide +kernel)
  have y2 : (Cond.eq (.length st_all) (.int 24)).before args s = true := hs _ (by decide +kernel)
  obtain ⟨t0, ht0, hT0⟩ := va_Tof (N := 24) (f := fun j => .ref (ae j)) (A := A) (by decide) y1 (va_eqt y2) (fun j hj => va_eqv (hs _ (co_dec (P := fun i => Cond.eq (.elem st_all (.int (Int32.ofNat i))) (st_en i) ∈ flatC st_C) st_e2 hj)) (hae j hj)) hA
  obtain ⟨ka, k0, k1, k2, k3⟩ : ∃ ka : Nat → Nat, ka 0 = t0 ∧ (∀ i, i < 24 → ka (100 + i) = ae i) ∧ (∀ i, i < 26 → ka (200 + i) = (ad i).1) ∧ (∀ i, ka (300 + i) = (ad i).2) := by
    refine ⟨fun k => if k < 100 then t0 else if k < 200 then ae (k - 100) else if k < 300 then (ad (k - 200)).1 else (ad (k - 300)).2, by simp, fun i hi => ?_, fun i hi => ?_, fun i => ?_⟩
    · (try dsimp only); rw [if_neg (by omega), if_pos (by omega), show 100 + i - 100 = i by omega]
    · (try dsimp only); rw [if_neg (by omega), if_neg (by omega), if_pos (by omega), show 200 + i - 200 = i by omega]
    · (try dsimp only); rw [if_neg (by omega), if_neg (by omega), if_neg (by omega), show 300 + i - 300 = i by omega]
  have hev : ∀ q ∈ kn_ldc, (Term.string q.1 q.2.1).eval args s none [] s = some (.ref (ka (200 + q.2.2.2))) := fun q hq => by
    obtain ⟨i, hi⟩ := List.getElem?_of_mem hq
    have hlt := (List.getElem?_eq_some_iff.mp hi).1
    have hgd : kn_ldc.getD i ("", 0, "", 0) = q := by simp [List.getD, hi]
    have x := co_dec (P := fun i => (kn_ldc.getD i ("", 0, "", 0)).2.2.2 < 26 ∧ (((kn_ldc.getD i ("", 0, "", 0)).1, (kn_ldc.getD i ("", 0, "", 0)).2.1) = kn_tm.getD (kn_ldc.getD i ("", 0, "", 0)).2.2.2 ("", 0) ∨ Cond.eq (st_tm (kn_ldc.getD i ("", 0, "", 0)).2.2.2) (.string (kn_ldc.getD i ("", 0, "", 0)).1 (kn_ldc.getD i ("", 0, "", 0)).2.1) ∈ flatC st_C)) st_l2 hlt
    rw [hgd] at x
    obtain ⟨x1, x2⟩ := x
    rw [k2 _ x1]
    have h1 := (had q.2.2.2 x1).1
    rcases x2 with x2 | x2
    · have e1 : st_tm q.2.2.2 = Term.string q.1 q.2.1 := by unfold st_tm; rw [← x2]
      rw [← e1]; exact h1
    · exact va_eqr (hs _ x2) h1
  refine ⟨ka, ⟨?_, ?_, fun i hi => ?_, fun i hi => ?_, ?_, ?_, ?_, ?_⟩, fun q hq => ?_, fun q hq => ?_⟩
  · rw [k0]; exact va_Zof (htb _ (by decide +kernel)) (htb _ (by decide +kernel)) ht0 hA
  · rw [k0]
    obtain ⟨cell, g1, g2, g3, g4, g5, g6, g7⟩ := hT0
    exact ⟨cell, g1, g2, g3, g4, g5, fun j hj => by show cell.slots[j]? = some (Value.ref (ka (100 + j))); rw [k1 j hj]; exact g6 j hj, g7⟩
  · rw [k1 i hi]
    have ht := hae i hi
    obtain ⟨q, hq, q1, q2, q3⟩ := co_dec (P := fun i => ∃ q ∈ kn_ldc, q.1 = (kn_tt.getD i ("", 0)).1 ∧ q.2.1 = (kn_tt.getD i ("", 0)).2 ∧ q.2.2.2 = kn_text.getD i 0) st_l3 hi
    have hstr := hev q hq
    rw [q1, q2, q3] at hstr
    exact ⟨vk_OFof ht (va_eqv (hs _ (co_dec (P := fun i => Cond.eq (.field (st_en i) "UnifyBench$Known" "text" "Ljava/lang/String;") (.string (kn_tt.getD i ("", 0)).1 (kn_tt.getD i ("", 0)).2) ∈ flatC st_C) st_e3 hi)) hstr) hA,
      vk_OFof ht (va_eqt (hs _ (co_dec (P := fun i => Cond.eq (.field (st_en i) "UnifyBench$Known" "level" "I") (.int (kn_level.getD i 0)) ∈ flatC st_C) st_e4 hi))) hA,
      vk_OFof ht (va_eqt (hs _ (co_dec (P := fun i => Cond.eq (.field (st_en i) "UnifyBench$Known" "left" "I") (.int (kn_left.getD i 0)) ∈ flatC st_C) st_e5 hi))) hA,
      vk_OFof ht (va_eqt (hs _ (co_dec (P := fun i => Cond.eq (.field (st_en i) "UnifyBench$Known" "right" "I") (.int (kn_right.getD i 0)) ∈ flatC st_C) st_e6 hi))) hA,
      vk_OFof ht (va_eqt (hs _ (co_dec (P := fun i => Cond.eq (.field (st_en i) "UnifyBench$Known" "prefixLevel" "I") (.int (kn_prefixLevel.getD i 0)) ∈ flatC st_C) st_e7 hi))) hA⟩
  · rw [k2 i hi, k3 i]; exact (had i hi).2
  · exact va_Zof (htb _ (by decide +kernel)) (htb _ (by decide +kernel)) (va_eqi (hs _ (by decide +kernel))) hA
  · exact va_Zqof (htb _ (by decide +kernel)) (htb _ (by decide +kernel)) (hs _ (by decide +kernel)) hA
  · exact st_KLS (htb _ (by decide +kernel)) (hs _ (by decide +kernel)) hA
  · exact st_KLS (htb _ (by decide +kernel)) (hs _ (by decide +kernel)) hA
  · obtain ⟨i, hi⟩ := List.getElem?_of_mem hq
    have hlt := (List.getElem?_eq_some_iff.mp hi).1
    have hgd : kn_ldc.getD i ("", 0, "", 0) = q := by simp [List.getD, hi]
    have x := co_dec (P := fun i => Cond.stringRef (kn_ldc.getD i ("", 0, "", 0)).1 (kn_ldc.getD i ("", 0, "", 0)).2.1 (kn_ldc.getD i ("", 0, "", 0)).2.2.1 ∈ tables_1) st_l1 hlt
    rw [hgd] at x
    exact vk_R.of (htb _ x) (hev q hq)
  · exact va_Nc.of (hs _ (of_decide_eq_true (List.all_eq_true.mp st_n1 q hq)))
theorem st_gl {args : Array Value} {s : State} (hts : ∀ w ∈ lw_tbl, w.before args s = true) : gl s := fun w hw => by
  have h1 := hts w (List.mem_append_right _ (List.mem_filter.mp hw).1)
  have h2 := (List.mem_filter.mp hw).2
  cases w <;> first | exact h1 | exact absurd h2 Bool.false_ne_true
theorem st_K {args : Array Value} {s : State} (hts : ∀ w ∈ lw_tbl, w.before args s = true) : ∃ (g : va_G) (cs : Nat → ClassId), va_K g classes (gtys cs) s := by
  have hg : ∀ w ∈ GW, w.before args s = true := fun w hw => hts w (List.mem_filter.mp hw).1
  have htb : ∀ w ∈ tables_1, w.before args s = true := fun w hw => hts w (List.mem_append_right _ hw)
  obtain ⟨c0, i0, k0⟩ := u_known (ws := GW) (C := R_Bytes) (T := F_Bytes) (N := 2) (n := 2) hg ul_Bytes (htb (.instantiable "UnifyBench$Bytes" 2) (by decide +kernel))
  obtain ⟨c1, i1, k1⟩ := u_known (ws := GW) (C := R_Ints) (T := F_Ints) (N := 2) (n := 2) hg ul_Ints (htb (.instantiable "UnifyBench$Ints" 2) (by decide +kernel))
  obtain ⟨c2, i2, k2⟩ := u_known (ws := GW) (C := R_Names) (T := F_Names) (N := 6) (n := 6) hg ul_Names (htb (.instantiable "UnifyBench$Names" 6) (by decide +kernel))
  obtain ⟨c3, i3, k3⟩ := u_known (ws := GW) (C := R_Open) (T := F_Open) (N := 6) (n := 6) hg ul_Open (htb (.instantiable "UnifyBench$OpenTerm" 6) (by decide +kernel))
  obtain ⟨c4, i4, k4⟩ := u_known (ws := GW) (C := R_Printer) (T := F_Printer) (N := 7) (n := 7) hg ul_Printer (htb (.instantiable "UnifyBench$Printer" 7) (by decide +kernel))
  obtain ⟨c5, i5, k5⟩ := u_known (ws := GW) (C := R_Reader) (T := F_Reader) (N := 14) (n := 14) hg ul_Reader (htb (.instantiable "UnifyBench$Reader" 14) (by decide +kernel))
  obtain ⟨c6, i6, k6⟩ := u_known (ws := GW) (C := R_Signs) (T := F_Signs) (N := 8) (n := 8) hg ul_Signs (htb (.instantiable "UnifyBench$Signs" 8) (by decide +kernel))
  obtain ⟨c7, i7, k7⟩ := u_known (ws := GW) (C := R_Terms) (T := F_Terms) (N := 13) (n := 13) hg ul_Terms (htb (.instantiable "UnifyBench$Terms" 13) (by decide +kernel))
  obtain ⟨c8, i8, k8⟩ := u_known (ws := GW) (C := R_Unifier) (T := F_Unifier) (N := 7) (n := 7) hg ul_Unifier (htb (.instantiable "UnifyBench$Unifier" 7) (by decide +kernel))
  obtain ⟨c9, i9, k9⟩ := u_known (ws := GW) (C := R_UB) (T := F_UB) (N := 10) (n := 10) hg ul_UB (htb (.instantiable "UnifyBench" 10) (by decide +kernel))
  obtain ⟨c10, i10, k10⟩ := u_known (ws := GW) (C := R_MoNames) (T := F_MoNames) (N := 6) (n := 6) hg ul_MoNames (htb (.instantiable "UnifyBenchModel$Names" 6) (by decide +kernel))
  obtain ⟨c11, i11, k11⟩ := u_known (ws := GW) (C := R_MoTerms) (T := F_MoTerms) (N := 8) (n := 8) hg ul_MoTerms (htb (.instantiable "UnifyBenchModel$Terms" 8) (by decide +kernel))
  obtain ⟨c12, i12, k12⟩ := u_known (ws := GW) (C := R_MoReader) (T := F_MoReader) (N := 22) (n := 22) hg ul_MoReader (htb (.instantiable "UnifyBenchModel$Reader" 22) (by decide +kernel))
  obtain ⟨c13, i13, k13⟩ := u_known (ws := GW) (C := R_MoPaper) (T := F_MoPaper) (N := 7) (n := 7) hg ul_MoPaper (htb (.instantiable "UnifyBenchModel$Paper" 7) (by decide +kernel))
  obtain ⟨c14, i14, k14⟩ := u_known (ws := GW) (C := R_Mo) (T := F_Mo) (N := 23) (n := 23) hg ul_Mo (htb (.instantiable "UnifyBenchModel" 23) (by decide +kernel))
  obtain ⟨c15, i15, k15⟩ := u_known (ws := GW) (C := R_ISE) (T := F_ISE) (N := 0) (n := 6) hg (fun w hw => by simp [u_ws] at hw) (htb (.instantiable "java/lang/IllegalStateException" 6) (by decide +kernel))
  obtain ⟨a0, ka0, m0, f0, g0, h0⟩ := Cond.arrayClass_spec (htb (.arrayClass .int) (by decide +kernel))
  obtain ⟨a1, ka1, m1, f1, g1, h1⟩ := Cond.arrayClass_spec (htb (.arrayClass .byte) (by decide +kernel))
  obtain ⟨a2, ka2, m2, f2, g2, h2⟩ := Cond.arrayClass_spec (htb (.arrayClass .long) (by decide +kernel))
  obtain ⟨m3, a3, ka3, e3, -, g3, h3, f3⟩ := Cond.arrayOver_spec (htb (.arrayOver (.object "UnifyBench$OpenTerm")) (by decide +kernel))
  obtain ⟨m4, a4, ka4, e4, -, g4, h4, f4⟩ := Cond.arrayOver_spec (htb (.arrayOver (.object "java/lang/String")) (by decide +kernel))
  obtain ⟨m5, a5, ka5, e5, -, g5, h5, f5⟩ := ao_spec (htb (.arrayOver (.array .int)) (by decide +kernel))
  refine ⟨(fun i => if i = 0 then c0 else if i = 1 then c1 else if i = 2 then c2 else if i = 3 then c3 else if i = 4 then c4 else if i = 5 then c5 else if i = 6 then c6 else if i = 7 then c7 else if i = 8 then c8 else if i = 9 then c9 else if i = 10 then c10 else if i = 11 then c11 else if i = 12 then c12 else if i = 13 then c13 else if i = 14 then c14 else c15, fun i => if i = 0 then i0 else if i = 1 then i1 else if i = 2 then i2 else if i = 3 then i3 else if i = 4 then i4 else if i = 5 then i5 else if i = 6 then i6 else if i = 7 then i7 else if i = 8 then i8 else if i = 9 then i9 else if i = 10 then i10 else if i = 11 then i11 else if i = 12 then i12 else if i = 13 then i13 else if i = 14 then i14 else i15), fun i => if i = 0 then a0 else if i = 1 then a1 else if i = 2 then a2 else if i = 3 then a3 else if i = 4 then a4 else a5, fun c q hq => ?_, fun k q hq => ?_⟩
  · have hc : c < 16 := (List.getElem?_eq_some_iff.mp hq).1
    rcases (show c = 0 ∨ c = 1 ∨ c = 2 ∨ c = 3 ∨ c = 4 ∨ c = 5 ∨ c = 6 ∨ c = 7 ∨ c = 8 ∨ c = 9 ∨ c = 10 ∨ c = 11 ∨ c = 12 ∨ c = 13 ∨ c = 14 ∨ c = 15 by omega) with rfl | rfl | rfl | rfl | rfl | rfl | rfl | rfl | rfl | rfl | rfl | rfl | rfl | rfl | rfl | rfl
    · cases hq; exact k0
    · cases hq; exact k1
    · cases hq; exact k2
    · cases hq; exact k3
    · cases hq; exact k4
    · cases hq; exact k5
    · cases hq; exact k6
    · cases hq; exact k7
    · cases hq; exact k8
    · cases hq; exact k9
    · cases hq; exact k10
    · cases hq; exact k11
    · cases hq; exact k12
    · cases hq; exact k13
    · cases hq; exact k14
    · cases hq; exact k15
  · have hc : k < 6 := (List.getElem?_eq_some_iff.mp hq).1
    rcases (show k = 0 ∨ k = 1 ∨ k = 2 ∨ k = 3 ∨ k = 4 ∨ k = 5 by omega) with rfl | rfl | rfl | rfl | rfl | rfl
    · cases hq; exact ⟨fun _ _ => ⟨(fun _ h => by cases h), ka0, g0, m0, h0⟩, f0⟩
    · cases hq; exact ⟨fun _ _ => ⟨(fun _ h => by cases h), ka1, g1, m1, h1⟩, f1⟩
    · cases hq; exact ⟨fun _ _ => ⟨(fun _ h => by cases h), ka2, g2, m2, h2⟩, f2⟩
    · cases hq; exact ⟨fun _ _ => ⟨(fun _ h => by cases h), ka3, g3, m3, h3⟩, ka3, m3, g3, h3, e3, f3⟩
    · cases hq; exact ⟨fun _ _ => ⟨(fun _ h => by cases h), ka4, g4, m4, h4⟩, ka4, m4, g4, h4, e4, f4⟩
    · cases hq; exact ⟨fun _ _ => ⟨(fun _ h => by cases h), ka5, g5, m5, h5⟩, f5⟩
