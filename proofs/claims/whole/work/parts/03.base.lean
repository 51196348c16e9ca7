def GW : List Cond := lw_tbl.filter goodWord
theorem gw_tb {w : Cond} (h : w ∈ tables_1) (hg : goodWord w = true) : w ∈ GW := List.mem_filter.mpr ⟨List.mem_append_right _ h, hg⟩
theorem gw_pr {w : Cond} (i : Nat) (h : (k2_sels lw_privs)[i]? = some w) (hg : goodWord w = true) : w ∈ GW := List.mem_filter.mpr ⟨List.mem_append_left _ (List.mem_of_getElem? h), hg⟩
theorem gt_1 {w : Cond} (i : Nat) (h : tables_1_1[i]? = some w) : w ∈ tables_1 := List.mem_append_left _ (List.mem_of_getElem? h)
theorem gw_1 {w : Cond} (i : Nat) (h : tables_1_1[i]? = some w) (hg : goodWord w = true) : w ∈ GW := gw_tb (gt_1 i h) hg
theorem gt_2 {w : Cond} (i : Nat) (h : tables_1_2[i]? = some w) : w ∈ tables_1 := List.mem_append_right _ (List.mem_append_left _ (List.mem_of_getElem? h))
theorem gw_2 {w : Cond} (i : Nat) (h : tables_1_2[i]? = some w) (hg : goodWord w = true) : w ∈ GW := gw_tb (gt_2 i h) hg
theorem gt_3 {w : Cond} (i : Nat) (h : tables_1_3[i]? = some w) : w ∈ tables_1 := List.mem_append_right _ (List.mem_append_right _ (List.mem_append_left _ (List.mem_of_getElem? h)))
theorem gw_3 {w : Cond} (i : Nat) (h : tables_1_3[i]? = some w) (hg : goodWord w = true) : w ∈ GW := gw_tb (gt_3 i h) hg
theorem gt_4 {w : Cond} (i : Nat) (h : tables_1_4[i]? = some w) : w ∈ tables_1 := List.mem_append_right _ (List.mem_append_right _ (List.mem_append_right _ (List.mem_append_left _ (List.mem_of_getElem? h))))
theorem gw_4 {w : Cond} (i : Nat) (h : tables_1_4[i]? = some w) (hg : goodWord w = true) : w ∈ GW := gw_tb (gt_4 i h) hg
theorem gt_5 {w : Cond} (i : Nat) (h : tables_1_5[i]? = some w) : w ∈ tables_1 := List.mem_append_right _ (List.mem_append_right _ (List.mem_append_right _ (List.mem_append_right _ (List.mem_append_left _ (List.mem_of_getElem? h)))))
theorem gw_5 {w : Cond} (i : Nat) (h : tables_1_5[i]? = some w) (hg : goodWord w = true) : w ∈ GW := gw_tb (gt_5 i h) hg
theorem gt_6 {w : Cond} (i : Nat) (h : tables_1_6[i]? = some w) : w ∈ tables_1 := List.mem_append_right _ (List.mem_append_right _ (List.mem_append_right _ (List.mem_append_right _ (List.mem_append_right _ (List.mem_append_left _ (List.mem_of_getElem? h))))))
theorem gw_6 {w : Cond} (i : Nat) (h : tables_1_6[i]? = some w) (hg : goodWord w = true) : w ∈ GW := gw_tb (gt_6 i h) hg
theorem gt_7 {w : Cond} (i : Nat) (h : tables_1_7[i]? = some w) : w ∈ tables_1 := List.mem_append_right _ (List.mem_append_right _ (List.mem_append_right _ (List.mem_append_right _ (List.mem_append_right _ (List.mem_append_right _ (List.mem_append_left _ (List.mem_of_getElem? h)))))))
theorem gw_7 {w : Cond} (i : Nat) (h : tables_1_7[i]? = some w) (hg : goodWord w = true) : w ∈ GW := gw_tb (gt_7 i h) hg
theorem gt_8 {w : Cond} (i : Nat) (h : tables_1_8[i]? = some w) : w ∈ tables_1 := List.mem_append_right _ (List.mem_append_right _ (List.mem_append_right _ (List.mem_append_right _ (List.mem_append_right _ (List.mem_append_right _ (List.mem_append_right _ (List.mem_of_getElem? h)))))))
theorem gw_8 {w : Cond} (i : Nat) (h : tables_1_8[i]? = some w) (hg : goodWord w = true) : w ∈ GW := gw_tb (gt_8 i h) hg
theorem gw_good {w : Cond} (h : w ∈ GW) : goodWord w = true := (List.mem_filter.mp h).2
theorem gw_c {c : Cond} (h : c ∈ GW) : GoodIn GW (c :: GW) := fun w hw => by
  rcases List.mem_cons.mp hw with e | e
  · subst e; exact ⟨h, good_of_word (gw_good h)⟩
  · exact ⟨e, good_of_word (gw_good e)⟩
theorem gw_V {own C : String} {idx : Nat} {y : MethodName} {b : ByteArray} {n : Nat} {r : Option FieldType} (h1 : (.methodLink own idx y : Cond) ∈ GW) (h2 : (.instanceMethod y : Cond) ∈ GW) (h3 : (.selects C y y : Cond) ∈ GW) (h4 : (.initialized C : Cond) ∈ GW) (h5 : (.code y b n r : Cond) ∈ GW) : GoodIn GW (wsV own idx C y (.code y b n r :: GW)) := fun w hw => by
  have : w ∈ GW := by
    simp only [wsV, List.cons_append, List.nil_append, List.mem_cons] at hw
    rcases hw with e | e | e | e | e | e <;> first | (rw [e]; assumption) | exact e
  exact ⟨this, good_of_word (gw_good this)⟩
theorem gw_S {own : String} {idx : Nat} {y : MethodName} {b : ByteArray} {n : Nat} {r : Option FieldType} (h1 : (.methodLink own idx y : Cond) ∈ GW) (h2 : (.static y : Cond) ∈ GW) (h4 : (.initialized y.cls : Cond) ∈ GW) (h5 : (.code y b n r : Cond) ∈ GW) : GoodIn GW (va_wsS own idx y (.code y b n r :: GW)) := fun w hw => by
  have : w ∈ GW := by
    simp only [va_wsS, List.cons_append, List.nil_append, List.mem_cons] at hw
    rcases hw with e | e | e | e | e <;> first | (rw [e]; assumption) | exact e
  exact ⟨this, good_of_word (gw_good this)⟩
def isNest : Cond → Bool
  | .fieldLinkNest .. => true
  | .methodLinkNest .. => true
  | .declares _ => true
  | .castable .. => true
  | .arrayOver (.object _) => true
  | .arrayOver (.array _) => true
  | _ => false
def NWL : List Cond := tables_1.filter isNest
theorem nwl_in {w : Cond} (h : w ∈ tables_1) (hg : isNest w = true) : w ∈ NWL := List.mem_filter.mpr ⟨h, hg⟩
/-- an array of arrays: its class, and the class of its rows -/
theorem ao_spec {t : FieldType} {args : Array Value} {s : State} (h : (Cond.arrayOver (.array t)).before args s = true) :
    ∃ comp c k, s.vm.findClass (FieldType.array t).toString = some comp ∧ (s.vm.classes.findIdx? fun (x : Class) => match x.kind with | .array component _ => component == comp | _ => false) = some c ∧ s.vm.classes[c]? = some k ∧ k.kind = .array comp (.array t) ∧ s.vm.findClass ("[" ++ (FieldType.array t).toString) = some c := by
  have h : (Cond.arrayOver (.array t)).holds args s none s [] = true := h
  simp only [Cond.holds, Cond.value, beq_iff_eq] at h
  cases hc : s.vm.findClass (FieldType.array t).toString with
  | none => simp [hc] at h
  | some comp =>
    simp only [hc, Option.bind_some, Option.bind_eq_some_iff, Option.map_eq_some_iff] at h
    obtain ⟨c, hi, k, hk, hb⟩ := h
    obtain ⟨hlt, hp, -⟩ := Array.findIdx?_eq_some_iff_getElem.mp hi
    have hkk : s.vm.classes[c] = k := (Array.getElem?_eq_some_iff.mp hk).2
    rw [hkk] at hp
    cases hkind : k.kind with
    | array component ty =>
      rw [hkind] at hb hp
      simp at hb hp
      exact ⟨comp, c, k, rfl, hi, hk, by rw [hkind, hp, hb.1], hb.2⟩
    | _ => rw [hkind] at hb; simp at hb
theorem ao_moved {t : FieldType} {u U : State} (hvm : u.vm.Alike U.vm) (h : va_Nw (.arrayOver (.array t)) u) : va_Nw (.arrayOver (.array t)) U := by
  obtain ⟨comp, c, k, h1, h2, h3, h4, h5⟩ := ao_spec h
  obtain ⟨k', hk', he⟩ := hvm.2.2 _ _ h3
  have hi : (U.vm.classes.findIdx? fun (x : Class) => match x.kind with | .array component _ => component == comp | _ => false) = some c := by
    exact (hvm.findIdx?_eqK _ (fun _ => rfl)).trans h2
  have hkind : k'.kind = .array comp (.array t) := by rw [he]; exact h4
  have f1 : U.vm.findClass (FieldType.array t).toString = some comp := by rw [hvm.findClass]; exact h1
  have f2 : U.vm.findClass ("[" ++ (FieldType.array t).toString) = some c := by rw [hvm.findClass]; exact h5
  unfold va_Nw Cond.before Cond.holds
  simp only [Cond.value]
  rw [f1, Option.bind_some]
  refine (congrArg (fun o : Option Nat => (o.bind (fun c => (U.vm.classes[c]?).map fun (k : Class) => match k.kind with | .array _ ty => decide (ty = FieldType.array t) && decide (U.vm.findClass ("[" ++ (FieldType.array t).toString) = some c) | _ => false) == some true)) hi).trans ?_
  simp [hk', hkind, f2]
/-- the links to nest mates' members hold -/
def gl (U : State) : Prop := ∀ w ∈ NWL, va_Nw w U
theorem gl_warm {s U : State} (hW : s.WarmedH U.vm) (h : gl s) : gl U := fun w hw => by
  have h1 := h w hw
  have h2 := (List.mem_filter.mp hw).2
  cases w <;> first | exact va_Nw.warmF hW h1 | exact va_Nw.warmM hW h1 | exact va_Nw.warmD hW h1 | exact va_Nw.warmC hW h1 | (exact absurd h2 Bool.false_ne_true) | (rename_i t; cases t <;> first | exact va_AO.moved hW.alike h1 | exact ao_moved hW.alike h1 | (exact absurd h2 Bool.false_ne_true))
theorem gl_same {s U : State} (hv : s.vm = U.vm) (h : gl s) : gl U := fun w hw => by
  have h1 := h w hw
  have h2 := (List.mem_filter.mp hw).2
  cases w <;> first | exact va_Nw.same rfl hv h1 | (exact absurd h2 Bool.false_ne_true) | (rename_i t; cases t <;> first | exact va_AO.moved (hv ▸ Vm.Alike.refl s.vm) h1 | exact ao_moved (hv ▸ Vm.Alike.refl s.vm) h1 | (exact absurd h2 Bool.false_ne_true))
/-- the arrays' classes -/
def gtys (cs : Nat → ClassId) : List (ClassId × FieldType) := [(cs 0, .int), (cs 1, .byte), (cs 2, .long), (cs 3, .object "UnifyBench$OpenTerm"), (cs 4, .object "java/lang/String"), (cs 5, .array .int)]
def kn_level : List Int32 := [0, 0, 1000, 500, 0, 1200, 1100, 1050, 700, 700, 700, 700, 700, 700, 700, 700, 700, 700, 700, 500, 400, 400, 400, 400]
def kn_left : List Int32 := [0, 0, 999, 500, 0, 1199, 1099, 1049, 699, 699, 699, 699, 699, 699, 699, 699, 699, 699, 699, 500, 400, 400, 400, 400]
def kn_right : List Int32 := [0, 0, 1000, 499, 0, 1199, 1100, 1050, 699, 699, 699, 699, 699, 699, 699, 699, 699, 699, 699, 499, 399, 399, 399, 399]
def kn_prefixLevel : List Int32 := [0, 0, 0, 200, 900, 0, 0, 0, 0, 0, 0, 0, 0, 0, 0, 0, 0, 0, 0, 0, 0, 0, 0, 0]
def kn_text : List Nat := [24, 23, 25, 17, 22, 2, 3, 4, 5, 6, 7, 8, 9, 10, 11, 12, 13, 14, 15, 16, 18, 19, 20, 21]
def kn_len : List Nat := [17, 8, 2, 1, 2, 1, 2, 2, 3, 2, 1, 1, 2, 2, 3, 3, 1, 1, 1, 2, 3, 3, 2, 1, 2, 1]
def kn_byt : List (List Int32) := [[43, 45, 42, 47, 92, 94, 60, 62, 61, 126, 58, 46, 63, 64, 35, 38, 36], [40, 41, 91, 93, 123, 125, 44, 124], [58, 45], [59], [45, 62], [61], [92, 61], [61, 61], [92, 61, 61], [105, 115], [60], [62], [61, 60], [62, 61], [61, 58, 61], [61, 92, 61], [43], [45], [42], [47, 47], [109, 111, 100], [114, 101, 109], [92, 43], [46], [91, 93], [44]]
def kn_ldc : List (String × Nat × String × Nat) := [("UnifyBench$Letters", 19, "+-*/\\^<>=~:.?@#&$", 0), ("UnifyBench$Letters", 27, "()[]{},|", 1), ("UnifyBenchModel$Reader", 11, ":-", 2), ("UnifyBenchModel$Reader", 13, ";", 3), ("UnifyBenchModel$Reader", 15, "->", 4), ("UnifyBenchModel$Reader", 17, "=", 5), ("UnifyBenchModel$Reader", 19, "\\=", 6), ("UnifyBenchModel$Reader", 21, "==", 7), ("UnifyBenchModel$Reader", 23, "\\==", 8), ("UnifyBenchModel$Reader", 25, "is", 9), ("UnifyBenchModel$Reader", 27, "<", 10), ("UnifyBenchModel$Reader", 29, ">", 11), ("UnifyBenchModel$Reader", 31, "=<", 12), ("UnifyBenchModel$Reader", 33, ">=", 13), ("UnifyBenchModel$Reader", 35, "=:=", 14), ("UnifyBenchModel$Reader", 37, "=\\=", 15), ("UnifyBenchModel$Reader", 39, "+", 16), ("UnifyBenchModel$Reader", 41, "-", 17), ("UnifyBenchModel$Reader", 43, "*", 18), ("UnifyBenchModel$Reader", 45, "//", 19), ("UnifyBenchModel$Reader", 47, "mod", 20), ("UnifyBenchModel$Reader", 49, "rem", 21), ("UnifyBenchModel$Reader", 130, "+-*/\\^<>=~:.?@#&$", 0), ("UnifyBenchModel$Reader", 196, "\\+", 22), ("UnifyBenchModel$Paper", 59, ".", 23), ("UnifyBenchModel$Paper", 53, "[]", 24), ("UnifyBench$Known", 113, "[]", 24), ("UnifyBench$Known", 119, ".", 23), ("UnifyBench$Known", 122, ",", 25), ("UnifyBench$Known", 125, "-", 17), ("UnifyBench$Known", 128, "\\+", 22), ("UnifyBench$Known", 131, ":-", 2), ("UnifyBench$Known", 134, ";", 3), ("UnifyBench$Known", 137, "->", 4), ("UnifyBench$Known", 140, "=", 5), ("UnifyBench$Known", 143, "\\=", 6), ("UnifyBench$Known", 146, "==", 7), ("UnifyBench$Known", 149, "\\==", 8), ("UnifyBench$Known", 152, "is", 9), ("UnifyBench$Known", 155, "<", 10), ("UnifyBench$Known", 158, ">", 11), ("UnifyBench$Known", 161, "=<", 12), ("UnifyBench$Known", 164, ">=", 13), ("UnifyBench$Known", 167, "=:=", 14), ("UnifyBench$Known", 170, "=\\=", 15), ("UnifyBench$Known", 173, "+", 16), ("UnifyBench$Known", 176, "*", 18), ("UnifyBench$Known", 179, "//", 19), ("UnifyBench$Known", 182, "mod", 20), ("UnifyBench$Known", 185, "rem", 21)]
abbrev kn_n : Nat := 26
def kn_not : List (String × String) := [("java/lang/IllegalArgumentException", "java/lang/UnsupportedOperationException"), ("java/lang/IllegalArgumentException", "java/lang/IndexOutOfBoundsException"), ("java/lang/IllegalArgumentException", "java/util/NoSuchElementException"), ("java/lang/IllegalArgumentException", "java/lang/IllegalStateException"), ("java/lang/UnsupportedOperationException", "java/lang/IllegalArgumentException"), ("java/lang/UnsupportedOperationException", "java/lang/IndexOutOfBoundsException"), ("java/lang/UnsupportedOperationException", "java/util/NoSuchElementException"), ("java/lang/UnsupportedOperationException", "java/lang/IllegalStateException"), ("java/lang/IndexOutOfBoundsException", "java/lang/IllegalArgumentException"), ("java/lang/IndexOutOfBoundsException", "java/lang/UnsupportedOperationException"), ("java/lang/IndexOutOfBoundsException", "java/util/NoSuchElementException"), ("java/lang/IndexOutOfBoundsException", "java/lang/IllegalStateException"), ("java/util/NoSuchElementException", "java/lang/IllegalArgumentException"), ("java/util/NoSuchElementException", "java/lang/UnsupportedOperationException"), ("java/util/NoSuchElementException", "java/lang/IndexOutOfBoundsException"), ("java/util/NoSuchElementException", "java/lang/IllegalStateException"), ("java/lang/IllegalStateException", "java/lang/IllegalArgumentException"), ("java/lang/IllegalStateException", "java/lang/UnsupportedOperationException"), ("java/lang/IllegalStateException", "java/lang/IndexOutOfBoundsException"), ("java/lang/IllegalStateException", "java/util/NoSuchElementException")]
/-- a static that holds a reference or null, with all that the tables say of it -/
def KLS (C n d : String) (A : Nat → Prop) (U : State) (H : Heap) : Prop := ∃ (c : ClassId) (k : Class) (i : Nat) (f : Field) (a : Nat) (cell : Cell) (v : Value), U.vm.findClass C = some c ∧ U.fieldFound? C n d = some (c, k, i, f) ∧ f.isStatic = true ∧ k.statics = some a ∧ k.staticTypes[f.slot]? = some f.type ∧ H[a]? = some cell ∧ cell.vm.isStatics = true ∧ cell.cls = c ∧ f.slot < cell.slots.size ∧ cell.slots[f.slot]? = some v ∧ v.isRef = true ∧ ¬ A a
theorem KLS.moved {C n d : String} {A : Nat → Prop} {u U : State} {H : Heap} (hvm : u.vm.Alike U.vm) (h : KLS C n d A u H) : KLS C n d A U H := by
  obtain ⟨c, k, i, f, a, cell, v, h0, h1, h2, h3, h4, h5⟩ := h
  obtain ⟨k', hi', he⟩ := State.fieldFound?_setVm hvm h1
  exact ⟨c, k', i, f, a, cell, v, by rw [hvm.findClass]; exact h0, hi', h2, by rw [he]; exact h3, by rw [he]; exact h4, h5⟩
theorem KLS.kept {C n d : String} {A : Nat → Prop} {U : State} {H H1 : Heap} (h : KLS C n d A U H) (hq : ∀ a : Nat, a < H.size → ¬ A a → H1[a]? = H[a]?) : KLS C n d A U H1 := by
  obtain ⟨c, k, i, f, a, cell, v, h0, h1, h2, h3, h4, h5, h6⟩ := h
  exact ⟨c, k, i, f, a, cell, v, h0, h1, h2, h3, h4, by rw [hq a (Array.getElem?_eq_some_iff.mp h5).1 h6.2.2.2.2.2]; exact h5, h6⟩
theorem KLS.narrow {C n d : String} {A B : Nat → Prop} {U : State} {H : Heap} (h : KLS C n d A U H) (hAB : ∀ q, B q → A q) : KLS C n d B U H := by
  obtain ⟨c, k, i, f, a, cell, v, h0, h1, h2, h3, h4, h5, h6, h7, h8, h9, h10, h11⟩ := h
  exact ⟨c, k, i, f, a, cell, v, h0, h1, h2, h3, h4, h5, h6, h7, h8, h9, h10, fun q => h11 (hAB _ q)⟩
/-- the constants that nobody writes: the enum's array, objects and fields; the texts; statics -/
def KN (ka : Nat → Nat) (A : Nat → Prop) (U : State) (H : Heap) : Prop :=
  va_Z R_Known "ALL" "[LUnifyBench$Known;" (.ref (ka 0)) A U H ∧
  va_T (.object R_Known) (ka 0) 24 (fun j => .ref (ka (100 + j))) A U H ∧
  (∀ i, i < 24 → va_OF R_Known "text" "Ljava/lang/String;" (.ref (ka (200 + kn_text.getD i 0))) (ka (100 + i)) A U H ∧ va_OF R_Known "level" "I" (.int (kn_level.getD i 0)) (ka (100 + i)) A U H ∧ va_OF R_Known "left" "I" (.int (kn_left.getD i 0)) (ka (100 + i)) A U H ∧ va_OF R_Known "right" "I" (.int (kn_right.getD i 0)) (ka (100 + i)) A U H ∧ va_OF R_Known "prefixLevel" "I" (.int (kn_prefixLevel.getD i 0)) (ka (100 + i)) A U H) ∧
  (∀ i : Nat, i < kn_n → va_O "java/lang/String" (ka (200 + i)) A U H ∧ va_OF "java/lang/String" "coder" "B" (.int 0) (ka (200 + i)) A U H ∧ va_OF "java/lang/String" "value" "[B" (.ref (ka (300 + i))) (ka (200 + i)) A U H ∧ va_T .byte (ka (300 + i)) (kn_len.getD i 0) (fun j => .int ((kn_byt.getD i []).getD j 0)) A U H) ∧
  va_Z "java/lang/String" "COMPACT_STRINGS" "Z" (.int 1) A U H ∧
  va_Zq "jdk/internal/util/Preconditions" "SIOOBE_FORMATTER" "Ljava/util/function/BiFunction;" A U H ∧
  KLS "java/lang/Throwable" "UNASSIGNED_STACK" "[Ljava/lang/StackTraceElement;" A U H ∧
  KLS "java/lang/Throwable" "SUPPRESSED_SENTINEL" "Ljava/util/List;" A U H
theorem nc_moved {C T : String} {u U : State} (hvm : u.vm.Alike U.vm) (h : va_Nc C T u) : va_Nc C T U := by
  obtain ⟨c, t, h1, h2, h3⟩ := h
  exact ⟨c, t, by rw [hvm.findClass]; exact h1, by rw [hvm.findClass]; exact h2, by rw [hvm.assignable]; exact h3⟩
/-- the texts that the code loads -/
def KR (ka : Nat → Nat) (U : State) : Prop := (∀ q ∈ kn_ldc, vk_R q.1 q.2.1 q.2.2.1 (ka (200 + q.2.2.2)) U) ∧ ∀ q ∈ kn_not, va_Nc q.1 q.2 U
theorem KN.pass {ka : Nat → Nat} {A B : Nat → Prop} {s U : State} {H : Heap} {locs : List Loc} (h : KN ka A s s.heap) (hS : va_S A s.heap H locs) (hB : ∀ q, B q → A q) (hvm : s.vm.Alike U.vm) (hU : U.heap = H) : KN ka B U U.heap := by
  rw [hU]
  obtain ⟨h1, h2, h3, h4, h5, h6, h7, h8⟩ := h
  refine ⟨((h1.kept hS.2.1).narrow hB).moved hvm, ((h2.kept hS.2.1).narrow hB).moved hvm, fun i hi => ?_, fun i hi => ?_, ((h5.kept hS.2.1).narrow hB).moved hvm, ((h6.kept hS.2.1).narrow hB).moved hvm, ((h7.kept hS.2.1).narrow hB).moved hvm, ((h8.kept hS.2.1).narrow hB).moved hvm⟩
  · obtain ⟨g1, g2, g3, g4, g5⟩ := h3 i hi
    exact ⟨((g1.kept hS.2.1).narrow hB).moved hvm, ((g2.kept hS.2.1).narrow hB).moved hvm, ((g3.kept hS.2.1).narrow hB).moved hvm, ((g4.kept hS.2.1).narrow hB).moved hvm, ((g5.kept hS.2.1).narrow hB).moved hvm⟩
  · obtain ⟨g1, g2, g3, g4⟩ := h4 i hi
    exact ⟨((g1.kept hS.2.1).narrow hB).moved hvm, ((g2.kept hS.2.1).narrow hB).moved hvm, ((g3.kept hS.2.1).narrow hB).moved hvm, ((g4.kept hS.2.1).narrow hB).moved hvm⟩
theorem KN.same {ka : Nat → Nat} {A : Nat → Prop} {u U : State} (hv : u.vm = U.vm) (hh : u.heap = U.heap) (h : KN ka A u u.heap) : KN ka A U U.heap :=
  h.pass (locs := []) (H := u.heap) va_S.rf (fun _ q => q) (hv ▸ Vm.Alike.refl u.vm) hh.symm
theorem KR.warm {ka : Nat → Nat} {s U : State} (hW : s.WarmedH U.vm) (h : KR ka s) : KR ka U := ⟨fun q hq => vk_R.warm hW (h.1 q hq), fun q hq => nc_moved hW.alike (h.2 q hq)⟩
theorem KR.same {ka : Nat → Nat} {u U : State} (hv : U.vm = u.vm) (h : KR ka u) : KR ka U := ⟨fun q hq => vk_R.same hv (h.1 q hq), fun q hq => nc_moved (hv ▸ Vm.Alike.refl u.vm) (h.2 q hq)⟩

/-- the start of a contract: the world, the tables -/
def gP (g : va_G) (cs : Nat → ClassId) (ka : Nat → Nat) (ws : va_W) (sz : Nat) (U : State) : Prop := U.heap.size = sz ∧ va_P g classes ws U.heap ∧ va_K g classes (gtys cs) U ∧ va_D (fun _ => True) ws ∧ gl U ∧ KN ka (va_A ws sz) U U.heap ∧ KR ka U
theorem gP_blind {g : va_G} {cs : Nat → ClassId} {ka : Nat → Nat} {ws : va_W} {sz : Nat} {av : List Value} : FrameBlind (va_Pc av (gP g cs ka ws sz)) := fun a U gg mk q => by
  obtain ⟨q0, q1, qP, qK, qD, qL, qN, qR⟩ := q
  exact ⟨q0, q1, qP, va_K.moved (u := U) (U := U.calling gg mk a) (Vm.Alike.refl U.vm) qK, qD, gl_same (s := U) (U := U.calling gg mk a) rfl qL, KN.same (u := U) (U := U.calling gg mk a) rfl rfl qN, KR.same (u := U) (U := U.calling gg mk a) rfl qR⟩
theorem gP_pre {g : va_G} {cs : Nat → ClassId} {ka : Nat → Nat} {wc : va_W} {av : List Value} {A : Nat → Prop} {s : State} {H : Heap} {locs : List Loc} (hPc : va_P g classes wc H) (hDc : va_D A wc) (hK : va_K g classes (gtys cs) s) (hgl : gl s) (hkn : KN ka A s s.heap) (hkr : KR ka s) (hS : va_S A s.heap H locs) (hF : ∀ q, va_A wc H.size q → A q) : ∀ U : State, U.heap = H → s.WarmedH U.vm → va_Pc av (gP g cs ka wc H.size) av.toArray U := fun U hU hW =>
  ⟨rfl, by rw [hU], by rw [hU]; exact hPc, va_K.moved hW.alike hK, hDc.weaken (fun _ _ _ _ => trivial), gl_warm hW hgl, hkn.pass hS hF hW.alike hU, KR.warm hW hkr⟩
/-- a check -/
def ck {α : Type} (b : Bool) (x : Option α) : Option α := if b = true then x else none
theorem ck_some {α : Type} {b : Bool} {x : Option α} {r : α} (h : ck b x = some r) : b = true ∧ x = some r := by
  unfold ck at h
  by_cases hb : b = true
  · rw [if_pos hb] at h; exact ⟨hb, h⟩
  · rw [if_neg hb] at h; cases h
/-- a place within an array -/
def ixb (i : Int32) (n : Nat) : Bool := decide (¬ (i < 0 ∨ n ≤ i.toNatClampNeg))
theorem ixb_in {i : Int32} {n : Nat} (h : ixb i n = true) : vp_in i n := of_decide_eq_true (p := ¬ (i < 0 ∨ n ≤ i.toNatClampNeg)) h
/-- a length that can be made, of w bytes a place -/
def nab (n : Int32) (w : Nat) : Bool := decide (¬ n < 0 ∧ n.toNatClampNeg * w ≤ 536870912)
theorem nab_in {n : Int32} {w : Nat} (h : nab n w = true) : ¬ n < 0 ∧ n.toNatClampNeg * w ≤ 536870912 := of_decide_eq_true h
/-- an answer that is a boolean -/
def zab (v : Int32) : Bool := decide (v = 0 ∨ v = 1)
theorem zab_in {v : Int32} (h : zab v = true) : narrow .boolean (.int v) = .int v ∧ fits .boolean (.int v) = true := by
  rcases of_decide_eq_true h with e | e <;> subst e <;> exact ⟨rfl, rfl⟩
/-- what is made besides -/
def al {ρ : Type} (k n : Nat) (x : Option (ρ × Nat × Nat)) : Option (ρ × Nat × Nat) := x.map (fun z => (z.1, z.2.1 + k, z.2.2 + n))
theorem al_some {ρ : Type} {k n : Nat} {x : Option (ρ × Nat × Nat)} {r : ρ} {mc ms : Nat} (h : al k n x = some (r, mc, ms)) : ∃ m1 s1, x = some (r, m1, s1) ∧ mc = m1 + k ∧ ms = s1 + n := by
  cases x with
  | none => cases h
  | some z =>
    obtain ⟨a, b, c⟩ := z
    cases h
    exact ⟨b, c, rfl, rfl, rfl⟩
theorem bd_some {α β : Type} {x : Option α} {f : α → Option β} {r : β} (h : x.bind f = some r) : ∃ a, x = some a ∧ f a = some r := by
  cases x with
  | none => cases h
  | some a => exact ⟨a, rfl, h⟩
section GN
variable {p : Program} {l : Launch} {e : Env} {R : Room} {s : State} {m : MethodId} {args : Array Value} {below : List Frame} {meth : Method} {c : Code} {H : Heap} {locs : List Loc} {cells slots : Nat} {Q : State → Prop}
variable {cc : ByteArray} {pc : Nat} {ls : Array Slot} {rest : List Value} {g : va_G} {cs : Nat → ClassId} {A : Nat → Prop} {ws : va_W} {H0 : Heap}
theorem g_idI {cl : List vw_C} {cA : ClassId} (h : va_K g cl (gtys cs ++ [(cA, .int)]) s) : cA = cs 0 := Option.some.inj ((va_nm_int (h.2 6 _ rfl).2).symm.trans (va_nm_int (h.2 0 _ rfl).2))
theorem g_idB {cl : List vw_C} {cA : ClassId} (h : va_K g cl (gtys cs ++ [(cA, .byte)]) s) : cA = cs 1 := Option.some.inj ((va_nm_byte (h.2 6 _ rfl).2).symm.trans (va_nm_byte (h.2 1 _ rfl).2))
theorem g_idJ {cl : List vw_C} {cA : ClassId} (h : va_K g cl (gtys cs ++ [(cA, .long)]) s) : cA = cs 2 := Option.some.inj ((va_nm_long (h.2 6 _ rfl).2).symm.trans (va_nm_long (h.2 2 _ rfl).2))
theorem g_newI (hexec : p.tables.exec = Jvm.exec) (hb : c.code = cc) (harr : (Cond.arrayClass .int).before args s = true) (hK : va_K g classes (gtys cs) s) (hP : va_P g classes ws H) (hD : va_D A ws) (hS : va_S A H0 H locs) (hA : ∀ q, H0.size ≤ q → A q)
    {n : Int32} (N' : Nat) (hn : ¬ n < 0) (hN : n.toNatClampNeg = N') (hbytes : N' * 4 ≤ 536870912) (hcells : cells + 1 ≤ R.cells) (hslots : slots + N' ≤ R.slots) (hdg : decode cc pc = .ok (.newarray .int, 2))
    (kk : ∀ (q : Nat) (H1 : Heap), va_P g classes (ws ++ [(q, .inl (cs 0, N', .inl (fun _ => 0)))]) H1 → va_D A (ws ++ [(q, .inl (cs 0, N', .inl (fun _ => 0)))]) → va_S A H0 H1 locs →
      W p l e R s m args below meth c H1 locs (cells + 1) (slots + N') Q (F0 m (pc + 2) ls (.ref q :: rest))) : W p l e R s m args below meth c H locs cells slots Q (F0 m pc ls (.int n :: rest)) := by
  refine va_newa (atype := .int) (ty := .int) (a0 := (N', .inl (fun _ => 0))) hexec hb harr rfl hK hP hD hS hA (fun cA => rfl) hn hN hbytes hcells hslots hdg (fun q cA H1 hK1 hP1 hD1 hS1 => ?_)
  cases g_idI hK1
  exact kk q H1 hP1 hD1 hS1
theorem g_newB (hexec : p.tables.exec = Jvm.exec) (hb : c.code = cc) (harr : (Cond.arrayClass .byte).before args s = true) (hK : va_K g classes (gtys cs) s) (hP : va_P g classes ws H) (hD : va_D A ws) (hS : va_S A H0 H locs) (hA : ∀ q, H0.size ≤ q → A q)
    {n : Int32} (N' : Nat) (hn : ¬ n < 0) (hN : n.toNatClampNeg = N') (hbytes : N' * 1 ≤ 536870912) (hcells : cells + 1 ≤ R.cells) (hslots : slots + N' ≤ R.slots) (hdg : decode cc pc = .ok (.newarray .byte, 2))
    (kk : ∀ (q : Nat) (H1 : Heap), va_P g classes (ws ++ [(q, .inl (cs 1, N', .inl (fun _ => 0)))]) H1 → va_D A (ws ++ [(q, .inl (cs 1, N', .inl (fun _ => 0)))]) → va_S A H0 H1 locs →
      W p l e R s m args below meth c H1 locs (cells + 1) (slots + N') Q (F0 m (pc + 2) ls (.ref q :: rest))) : W p l e R s m args below meth c H locs cells slots Q (F0 m pc ls (.int n :: rest)) := by
  refine va_newa (atype := .byte) (ty := .byte) (a0 := (N', .inl (fun _ => 0))) hexec hb harr rfl hK hP hD hS hA (fun cA => rfl) hn hN hbytes hcells hslots hdg (fun q cA H1 hK1 hP1 hD1 hS1 => ?_)
  cases g_idB hK1
  exact kk q H1 hP1 hD1 hS1
theorem g_newJ (hexec : p.tables.exec = Jvm.exec) (hb : c.code = cc) (harr : (Cond.arrayClass .long).before args s = true) (hK : va_K g classes (gtys cs) s) (hP : va_P g classes ws H) (hD : va_D A ws) (hS : va_S A H0 H locs) (hA : ∀ q, H0.size ≤ q → A q)
    {n : Int32} (N' : Nat) (hn : ¬ n < 0) (hN : n.toNatClampNeg = N') (hbytes : N' * 8 ≤ 536870912) (hcells : cells + 1 ≤ R.cells) (hslots : slots + N' ≤ R.slots) (hdg : decode cc pc = .ok (.newarray .long, 2))
    (kk : ∀ (q : Nat) (H1 : Heap), va_P g classes (ws ++ [(q, .inl (cs 2, N', .inr (.inl (fun _ => 0))))]) H1 → va_D A (ws ++ [(q, .inl (cs 2, N', .inr (.inl (fun _ => 0))))]) → va_S A H0 H1 locs →
      W p l e R s m args below meth c H1 locs (cells + 1) (slots + N') Q (F0 m (pc + 2) ls (.ref q :: rest))) : W p l e R s m args below meth c H locs cells slots Q (F0 m pc ls (.int n :: rest)) := by
  refine va_newa (atype := .long) (ty := .long) (a0 := (N', .inr (.inl (fun _ => 0)))) hexec hb harr rfl hK hP hD hS hA (fun cA => rfl) hn hN hbytes hcells hslots hdg (fun q cA H1 hK1 hP1 hD1 hS1 => ?_)
  cases g_idJ hK1
  exact kk q H1 hP1 hD1 hS1
end GN
/-- what an arraycopy asks -/
def cpb (sp dp n : Int32) (n0 n1 : Nat) : Bool := decide (¬ sp < 0 ∧ ¬ dp < 0 ∧ ¬ n < 0 ∧ sp.toNatClampNeg + n.toNatClampNeg ≤ n0 ∧ dp.toNatClampNeg + n.toNatClampNeg ≤ n1)
theorem cpb_in {sp dp n : Int32} {n0 n1 : Nat} (h : cpb sp dp n n0 n1 = true) : ¬ sp < 0 ∧ ¬ dp < 0 ∧ ¬ n < 0 ∧ sp.toNatClampNeg + n.toNatClampNeg ≤ n0 ∧ dp.toNatClampNeg + n.toNatClampNeg ≤ n1 := of_decide_eq_true h
def bfit (f : Nat → Int32) (sp n : Nat) : Bool := (List.range n).all (fun i => fits .byte (.int (f (sp + i))))
theorem bfit_in {f : Nat → Int32} {sp n : Nat} (h : bfit f sp n = true) : ∀ i, i < n → fits .byte (.int (f (sp + i))) = true := fun i hi => List.all_eq_true.mp h i (List.mem_range.mpr hi)
section GQ
variable {p : Program} {l : Launch} {e : Env} {R : Room} {s : State} {m : MethodId} {args : Array Value} {below : List Frame} {meth : Method} {c : Code} {H : Heap} {locs : List Loc} {cells slots : Nat} {Q : State → Prop} {g : JFrame}
theorem gq (k : ∀ Q' : State → Prop, Q' = Q → W p l e R s m args below meth c H locs cells slots Q' g) : W p l e R s m args below meth c H locs cells slots Q g := k Q rfl
theorem W.eqH {H' : Heap} (h : H' = H) (k : W p l e R s m args below meth c H' locs cells slots Q g) : W p l e R s m args below meth c H locs cells slots Q g := h ▸ k
end GQ

/-- a world: what stands there, and that it stands apart -/
def PD (g : va_G) (A : Nat → Prop) (H : Heap) (ws : va_W) : Prop := va_P g classes ws H ∧ va_D A ws
theorem pl_mapsome {ws : va_W} {is : List Nat} (h : is.all (fun i => decide (i < ws.length)) = true) : is.map (fun i => ws[i]?) = (is.filterMap (fun i => ws[i]?)).map some := by
  induction is with
  | nil => rfl
  | cons i t ih =>
    rw [List.all_cons, Bool.and_eq_true] at h
    have hi : i < ws.length := of_decide_eq_true h.1
    rw [List.map_cons, List.filterMap_cons_some (List.getElem?_eq_getElem hi), List.map_cons, ih h.2, List.getElem?_eq_getElem hi]
theorem sub2 {g : va_G} {A : Nat → Prop} {ws ws' : va_W} {H : Heap} (hP : va_P g classes ws H) (hD : va_D A ws) (is : List Nat) (h1 : is.filterMap (fun i => ws[i]?) = ws') (hn : va_nd is = true) (h2 : is.map (fun i => ws[i]?) = ws'.map some) : va_P g classes ws' H ∧ va_D A ws' := ⟨hP.sub is h1, hD.sub is hn h2⟩
theorem prt2 {g : va_G} {A : Nat → Prop} {X cx pl : va_W} {H : Heap} (hP : va_P g classes (X ++ pl) H) (hD : va_D A (X ++ pl)) (is : List Nat) (hn : va_nd is = true) (h : is.map (fun i => X[i]?) = cx.map some) : va_P g classes (cx ++ pl) H ∧ va_D A (cx ++ pl) := ⟨hP.part is h, hD.part is hn h⟩
theorem cut0 {g : va_G} {A : Nat → Prop} {ws wc : va_W} {H0 H : Heap} {locs : List Loc} (hP : va_P g classes ws H) (hD : va_D A ws) (hS : va_S A H0 H locs) (hA : ∀ q, H0.size ≤ q → A q) (is : List Nat) (hn : va_nd is = true) (h : is.map (fun i => ws[i]?) = wc.map some) : va_P g classes wc H ∧ va_D A wc ∧ ∀ q, va_A wc H.size q → A q :=
  ⟨fun k q hk => by obtain ⟨i, -, h2⟩ := va_in_of is h hk; exact hP i q h2, hD.sub is hn h, va_free hD hS hA is h⟩
theorem cutP {g : va_G} {A : Nat → Prop} {X cx pl : va_W} {H0 H : Heap} {locs : List Loc} (hP : va_P g classes (X ++ pl) H) (hD : va_D A (X ++ pl)) (hS : va_S A H0 H locs) (hA : ∀ q, H0.size ≤ q → A q) (is : List Nat) (hn : va_nd is = true) (h : is.map (fun i => X[i]?) = cx.map some) : va_P g classes (cx ++ pl) H ∧ va_D A (cx ++ pl) ∧ ∀ q, va_A (cx ++ pl) H.size q → A q :=
  ⟨hP.part is h, hD.part is hn h, va_freeP hD hS hA is h⟩
theorem jn_A {g : va_G} {A0 : Nat → Prop} {ws wc w1 : va_W} {H H1 : Heap} (hP : va_P g classes ws H) (hD : va_D A0 ws) (isC isR : List Nat) (hC : isC.map (fun i => ws[i]?) = wc.map some) (hl : isR.all (fun i => decide (i < ws.length)) = true) (hn : va_nd isR = true) (hdis : ∀ i ∈ isR, i ∉ isC) (hk : ∀ q : Nat, q < H.size → ¬ va_A wc H.size q → H1[q]? = H[q]?) (hF : ∀ q, va_A wc H.size q → A0 q) (hP1 : va_P g classes w1 H1) (hD1 : va_D (va_A wc H.size) w1) : va_P g classes (isR.filterMap (fun i => ws[i]?) ++ w1) H1 ∧ va_D A0 (isR.filterMap (fun i => ws[i]?) ++ w1) := va_join hP hD isC isR hC (pl_mapsome hl) hn hdis hk hF hP1 hD1
theorem jn_Q {g : va_G} {A0 : Nat → Prop} {X cx w1 pl : va_W} {H H1 : Heap} (hP : va_P g classes (X ++ pl) H) (hD : va_D A0 (X ++ pl)) (isC isR : List Nat) (hC : isC.map (fun i => X[i]?) = cx.map some) (hl : isR.all (fun i => decide (i < X.length)) = true) (hn : va_nd isR = true) (hdis : ∀ i ∈ isR, i ∉ isC) (hk : ∀ q : Nat, q < H.size → ¬ va_A cx H.size q → H1[q]? = H[q]?) (hF : ∀ q, va_A cx H.size q → A0 q) (hP1 : va_P g classes w1 H1) (hD1 : va_D (va_A cx H.size) w1) : va_P g classes ((isR.filterMap (fun i => X[i]?) ++ w1) ++ pl) H1 ∧ va_D A0 ((isR.filterMap (fun i => X[i]?) ++ w1) ++ pl) := va_joinQ hP hD isC isR hC (pl_mapsome hl) hn hdis hk hF hP1 hD1
theorem jn_P {g : va_G} {A0 : Nat → Prop} {X cx rx pl pl1 : va_W} {H H1 : Heap} (hP : va_P g classes (X ++ pl) H) (hD : va_D A0 (X ++ pl)) (isC isR : List Nat) (hC : isC.map (fun i => X[i]?) = cx.map some) (hl : isR.all (fun i => decide (i < X.length)) = true) (hn : va_nd isR = true) (hdis : ∀ i ∈ isR, i ∉ isC) (hk : ∀ q : Nat, q < H.size → ¬ va_A (cx ++ pl) H.size q → H1[q]? = H[q]?) (hF : ∀ q, va_A (cx ++ pl) H.size q → A0 q) (hP1 : va_P g classes (rx ++ pl1) H1) (hD1 : va_D (va_A (cx ++ pl) H.size) (rx ++ pl1)) : va_P g classes ((isR.filterMap (fun i => X[i]?) ++ rx) ++ pl1) H1 ∧ va_D A0 ((isR.filterMap (fun i => X[i]?) ++ rx) ++ pl1) := va_joinP hP hD isC isR hC (pl_mapsome hl) hn hdis hk hF hP1 hD1
theorem jn_0 {g : va_G} {A0 : Nat → Prop} {X cx rx pl1 : va_W} {H H1 : Heap} (hP : va_P g classes X H) (hD : va_D A0 X) (isC isR : List Nat) (hC : isC.map (fun i => X[i]?) = cx.map some) (hl : isR.all (fun i => decide (i < X.length)) = true) (hn : va_nd isR = true) (hdis : ∀ i ∈ isR, i ∉ isC) (hk : ∀ q : Nat, q < H.size → ¬ va_A cx H.size q → H1[q]? = H[q]?) (hF : ∀ q, va_A cx H.size q → A0 q) (hP1 : va_P g classes (rx ++ pl1) H1) (hD1 : va_D (va_A cx H.size) (rx ++ pl1)) : va_P g classes ((isR.filterMap (fun i => X[i]?) ++ rx) ++ pl1) H1 ∧ va_D A0 ((isR.filterMap (fun i => X[i]?) ++ rx) ++ pl1) := by
  rw [List.append_assoc]
  exact jn_A hP hD isC isR hC hl hn hdis hk hF hP1 hD1
/-- the world of a label, out of the one that is there -/
theorem sub3 {g : va_G} {A : Nat → Prop} {ws ws' : va_W} {H : Heap} (hP : va_P g classes ws H) (hD : va_D A ws) (is : List Nat) (hn : va_nd is = true) (h : is.map (fun i => ws[i]?) = ws'.map some := by rfl) : PD g A H ws' := ⟨fun k q hk => by obtain ⟨i, -, h2⟩ := va_in_of is h hk; exact hP i q h2, hD.sub is hn h⟩
theorem prt3 {g : va_G} {A : Nat → Prop} {X cx pl : va_W} {H : Heap} (hP : va_P g classes (X ++ pl) H) (hD : va_D A (X ++ pl)) (is : List Nat) (hn : va_nd is = true) (h : is.map (fun i => X[i]?) = cx.map some := by rfl) : PD g A H (cx ++ pl) := ⟨hP.part is h, hD.part is hn h⟩

theorem ixb_lt {i : Int32} {n : Nat} (h : ixb i n = true) : i.toNatClampNeg < n := by
  have := ixb_in h
  unfold vp_in at this
  omega
theorem kn_text_lt (j : Nat) : kn_text.getD j 0 < kn_n := by
  by_cases h : j < 24
  · exact co_dec (P := fun j => kn_text.getD j 0 < kn_n) (N := 24) (by decide +kernel) h
  · have : kn_text.getD j 0 = 0 := by
      have h2 : kn_text.length ≤ j := by have : kn_text.length = 24 := rfl; omega
      simp [List.getD, List.getElem?_eq_none h2]
    rw [this]; decide
section GK
variable {p : Program} {l : Launch} {e : Env} {R : Room} {s : State} {m : MethodId} {args : Array Value} {below : List Frame} {meth : Method} {c : Code} {H : Heap} {locs : List Loc} {cells slots : Nat} {Q : State → Prop}
variable {cc : ByteArray} {pc : Nat} {ls : Array Slot} {rest : List Value} {A : Nat → Prop}
theorem vk_getfN (hexec : p.tables.exec = Jvm.exec) (hb : c.code = cc) {o n d own ref host : String} {index q : Nat} {v : Value} (hE : va_OF o n d v q A s s.heap) (hS : va_S A s.heap H locs) (hown : s.vm.findClass own = some m.cls) (hlink : (Cond.fieldLinkNest own index ref n d host).before args s = true) (hsame : ∀ x, s.fieldFound? o n d = some x → s.fieldFound? ref n d = some x) (hdg : decode cc pc = .ok (.getfield index, 3))
    (kk : W p l e R s m args below meth c H locs cells slots Q (F0 m (pc + 3) ls (v :: rest))) : W p l e R s m args below meth c H locs cells slots Q (F0 m pc ls (.ref q :: rest)) := by
  obtain ⟨cf, k, fi, f, cell, h1, h2, h3, h4, h5, h6⟩ := hE.kept hS.2.1
  exact va_Wgetf hexec hb hown hlink (hsame _ h1) h2 h3 h4 (v := v) h5 rfl rfl hdg kk
theorem kn_recv {ka : Nat → Nat} {i : Nat} (h : KN ka A s s.heap) (hi : i < kn_n) (hS : va_S A s.heap H locs) : ∃ cell : Cell, H[ka (200 + i)]? = some cell ∧ cell.vm.isStatics = false ∧ s.vm.findClass "java/lang/String" = some cell.cls := by
  obtain ⟨cell, h1, h2, h3, -⟩ := ((h.2.2.2.1 i hi).1).kept hS.2.1
  exact ⟨cell, h1, h2, h3⟩
end GK

theorem wd_1 : ((.lays "UnifyBench$Bytes" "UnifyBench$Bytes" "items" "[B") : Cond) ∈ GW := gw_1 51 (by decide +kernel) rfl
theorem wd_2 : ((.lays "UnifyBench$Bytes" "UnifyBench$Bytes" "size" "I") : Cond) ∈ GW := gw_1 53 (by decide +kernel) rfl
theorem wd_3 : ((.lays "UnifyBench$Ints" "UnifyBench$Ints" "items" "[I") : Cond) ∈ GW := gw_1 71 (by decide +kernel) rfl
theorem wd_4 : ((.lays "UnifyBench$Ints" "UnifyBench$Ints" "size" "I") : Cond) ∈ GW := gw_1 73 (by decide +kernel) rfl
theorem wd_5 : ((.lays "UnifyBench$Names" "UnifyBench$Names" "texts" "[B") : Cond) ∈ GW := gw_1 204 (by decide +kernel) rfl
theorem wd_6 : ((.lays "UnifyBench$Names" "UnifyBench$Names" "textsSize" "I") : Cond) ∈ GW := gw_1 206 (by decide +kernel) rfl
theorem wd_7 : ((.laysFinal "UnifyBench$Names" "UnifyBench$Names" "ends" "LUnifyBench$Ints;") : Cond) ∈ GW := gw_1 208 (by decide +kernel) rfl
theorem wd_8 : ((.laysFinal "UnifyBench$Names" "UnifyBench$Names" "older" "LUnifyBench$Ints;") : Cond) ∈ GW := gw_1 210 (by decide +kernel) rfl
theorem wd_9 : ((.laysFinal "UnifyBench$Names" "UnifyBench$Names" "newest" "[I") : Cond) ∈ GW := gw_1 212 (by decide +kernel) rfl
theorem wd_10 : ((.lays "UnifyBench$Names" "UnifyBench$Names" "sizeBefore" "I") : Cond) ∈ GW := gw_1 214 (by decide +kernel) rfl
theorem wd_11 : ((.lays "UnifyBench$OpenTerm" "UnifyBench$OpenTerm" "most" "I") : Cond) ∈ GW := gw_2 84 (by decide +kernel) rfl
theorem wd_12 : ((.lays "UnifyBench$OpenTerm" "UnifyBench$OpenTerm" "level" "I") : Cond) ∈ GW := gw_2 86 (by decide +kernel) rfl
theorem wd_13 : ((.lays "UnifyBench$OpenTerm" "UnifyBench$OpenTerm" "awaits" "I") : Cond) ∈ GW := gw_2 88 (by decide +kernel) rfl
theorem wd_14 : ((.lays "UnifyBench$OpenTerm" "UnifyBench$OpenTerm" "name" "I") : Cond) ∈ GW := gw_2 90 (by decide +kernel) rfl
theorem wd_15 : ((.lays "UnifyBench$OpenTerm" "UnifyBench$OpenTerm" "nameLevel" "I") : Cond) ∈ GW := gw_2 92 (by decide +kernel) rfl
theorem wd_16 : ((.lays "UnifyBench$OpenTerm" "UnifyBench$OpenTerm" "parts" "I") : Cond) ∈ GW := gw_2 94 (by decide +kernel) rfl
theorem wd_17 : ((.laysFinal "UnifyBench$Printer" "UnifyBench$Printer" "names" "LUnifyBench$Names;") : Cond) ∈ GW := gw_2 187 (by decide +kernel) rfl
theorem wd_18 : ((.laysFinal "UnifyBench$Printer" "UnifyBench$Printer" "terms" "LUnifyBench$Terms;") : Cond) ∈ GW := gw_2 189 (by decide +kernel) rfl
theorem wd_19 : ((.lays "UnifyBench$Printer" "UnifyBench$Printer" "result" "LUnifyBench$Bytes;") : Cond) ∈ GW := gw_2 191 (by decide +kernel) rfl
theorem wd_20 : ((.lays "UnifyBench$Printer" "UnifyBench$Printer" "draft" "LUnifyBench$Bytes;") : Cond) ∈ GW := gw_2 193 (by decide +kernel) rfl
theorem wd_21 : ((.laysFinal "UnifyBench$Printer" "UnifyBench$Printer" "path" "LUnifyBench$Ints;") : Cond) ∈ GW := gw_2 195 (by decide +kernel) rfl
theorem wd_22 : ((.laysFinal "UnifyBench$Printer" "UnifyBench$Printer" "numbers" "[I") : Cond) ∈ GW := gw_2 197 (by decide +kernel) rfl
theorem wd_23 : ((.lays "UnifyBench$Printer" "UnifyBench$Printer" "numbered" "I") : Cond) ∈ GW := gw_2 199 (by decide +kernel) rfl
theorem wd_24 : ((.laysFinal "UnifyBench$Reader" "UnifyBench$Reader" "signs" "LUnifyBench$Signs;") : Cond) ∈ GW := gw_2 111 (by decide +kernel) rfl
theorem wd_25 : ((.laysFinal "UnifyBench$Reader" "UnifyBench$Reader" "names" "LUnifyBench$Names;") : Cond) ∈ GW := gw_2 113 (by decide +kernel) rfl
theorem wd_26 : ((.laysFinal "UnifyBench$Reader" "UnifyBench$Reader" "terms" "LUnifyBench$Terms;") : Cond) ∈ GW := gw_2 115 (by decide +kernel) rfl
theorem wd_27 : ((.laysFinal "UnifyBench$Reader" "UnifyBench$Reader" "open" "[LUnifyBench$OpenTerm;") : Cond) ∈ GW := gw_2 117 (by decide +kernel) rfl
theorem wd_28 : ((.lays "UnifyBench$Reader" "UnifyBench$Reader" "depth" "I") : Cond) ∈ GW := gw_2 119 (by decide +kernel) rfl
theorem wd_29 : ((.lays "UnifyBench$Reader" "UnifyBench$Reader" "state" "I") : Cond) ∈ GW := gw_2 121 (by decide +kernel) rfl
theorem wd_30 : ((.lays "UnifyBench$Reader" "UnifyBench$Reader" "nextMost" "I") : Cond) ∈ GW := gw_2 123 (by decide +kernel) rfl
theorem wd_31 : ((.lays "UnifyBench$Reader" "UnifyBench$Reader" "lastName" "I") : Cond) ∈ GW := gw_2 125 (by decide +kernel) rfl
theorem wd_32 : ((.lays "UnifyBench$Reader" "UnifyBench$Reader" "lastBehind" "I") : Cond) ∈ GW := gw_2 127 (by decide +kernel) rfl
theorem wd_33 : ((.laysFinal "UnifyBench$Reader" "UnifyBench$Reader" "values" "LUnifyBench$Ints;") : Cond) ∈ GW := gw_2 129 (by decide +kernel) rfl
theorem wd_34 : ((.lays "UnifyBench$Reader" "UnifyBench$Reader" "symbols" "I") : Cond) ∈ GW := gw_2 131 (by decide +kernel) rfl
theorem wd_35 : ((.lays "UnifyBench$Reader" "UnifyBench$Reader" "first" "I") : Cond) ∈ GW := gw_2 133 (by decide +kernel) rfl
theorem wd_36 : ((.lays "UnifyBench$Reader" "UnifyBench$Reader" "broken" "I") : Cond) ∈ GW := gw_2 135 (by decide +kernel) rfl
theorem wd_37 : ((.lays "UnifyBench$Reader" "UnifyBench$Reader" "tooMuch" "Z") : Cond) ∈ GW := gw_2 137 (by decide +kernel) rfl
theorem wd_38 : ((.laysFinal "UnifyBench$Signs" "UnifyBench$Signs" "tape" "LUnifyBench$Bytes;") : Cond) ∈ GW := gw_2 42 (by decide +kernel) rfl
theorem wd_39 : ((.laysFinal "UnifyBench$Signs" "UnifyBench$Signs" "names" "LUnifyBench$Names;") : Cond) ∈ GW := gw_2 44 (by decide +kernel) rfl
theorem wd_40 : ((.lays "UnifyBench$Signs" "UnifyBench$Signs" "kind" "I") : Cond) ∈ GW := gw_2 46 (by decide +kernel) rfl
theorem wd_41 : ((.lays "UnifyBench$Signs" "UnifyBench$Signs" "place" "I") : Cond) ∈ GW := gw_2 48 (by decide +kernel) rfl
theorem wd_42 : ((.lays "UnifyBench$Signs" "UnifyBench$Signs" "behind" "I") : Cond) ∈ GW := gw_2 50 (by decide +kernel) rfl
theorem wd_43 : ((.lays "UnifyBench$Signs" "UnifyBench$Signs" "passed" "Z") : Cond) ∈ GW := gw_2 52 (by decide +kernel) rfl
theorem wd_44 : ((.lays "UnifyBench$Signs" "UnifyBench$Signs" "name" "I") : Cond) ∈ GW := gw_2 54 (by decide +kernel) rfl
theorem wd_45 : ((.lays "UnifyBench$Signs" "UnifyBench$Signs" "number" "J") : Cond) ∈ GW := gw_2 56 (by decide +kernel) rfl
theorem wd_46 : ((.lays "UnifyBench$Terms" "UnifyBench$Terms" "shapes" "[I") : Cond) ∈ GW := gw_1 238 (by decide +kernel) rfl
theorem wd_47 : ((.lays "UnifyBench$Terms" "UnifyBench$Terms" "values" "[J") : Cond) ∈ GW := gw_2 0 (by decide +kernel) rfl
theorem wd_48 : ((.lays "UnifyBench$Terms" "UnifyBench$Terms" "firstParts" "[I") : Cond) ∈ GW := gw_2 2 (by decide +kernel) rfl
theorem wd_49 : ((.lays "UnifyBench$Terms" "UnifyBench$Terms" "nodes" "I") : Cond) ∈ GW := gw_2 4 (by decide +kernel) rfl
theorem wd_50 : ((.laysFinal "UnifyBench$Terms" "UnifyBench$Terms" "parts" "LUnifyBench$Ints;") : Cond) ∈ GW := gw_2 6 (by decide +kernel) rfl
theorem wd_51 : ((.laysFinal "UnifyBench$Terms" "UnifyBench$Terms" "variableNames" "[I") : Cond) ∈ GW := gw_2 8 (by decide +kernel) rfl
theorem wd_52 : ((.laysFinal "UnifyBench$Terms" "UnifyBench$Terms" "became" "[I") : Cond) ∈ GW := gw_2 10 (by decide +kernel) rfl
theorem wd_53 : ((.lays "UnifyBench$Terms" "UnifyBench$Terms" "variables" "I") : Cond) ∈ GW := gw_2 12 (by decide +kernel) rfl
theorem wd_54 : ((.lays "UnifyBench$Terms" "UnifyBench$Terms" "variablesLack" "Z") : Cond) ∈ GW := gw_2 14 (by decide +kernel) rfl
theorem wd_55 : ((.lays "UnifyBench$Terms" "UnifyBench$Terms" "symbols" "I") : Cond) ∈ GW := gw_2 16 (by decide +kernel) rfl
theorem wd_56 : ((.lays "UnifyBench$Terms" "UnifyBench$Terms" "nodesBefore" "I") : Cond) ∈ GW := gw_2 18 (by decide +kernel) rfl
theorem wd_57 : ((.lays "UnifyBench$Terms" "UnifyBench$Terms" "partsBefore" "I") : Cond) ∈ GW := gw_2 20 (by decide +kernel) rfl
theorem wd_58 : ((.lays "UnifyBench$Terms" "UnifyBench$Terms" "variablesBefore" "I") : Cond) ∈ GW := gw_2 22 (by decide +kernel) rfl
theorem wd_59 : ((.laysFinal "UnifyBench$Unifier" "UnifyBench$Unifier" "terms" "LUnifyBench$Terms;") : Cond) ∈ GW := gw_2 155 (by decide +kernel) rfl
theorem wd_60 : ((.lays "UnifyBench$Unifier" "UnifyBench$Unifier" "links" "[I") : Cond) ∈ GW := gw_2 157 (by decide +kernel) rfl
theorem wd_61 : ((.lays "UnifyBench$Unifier" "UnifyBench$Unifier" "states" "[I") : Cond) ∈ GW := gw_2 159 (by decide +kernel) rfl
theorem wd_62 : ((.laysFinal "UnifyBench$Unifier" "UnifyBench$Unifier" "pairs" "LUnifyBench$Ints;") : Cond) ∈ GW := gw_2 161 (by decide +kernel) rfl
theorem wd_63 : ((.laysFinal "UnifyBench$Unifier" "UnifyBench$Unifier" "joined" "LUnifyBench$Ints;") : Cond) ∈ GW := gw_2 163 (by decide +kernel) rfl
theorem wd_64 : ((.laysFinal "UnifyBench$Unifier" "UnifyBench$Unifier" "seen" "LUnifyBench$Ints;") : Cond) ∈ GW := gw_2 165 (by decide +kernel) rfl
theorem wd_65 : ((.laysFinal "UnifyBench$Unifier" "UnifyBench$Unifier" "path" "LUnifyBench$Ints;") : Cond) ∈ GW := gw_2 167 (by decide +kernel) rfl
theorem wd_66 : ((.laysFinal "UnifyBench" "UnifyBench" "tape" "LUnifyBench$Bytes;") : Cond) ∈ GW := gw_2 215 (by decide +kernel) rfl
theorem wd_67 : ((.laysFinal "UnifyBench" "UnifyBench" "names" "LUnifyBench$Names;") : Cond) ∈ GW := gw_2 217 (by decide +kernel) rfl
theorem wd_68 : ((.laysFinal "UnifyBench" "UnifyBench" "terms" "LUnifyBench$Terms;") : Cond) ∈ GW := gw_2 219 (by decide +kernel) rfl
theorem wd_69 : ((.laysFinal "UnifyBench" "UnifyBench" "reader" "LUnifyBench$Reader;") : Cond) ∈ GW := gw_2 221 (by decide +kernel) rfl
theorem wd_70 : ((.laysFinal "UnifyBench" "UnifyBench" "unifier" "LUnifyBench$Unifier;") : Cond) ∈ GW := gw_2 223 (by decide +kernel) rfl
theorem wd_71 : ((.laysFinal "UnifyBench" "UnifyBench" "printer" "LUnifyBench$Printer;") : Cond) ∈ GW := gw_2 225 (by decide +kernel) rfl
theorem wd_72 : ((.laysFinal "UnifyBench" "UnifyBench" "registers" "[I") : Cond) ∈ GW := gw_2 227 (by decide +kernel) rfl
theorem wd_73 : ((.laysFinal "UnifyBench" "UnifyBench" "marked" "LUnifyBench$Ints;") : Cond) ∈ GW := gw_2 229 (by decide +kernel) rfl
theorem wd_74 : ((.lays "UnifyBench" "UnifyBench" "marks" "I") : Cond) ∈ GW := gw_2 231 (by decide +kernel) rfl
theorem wd_75 : ((.lays "UnifyBench" "UnifyBench" "place" "I") : Cond) ∈ GW := gw_2 233 (by decide +kernel) rfl
theorem wd_76 : ((.laysFinal "UnifyBenchModel$Names" "UnifyBenchModel$Names" "text" "[B") : Cond) ∈ GW := gw_6 139 (by decide +kernel) rfl
theorem wd_77 : ((.laysFinal "UnifyBenchModel$Names" "UnifyBenchModel$Names" "from" "[I") : Cond) ∈ GW := gw_6 141 (by decide +kernel) rfl
theorem wd_78 : ((.laysFinal "UnifyBenchModel$Names" "UnifyBenchModel$Names" "next" "[I") : Cond) ∈ GW := gw_6 143 (by decide +kernel) rfl
theorem wd_79 : ((.laysFinal "UnifyBenchModel$Names" "UnifyBenchModel$Names" "first" "[I") : Cond) ∈ GW := gw_6 145 (by decide +kernel) rfl
theorem wd_80 : ((.lays "UnifyBenchModel$Names" "UnifyBenchModel$Names" "size" "I") : Cond) ∈ GW := gw_6 147 (by decide +kernel) rfl
theorem wd_81 : ((.lays "UnifyBenchModel$Names" "UnifyBenchModel$Names" "texted" "I") : Cond) ∈ GW := gw_6 149 (by decide +kernel) rfl
theorem wd_82 : ((.laysFinal "UnifyBenchModel$Terms" "UnifyBenchModel$Terms" "kind" "[I") : Cond) ∈ GW := gw_6 107 (by decide +kernel) rfl
theorem wd_83 : ((.laysFinal "UnifyBenchModel$Terms" "UnifyBenchModel$Terms" "name" "[I") : Cond) ∈ GW := gw_6 109 (by decide +kernel) rfl
theorem wd_84 : ((.laysFinal "UnifyBenchModel$Terms" "UnifyBenchModel$Terms" "first" "[I") : Cond) ∈ GW := gw_6 111 (by decide +kernel) rfl
theorem wd_85 : ((.laysFinal "UnifyBenchModel$Terms" "UnifyBenchModel$Terms" "many" "[I") : Cond) ∈ GW := gw_6 113 (by decide +kernel) rfl
theorem wd_86 : ((.laysFinal "UnifyBenchModel$Terms" "UnifyBenchModel$Terms" "part" "[I") : Cond) ∈ GW := gw_6 115 (by decide +kernel) rfl
theorem wd_87 : ((.laysFinal "UnifyBenchModel$Terms" "UnifyBenchModel$Terms" "number" "[J") : Cond) ∈ GW := gw_6 117 (by decide +kernel) rfl
theorem wd_88 : ((.lays "UnifyBenchModel$Terms" "UnifyBenchModel$Terms" "size" "I") : Cond) ∈ GW := gw_6 119 (by decide +kernel) rfl
theorem wd_89 : ((.lays "UnifyBenchModel$Terms" "UnifyBenchModel$Terms" "parts" "I") : Cond) ∈ GW := gw_6 121 (by decide +kernel) rfl
theorem wd_90 : ((.laysFinal "UnifyBenchModel$Reader" "UnifyBenchModel$Reader" "sides" "[Ljava/lang/String;") : Cond) ∈ GW := gw_6 218 (by decide +kernel) rfl
theorem wd_91 : ((.laysFinal "UnifyBenchModel$Reader" "UnifyBenchModel$Reader" "ranks" "[I") : Cond) ∈ GW := gw_6 220 (by decide +kernel) rfl
theorem wd_92 : ((.laysFinal "UnifyBenchModel$Reader" "UnifyBenchModel$Reader" "stop" "Ljava/lang/IllegalStateException;") : Cond) ∈ GW := gw_6 222 (by decide +kernel) rfl
theorem wd_93 : ((.laysFinal "UnifyBenchModel$Reader" "UnifyBenchModel$Reader" "terms" "LUnifyBenchModel$Terms;") : Cond) ∈ GW := gw_6 224 (by decide +kernel) rfl
theorem wd_94 : ((.laysFinal "UnifyBenchModel$Reader" "UnifyBenchModel$Reader" "names" "LUnifyBenchModel$Names;") : Cond) ∈ GW := gw_6 226 (by decide +kernel) rfl
theorem wd_95 : ((.lays "UnifyBenchModel$Reader" "UnifyBenchModel$Reader" "s" "[B") : Cond) ∈ GW := gw_6 228 (by decide +kernel) rfl
theorem wd_96 : ((.lays "UnifyBenchModel$Reader" "UnifyBenchModel$Reader" "n" "I") : Cond) ∈ GW := gw_6 230 (by decide +kernel) rfl
theorem wd_97 : ((.lays "UnifyBenchModel$Reader" "UnifyBenchModel$Reader" "at" "I") : Cond) ∈ GW := gw_6 232 (by decide +kernel) rfl
theorem wd_98 : ((.lays "UnifyBenchModel$Reader" "UnifyBenchModel$Reader" "behind" "I") : Cond) ∈ GW := gw_6 234 (by decide +kernel) rfl
theorem wd_99 : ((.lays "UnifyBenchModel$Reader" "UnifyBenchModel$Reader" "token" "I") : Cond) ∈ GW := gw_6 236 (by decide +kernel) rfl
theorem wd_100 : ((.lays "UnifyBenchModel$Reader" "UnifyBenchModel$Reader" "open" "I") : Cond) ∈ GW := gw_6 238 (by decide +kernel) rfl
theorem wd_101 : ((.lays "UnifyBenchModel$Reader" "UnifyBenchModel$Reader" "number" "J") : Cond) ∈ GW := gw_7 0 (by decide +kernel) rfl
theorem wd_102 : ((.laysFinal "UnifyBenchModel$Reader" "UnifyBenchModel$Reader" "word" "[B") : Cond) ∈ GW := gw_7 2 (by decide +kernel) rfl
theorem wd_103 : ((.lays "UnifyBenchModel$Reader" "UnifyBenchModel$Reader" "letters" "I") : Cond) ∈ GW := gw_7 4 (by decide +kernel) rfl
theorem wd_104 : ((.laysFinal "UnifyBenchModel$Reader" "UnifyBenchModel$Reader" "stack" "[I") : Cond) ∈ GW := gw_7 6 (by decide +kernel) rfl
theorem wd_105 : ((.lays "UnifyBenchModel$Reader" "UnifyBenchModel$Reader" "top" "I") : Cond) ∈ GW := gw_7 8 (by decide +kernel) rfl
theorem wd_106 : ((.lays "UnifyBenchModel$Reader" "UnifyBenchModel$Reader" "place" "I") : Cond) ∈ GW := gw_7 10 (by decide +kernel) rfl
theorem wd_107 : ((.laysFinal "UnifyBenchModel$Reader" "UnifyBenchModel$Reader" "variables" "[I") : Cond) ∈ GW := gw_7 12 (by decide +kernel) rfl
theorem wd_108 : ((.lays "UnifyBenchModel$Reader" "UnifyBenchModel$Reader" "variabled" "I") : Cond) ∈ GW := gw_7 14 (by decide +kernel) rfl
theorem wd_109 : ((.lays "UnifyBenchModel$Reader" "UnifyBenchModel$Reader" "known" "I") : Cond) ∈ GW := gw_7 16 (by decide +kernel) rfl
theorem wd_110 : ((.lays "UnifyBenchModel$Reader" "UnifyBenchModel$Reader" "rank" "I") : Cond) ∈ GW := gw_7 18 (by decide +kernel) rfl
theorem wd_111 : ((.laysFinal "UnifyBenchModel$Reader" "UnifyBenchModel$Reader" "kept" "[B") : Cond) ∈ GW := gw_7 20 (by decide +kernel) rfl
theorem wd_112 : ((.laysFinal "UnifyBenchModel$Paper" "UnifyBenchModel$Paper" "out" "[B") : Cond) ∈ GW := gw_7 39 (by decide +kernel) rfl
theorem wd_113 : ((.laysFinal "UnifyBenchModel$Paper" "UnifyBenchModel$Paper" "walk" "[I") : Cond) ∈ GW := gw_7 41 (by decide +kernel) rfl
theorem wd_114 : ((.laysFinal "UnifyBenchModel$Paper" "UnifyBenchModel$Paper" "next" "[I") : Cond) ∈ GW := gw_7 43 (by decide +kernel) rfl
theorem wd_115 : ((.laysFinal "UnifyBenchModel$Paper" "UnifyBenchModel$Paper" "seen" "[I") : Cond) ∈ GW := gw_7 45 (by decide +kernel) rfl
theorem wd_116 : ((.lays "UnifyBenchModel$Paper" "UnifyBenchModel$Paper" "n" "I") : Cond) ∈ GW := gw_7 47 (by decide +kernel) rfl
theorem wd_117 : ((.lays "UnifyBenchModel$Paper" "UnifyBenchModel$Paper" "over" "Z") : Cond) ∈ GW := gw_7 49 (by decide +kernel) rfl
theorem wd_118 : ((.lays "UnifyBenchModel$Paper" "UnifyBenchModel$Paper" "order" "I") : Cond) ∈ GW := gw_7 51 (by decide +kernel) rfl
theorem wd_119 : ((.lays "UnifyBenchModel" "UnifyBenchModel" "thrown" "I") : Cond) ∈ GW := gw_7 101 (by decide +kernel) rfl
theorem wd_120 : ((.lays "UnifyBenchModel" "UnifyBenchModel" "taped" "I") : Cond) ∈ GW := gw_7 103 (by decide +kernel) rfl
theorem wd_121 : ((.lays "UnifyBenchModel" "UnifyBenchModel" "place" "I") : Cond) ∈ GW := gw_7 105 (by decide +kernel) rfl
theorem wd_122 : ((.lays "UnifyBenchModel" "UnifyBenchModel" "resulted" "I") : Cond) ∈ GW := gw_7 107 (by decide +kernel) rfl
theorem wd_123 : ((.lays "UnifyBenchModel" "UnifyBenchModel" "marks" "I") : Cond) ∈ GW := gw_7 109 (by decide +kernel) rfl
theorem wd_124 : ((.laysFinal "UnifyBenchModel" "UnifyBenchModel" "tape" "[B") : Cond) ∈ GW := gw_7 111 (by decide +kernel) rfl
theorem wd_125 : ((.laysFinal "UnifyBenchModel" "UnifyBenchModel" "result" "[B") : Cond) ∈ GW := gw_7 113 (by decide +kernel) rfl
theorem wd_126 : ((.laysFinal "UnifyBenchModel" "UnifyBenchModel" "terms" "LUnifyBenchModel$Terms;") : Cond) ∈ GW := gw_7 115 (by decide +kernel) rfl
theorem wd_127 : ((.laysFinal "UnifyBenchModel" "UnifyBenchModel" "names" "LUnifyBenchModel$Names;") : Cond) ∈ GW := gw_7 117 (by decide +kernel) rfl
theorem wd_128 : ((.laysFinal "UnifyBenchModel" "UnifyBenchModel" "reader" "LUnifyBenchModel$Reader;") : Cond) ∈ GW := gw_7 119 (by decide +kernel) rfl
theorem wd_129 : ((.laysFinal "UnifyBenchModel" "UnifyBenchModel" "paper" "LUnifyBenchModel$Paper;") : Cond) ∈ GW := gw_7 121 (by decide +kernel) rfl
theorem wd_130 : ((.laysFinal "UnifyBenchModel" "UnifyBenchModel" "register" "[I") : Cond) ∈ GW := gw_7 123 (by decide +kernel) rfl
theorem wd_131 : ((.laysFinal "UnifyBenchModel" "UnifyBenchModel" "became" "[I") : Cond) ∈ GW := gw_7 125 (by decide +kernel) rfl
theorem wd_132 : ((.laysFinal "UnifyBenchModel" "UnifyBenchModel" "node" "[I") : Cond) ∈ GW := gw_7 127 (by decide +kernel) rfl
theorem wd_133 : ((.laysFinal "UnifyBenchModel" "UnifyBenchModel" "marked" "[[I") : Cond) ∈ GW := gw_7 129 (by decide +kernel) rfl
theorem wd_134 : ((.laysFinal "UnifyBenchModel" "UnifyBenchModel" "markedRegister" "[I") : Cond) ∈ GW := gw_7 131 (by decide +kernel) rfl
theorem wd_135 : ((.laysFinal "UnifyBenchModel" "UnifyBenchModel" "up" "[I") : Cond) ∈ GW := gw_7 133 (by decide +kernel) rfl
theorem wd_136 : ((.laysFinal "UnifyBenchModel" "UnifyBenchModel" "touched" "[I") : Cond) ∈ GW := gw_7 135 (by decide +kernel) rfl
theorem wd_137 : ((.laysFinal "UnifyBenchModel" "UnifyBenchModel" "todo" "[I") : Cond) ∈ GW := gw_7 137 (by decide +kernel) rfl
theorem wd_138 : ((.laysFinal "UnifyBenchModel" "UnifyBenchModel" "color" "[B") : Cond) ∈ GW := gw_7 139 (by decide +kernel) rfl
theorem wd_139 : ((.lays "UnifyBenchModel" "UnifyBenchModel" "touches" "I") : Cond) ∈ GW := gw_7 141 (by decide +kernel) rfl
theorem wd_140 : ((.laysFinal "UnifyBenchModel" "UnifyBenchModel" "painted" "[I") : Cond) ∈ GW := gw_7 143 (by decide +kernel) rfl
theorem wd_141 : ((.lays "UnifyBenchModel" "UnifyBenchModel" "paints" "I") : Cond) ∈ GW := gw_7 145 (by decide +kernel) rfl
theorem ul_Bytes : ∀ w ∈ u_ws R_Bytes F_Bytes 2, w ∈ GW := by
  intro w hw
  obtain ⟨k, hk, rfl⟩ := List.mem_map.mp hw
  have hk := List.mem_range.mp hk
  rcases (show k = 0 ∨ k = 1 by omega) with rfl | rfl
  · exact wd_1
  · exact wd_2
theorem ul_Ints : ∀ w ∈ u_ws R_Ints F_Ints 2, w ∈ GW := by
  intro w hw
  obtain ⟨k, hk, rfl⟩ := List.mem_map.mp hw
  have hk := List.mem_range.mp hk
  rcases (show k = 0 ∨ k = 1 by omega) with rfl | rfl
  · exact wd_3
  · exact wd_4
theorem ul_Names : ∀ w ∈ u_ws R_Names F_Names 6, w ∈ GW := by
  intro w hw
  obtain ⟨k, hk, rfl⟩ := List.mem_map.mp hw
  have hk := List.mem_range.mp hk
  rcases (show k = 0 ∨ k = 1 ∨ k = 2 ∨ k = 3 ∨ k = 4 ∨ k = 5 by omega) with rfl | rfl | rfl | rfl | rfl | rfl
  · exact wd_5
  · exact wd_6
  · exact wd_7
  · exact wd_8
  · exact wd_9
  · exact wd_10
theorem ul_Open : ∀ w ∈ u_ws R_Open F_Open 6, w ∈ GW := by
  intro w hw
  obtain ⟨k, hk, rfl⟩ := List.mem_map.mp hw
  have hk := List.mem_range.mp hk
  rcases (show k = 0 ∨ k = 1 ∨ k = 2 ∨ k = 3 ∨ k = 4 ∨ k = 5 by omega) with rfl | rfl | rfl | rfl | rfl | rfl
  · exact wd_11
  · exact wd_12
  · exact wd_13
  · exact wd_14
  · exact wd_15
  · exact wd_16
theorem ul_Printer : ∀ w ∈ u_ws R_Printer F_Printer 7, w ∈ GW := by
  intro w hw
  obtain ⟨k, hk, rfl⟩ := List.mem_map.mp hw
  have hk := List.mem_range.mp hk
  rcases (show k = 0 ∨ k = 1 ∨ k = 2 ∨ k = 3 ∨ k = 4 ∨ k = 5 ∨ k = 6 by omega) with rfl | rfl | rfl | rfl | rfl | rfl | rfl
  · exact wd_17
  · exact wd_18
  · exact wd_19
  · exact wd_20
  · exact wd_21
  · exact wd_22
  · exact wd_23
theorem ul_Reader : ∀ w ∈ u_ws R_Reader F_Reader 14, w ∈ GW := by
  intro w hw
  obtain ⟨k, hk, rfl⟩ := List.mem_map.mp hw
  have hk := List.mem_range.mp hk
  rcases (show k = 0 ∨ k = 1 ∨ k = 2 ∨ k = 3 ∨ k = 4 ∨ k = 5 ∨ k = 6 ∨ k = 7 ∨ k = 8 ∨ k = 9 ∨ k = 10 ∨ k = 11 ∨ k = 12 ∨ k = 13 by omega) with rfl | rfl | rfl | rfl | rfl | rfl | rfl | rfl | rfl | rfl | rfl | rfl | rfl | rfl
  · exact wd_24
  · exact wd_25
  · exact wd_26
  · exact wd_27
  · exact wd_28
  · exact wd_29
  · exact wd_30
  · exact wd_31
  · exact wd_32
  · exact wd_33
  · exact wd_34
  · exact wd_35
  · exact wd_36
  · exact wd_37
theorem ul_Signs : ∀ w ∈ u_ws R_Signs F_Signs 8, w ∈ GW := by
  intro w hw
  obtain ⟨k, hk, rfl⟩ := List.mem_map.mp hw
  have hk := List.mem_range.mp hk
  rcases (show k = 0 ∨ k = 1 ∨ k = 2 ∨ k = 3 ∨ k = 4 ∨ k = 5 ∨ k = 6 ∨ k = 7 by omega) with rfl | rfl | rfl | rfl | rfl | rfl | rfl | rfl
  · exact wd_38
  · exact wd_39
  · exact wd_40
  · exact wd_41
  · exact wd_42
  · exact wd_43
  · exact wd_44
  · exact wd_45
theorem ul_Terms : ∀ w ∈ u_ws R_Terms F_Terms 13, w ∈ GW := by
  intro w hw
  obtain ⟨k, hk, rfl⟩ := List.mem_map.mp hw
  have hk := List.mem_range.mp hk
  rcases (show k = 0 ∨ k = 1 ∨ k = 2 ∨ k = 3 ∨ k = 4 ∨ k = 5 ∨ k = 6 ∨ k = 7 ∨ k = 8 ∨ k = 9 ∨ k = 10 ∨ k = 11 ∨ k = 12 by omega) with rfl | rfl | rfl | rfl | rfl | rfl | rfl | rfl | rfl | rfl | rfl | rfl | rfl
  · exact wd_46
  · exact wd_47
  · exact wd_48
  · exact wd_49
  · exact wd_50
  · exact wd_51
  · exact wd_52
  · exact wd_53
  · exact wd_54
  · exact wd_55
  · exact wd_56
  · exact wd_57
  · exact wd_58
theorem ul_Unifier : ∀ w ∈ u_ws R_Unifier F_Unifier 7, w ∈ GW := by
  intro w hw
  obtain ⟨k, hk, rfl⟩ := List.mem_map.mp hw
  have hk := List.mem_range.mp hk
  rcases (show k = 0 ∨ k = 1 ∨ k = 2 ∨ k = 3 ∨ k = 4 ∨ k = 5 ∨ k = 6 by omega) with rfl | rfl | rfl | rfl | rfl | rfl | rfl
  · exact wd_59
  · exact wd_60
  · exact wd_61
  · exact wd_62
  · exact wd_63
  · exact wd_64
  · exact wd_65
theorem ul_UB : ∀ w ∈ u_ws R_UB F_UB 10, w ∈ GW := by
  intro w hw
  obtain ⟨k, hk, rfl⟩ := List.mem_map.mp hw
  have hk := List.mem_range.mp hk
  rcases (show k = 0 ∨ k = 1 ∨ k = 2 ∨ k = 3 ∨ k = 4 ∨ k = 5 ∨ k = 6 ∨ k = 7 ∨ k = 8 ∨ k = 9 by omega) with rfl | rfl | rfl | rfl | rfl | rfl | rfl | rfl | rfl | rfl
  · exact wd_66
  · exact wd_67
  · exact wd_68
  · exact wd_69
  · exact wd_70
  · exact wd_71
  · exact wd_72
  · exact wd_73
  · exact wd_74
  · exact wd_75
theorem ul_MoNames : ∀ w ∈ u_ws R_MoNames F_MoNames 6, w ∈ GW := by
  intro w hw
  obtain ⟨k, hk, rfl⟩ := List.mem_map.mp hw
  have hk := List.mem_range.mp hk
  rcases (show k = 0 ∨ k = 1 ∨ k = 2 ∨ k = 3 ∨ k = 4 ∨ k = 5 by omega) with rfl | rfl | rfl | rfl | rfl | rfl
  · exact wd_76
  · exact wd_77
  · exact wd_78
  · exact wd_79
  · exact wd_80
  · exact wd_81
theorem ul_MoTerms : ∀ w ∈ u_ws R_MoTerms F_MoTerms 8, w ∈ GW := by
  intro w hw
  obtain ⟨k, hk, rfl⟩ := List.mem_map.mp hw
  have hk := List.mem_range.mp hk
  rcases (show k = 0 ∨ k = 1 ∨ k = 2 ∨ k = 3 ∨ k = 4 ∨ k = 5 ∨ k = 6 ∨ k = 7 by omega) with rfl | rfl | rfl | rfl | rfl | rfl | rfl | rfl
  · exact wd_82
  · exact wd_83
  · exact wd_84
  · exact wd_85
  · exact wd_86
  · exact wd_87
  · exact wd_88
  · exact wd_89
theorem ul_MoReader : ∀ w ∈ u_ws R_MoReader F_MoReader 22, w ∈ GW := by
  intro w hw
  obtain ⟨k, hk, rfl⟩ := List.mem_map.mp hw
  have hk := List.mem_range.mp hk
  rcases (show k = 0 ∨ k = 1 ∨ k = 2 ∨ k = 3 ∨ k = 4 ∨ k = 5 ∨ k = 6 ∨ k = 7 ∨ k = 8 ∨ k = 9 ∨ k = 10 ∨ k = 11 ∨ k = 12 ∨ k = 13 ∨ k = 14 ∨ k = 15 ∨ k = 16 ∨ k = 17 ∨ k = 18 ∨ k = 19 ∨ k = 20 ∨ k = 21 by omega) with rfl | rfl | rfl | rfl | rfl | rfl | rfl | rfl | rfl | rfl | rfl | rfl | rfl | rfl | rfl | rfl | rfl | rfl | rfl | rfl | rfl | rfl
  · exact wd_90
  · exact wd_91
  · exact wd_92
  · exact wd_93
  · exact wd_94
  · exact wd_95
  · exact wd_96
  · exact wd_97
  · exact wd_98
  · exact wd_99
  · exact wd_100
  · exact wd_101
  · exact wd_102
  · exact wd_103
  · exact wd_104
  · exact wd_105
  · exact wd_106
  · exact wd_107
  · exact wd_108
  · exact wd_109
  · exact wd_110
  · exact wd_111
theorem ul_MoPaper : ∀ w ∈ u_ws R_MoPaper F_MoPaper 7, w ∈ GW := by
  intro w hw
  obtain ⟨k, hk, rfl⟩ := List.mem_map.mp hw
  have hk := List.mem_range.mp hk
  rcases (show k = 0 ∨ k = 1 ∨ k = 2 ∨ k = 3 ∨ k = 4 ∨ k = 5 ∨ k = 6 by omega) with rfl | rfl | rfl | rfl | rfl | rfl | rfl
  · exact wd_112
  · exact wd_113
  · exact wd_114
  · exact wd_115
  · exact wd_116
  · exact wd_117
  · exact wd_118
theorem ul_Mo : ∀ w ∈ u_ws R_Mo F_Mo 23, w ∈ GW := by
  intro w hw
  obtain ⟨k, hk, rfl⟩ := List.mem_map.mp hw
  have hk := List.mem_range.mp hk
  rcases (show k = 0 ∨ k = 1 ∨ k = 2 ∨ k = 3 ∨ k = 4 ∨ k = 5 ∨ k = 6 ∨ k = 7 ∨ k = 8 ∨ k = 9 ∨ k = 10 ∨ k = 11 ∨ k = 12 ∨ k = 13 ∨ k = 14 ∨ k = 15 ∨ k = 16 ∨ k = 17 ∨ k = 18 ∨ k = 19 ∨ k = 20 ∨ k = 21 ∨ k = 22 by omega) with rfl | rfl | rfl | rfl | rfl | rfl | rfl | rfl | rfl | rfl | rfl | rfl | rfl | rfl | rfl | rfl | rfl | rfl | rfl | rfl | rfl | rfl | rfl
  · exact wd_119
  · exact wd_120
  · exact wd_121
  · exact wd_122
  · exact wd_123
  · exact wd_124
  · exact wd_125
  · exact wd_126
  · exact wd_127
  · exact wd_128
  · exact wd_129
  · exact wd_130
  · exact wd_131
  · exact wd_132
  · exact wd_133
  · exact wd_134
  · exact wd_135
  · exact wd_136
  · exact wd_137
  · exact wd_138
  · exact wd_139
  · exact wd_140
  · exact wd_141
