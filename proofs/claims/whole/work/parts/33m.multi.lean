section MUW
variable {e : Env} {E : CtlPost} {d : Bool} {acts : List Action}
theorem gd_make1 {Q : Addr → Pre} {S : State} {c1 comp : ClassId} {k1 : Class} {b : Int32} {M : Nat} (hM : b.toNatClampNeg = M) (hk1 : S.vm.classes[c1]? = some k1) (hkind1 : k1.kind = .array comp .int) (hb : ¬ b < 0) (hlim : ¬ M > e.platform.arrayLengthLimit) (hheap : ¬ M * componentBytes .int > e.platform.maxHeapBytes) (h1 : S.heap.size < e.platform.maxCells) (h2 : S.slotsUsed + M ≤ e.platform.maxSlots)
    (hq : ∀ acts', Q S.heap.size d acts' (S.pushCell (arrV c1 M (fun _ => .int 0)))) : wp (Jvm.Op.multianewarray.make c1 [b]) Q E e d acts S := by
  have hfit : ∀ i v, (Array.replicate M (Value.int 0))[i]? = some v → S.fitsSlot c1 .none i v = true := by
    intro i v hv
    simp only [Array.getElem?_replicate] at hv
    split at hv
    · cases hv; simp [State.fitsSlot, State.slotType?, hk1, hkind1, fits]
    · cases hv
  have hslots : ¬ M > e.platform.maxSlots := by omega
  have hq' := hq (allocActs (Array.replicate M (Value.int 0)) S.heap.size acts)
  rw [← arrV_new] at hq'
  rw [Jvm.Op.multianewarray.make]
  simp only [wp_bind', Jvm.W.ite, hb, if_false, wp_pure', Jvm.W.theClass, hk1, Option.some.injEq, exists_eq_left', hkind1, Jvm.newArray, Jvm.arrayFits, Jvm.W.ask, hM, hlim, hheap, hslots, Jvm.W.alloc, Jvm.W.stop, Array.size_replicate, defaultValue]
  exact ⟨h1, h2, hfit, hq'⟩
theorem gd_make2 {Q : Addr → Pre} {T0 : State} {fr : JFrame} {c1 c2 comp : ClassId} {k1 k2 : Class} {a b : Int32} {N M B : Nat} (hB : T0.heap.size = B) (hN : a.toNatClampNeg = N) (hM : b.toNatClampNeg = M) (ha : ¬ a < 0) (hb : ¬ b < 0) (ha0 : (a == 0) = false) (hk2 : T0.vm.classes[c2]? = some k2) (hkind2 : k2.kind = .array c1 (.array .int)) (hk1 : T0.vm.classes[c1]? = some k1) (hkind1 : k1.kind = .array comp .int)
    (hlN : ¬ N > e.platform.arrayLengthLimit) (hhN : ¬ N * componentBytes (.array .int) > e.platform.maxHeapBytes) (hlM : ¬ M > e.platform.arrayLengthLimit) (hhM : ¬ M * componentBytes .int > e.platform.maxHeapBytes) (h1 : T0.heap.size < e.platform.maxCells) (h2 : T0.slotsUsed + N ≤ e.platform.maxSlots)
    (hst : ∀ k, k < N → (gdS (T0.pushCell (arrV c2 N (fun _ => .null))) B c1 c2 N M k).heap.size < e.platform.maxCells ∧ (gdS (T0.pushCell (arrV c2 N (fun _ => .null))) B c1 c2 N M k).slotsUsed + M ≤ e.platform.maxSlots ∧ (gdS (T0.pushCell (arrV c2 N (fun _ => .null))) B c1 c2 N M k).heap[B]? = some (gdO c2 N B k) ∧ (gdS (T0.pushCell (arrV c2 N (fun _ => .null))) B c1 c2 N M k).heap.size = B + 1 + k ∧ (gdS (T0.pushCell (arrV c2 N (fun _ => .null))) B c1 c2 N M k).vm = T0.vm)
    (hq : ∀ d' acts', Q B d' acts' ((gdS (T0.pushCell (arrV c2 N (fun _ => .null))) B c1 c2 N M N).setTop fr)) : wp (Jvm.Op.multianewarray.make c2 [a, b]) Q E e d acts (T0.setTop fr) := by
  have hfit : ∀ i v, (Array.replicate N Value.null)[i]? = some v → T0.fitsSlot c2 .none i v = true := by
    intro i v hv
    simp only [Array.getElem?_replicate] at hv
    split at hv
    · cases hv; simp [State.fitsSlot, State.slotType?, hk2, hkind2, fits]
    · cases hv
  have hslots : ¬ N > e.platform.maxSlots := by omega
  rw [Jvm.Op.multianewarray.make]
  simp only [wp_bind', Jvm.W.ite, ha, if_false, wp_pure', Jvm.W.theClass, State.vm_setTop, hk2, Option.some.injEq, exists_eq_left', hkind2, Jvm.newArray, Jvm.arrayFits, Jvm.W.ask, hN, hlN, hhN, hslots, Jvm.W.alloc, Jvm.W.stop, ha0, Bool.false_eq_true, State.heap_setTop, State.slotsUsed_setTop, State.fitsSlot_setTop, Array.size_replicate, State.pushCell_setTop, Std.Legacy.Range.forIn_eq_forIn_range']
  refine ⟨h1, h2, hfit, ?_⟩
  refine wp_forIn_inv (fun rest s' => ∃ k, k ≤ N ∧ rest = List.range' k (N - k) ∧ s' = (gdS (T0.pushCell (arrV c2 N (fun _ => .null))) B c1 c2 N M k).setTop fr) _ _ ⟨0, Nat.zero_le _, ?_, ?_⟩ ?_ ?_
  · simp [Std.Legacy.Range.size]
  · rw [← arrV_new]; rfl
  · intro x rest s' d' acts' Q' hI hn
    obtain ⟨k, hk, hr, rfl⟩ := hI
    have hlt : k < N := by
      rcases Nat.lt_or_ge k N with h | h
      · exact h
      · rw [show N - k = 0 by omega] at hr; cases hr
    rw [show N - k = (N - (k + 1)) + 1 by omega, List.range'_succ] at hr
    obtain ⟨hx, hr2⟩ := List.cons.inj hr
    have hx := hx.symm
    subst hx
    subst hr2
    obtain ⟨g1, g2, g3, g4, g5⟩ := hst k hlt
    simp only [wp_bind']
    refine gd_make1 hM (k1 := k1) (comp := comp) (by rw [State.vm_setTop, g5]; exact hk1) hkind1 hb hlM hhM g1 g2 (fun acts2 => ?_)
    (try dsimp only)
    simp only [wp_bind', Jvm.W.writeLoc, wp_pure', hB]
    have hBl : B < (gdS (T0.pushCell (arrV c2 N (fun _ => .null))) B c1 c2 N M k).heap.size := by omega
    refine ⟨gdO c2 N B k, ?_, ?_, ?_, ?_, ?_⟩
    · show ((gdS (T0.pushCell (arrV c2 N (fun _ => .null))) B c1 c2 N M k).heap.push _)[B]? = _
      rw [Array.getElem?_push, if_neg (Nat.ne_of_lt hBl)]; exact g3
    · intro h; cases h
    · show k < (arrV _ _ _).slots.size
      rw [arrV_size]; exact hlt
    · have hk2' : (gdS (T0.pushCell (arrV c2 N (fun _ => .null))) B c1 c2 N M k).vm.classes[c2]? = some k2 := by rw [g5]; exact hk2
      show State.fitsSlot (gdS (T0.pushCell (arrV c2 N (fun _ => .null))) B c1 c2 N M k) c2 .none k _ = true
      simp [State.fitsSlot, State.slotType?, hk2', hkind2, fits]
    · refine hn _ _ _ ⟨k + 1, hlt, rfl, ?_⟩
      have e1 : (gdO c2 N B k).setSlot k (.ref ((gdS (T0.pushCell (arrV c2 N (fun _ => .null))) B c1 c2 N M k).setTop fr).heap.size) = gdO c2 N B (k + 1) := by
        rw [State.heap_setTop, g4]; exact gdO_set
      rw [e1]
      rfl
  · intro s' d' acts' hI
    obtain ⟨k, hk, hr, rfl⟩ := hI
    have hkN : k = N := by
      rcases Nat.lt_or_ge k N with h | h
      · rw [show N - k = (N - (k + 1)) + 1 by omega, List.range'_succ] at hr; cases hr
      · omega
    subst hkN
    rw [hB]
    exact hq _ _
end MUW
section MUS
variable {e : Env} {E : CtlPost} {d : Bool} {acts : List Action}
theorem gd_sem {Q : Unit → Pre} {T : State} {vm₁ : Vm} {f : JFrame} {index : Nat} {rest : List Value} {c1 c2 comp : ClassId} {k1 k2 : Class} {a b : Int32} {N M B : Nat} (hs : T.topJava?.isSome) (hgv : (Jvm.resolveClass f.method.cls index).Gives e.toSetting T.vm (.ok c2) vm₁) (hrd : vm₁.classReady f.method.cls index c2) (hsz : vm₁.classes.size ≤ T.vm.classes.size) (hstack : f.stack = .int b :: .int a :: rest)
    (hB : T.heap.size = B) (hN : a.toNatClampNeg = N) (hM : b.toNatClampNeg = M) (ha : ¬ a < 0) (hb : ¬ b < 0) (ha0 : (a == 0) = false) (hk2 : vm₁.classes[c2]? = some k2) (hkind2 : k2.kind = .array c1 (.array .int)) (hk1 : vm₁.classes[c1]? = some k1) (hkind1 : k1.kind = .array comp .int)
    (hlN : ¬ N > e.platform.arrayLengthLimit) (hhN : ¬ N * componentBytes (.array .int) > e.platform.maxHeapBytes) (hlM : ¬ M > e.platform.arrayLengthLimit) (hhM : ¬ M * componentBytes .int > e.platform.maxHeapBytes) (h1 : T.heap.size < e.platform.maxCells) (h2 : T.slotsUsed + N ≤ e.platform.maxSlots)
    (hst : ∀ k, k < N → (gdS ((T.setVm vm₁).pushCell (arrV c2 N (fun _ => .null))) B c1 c2 N M k).heap.size < e.platform.maxCells ∧ (gdS ((T.setVm vm₁).pushCell (arrV c2 N (fun _ => .null))) B c1 c2 N M k).slotsUsed + M ≤ e.platform.maxSlots ∧ (gdS ((T.setVm vm₁).pushCell (arrV c2 N (fun _ => .null))) B c1 c2 N M k).heap[B]? = some (gdO c2 N B k) ∧ (gdS ((T.setVm vm₁).pushCell (arrV c2 N (fun _ => .null))) B c1 c2 N M k).heap.size = B + 1 + k ∧ (gdS ((T.setVm vm₁).pushCell (arrV c2 N (fun _ => .null))) B c1 c2 N M k).vm = vm₁)
    (hsN : (gdS ((T.setVm vm₁).pushCell (arrV c2 N (fun _ => .null))) B c1 c2 N M N).topJava?.isSome)
    (hq : ∀ acts', Q () true acts' ((gdS ((T.setVm vm₁).pushCell (arrV c2 N (fun _ => .null))) B c1 c2 N M N).setTop { f with stack := .ref B :: rest })) : wp (Jvm.Op.multianewarray.sem index 2) Q E e d acts (T.setTop f) := by
  simp only [Jvm.Op.multianewarray.sem, wp_bind']
  rw [Jvm.W.resolveClassAt_transfer (s := T.setTop f) (State.method?_setTop f hs) hgv hrd hsz]
  rw [Jvm.W.resolveClassAt_ready (s := (T.setTop f).setVm vm₁) (State.method?_setTop f hs) hrd]
  simp only [wp_bind']
  refine (Jvm.Op.popN_top (s := T.setVm vm₁) (f := f) (args := [.int a, .int b]) (rest := rest) hs (by rw [hstack]; rfl)).mpr ?_
  simp only [List.mapM_cons, List.mapM_nil, wp_bind', wp_pure']
  refine gd_make2 (T0 := T.setVm vm₁) (fr := { f with stack := rest }) hB hN hM ha hb ha0 hk2 hkind2 hk1 hkind1 hlN hhN hlM hhM h1 h2 hst (fun d' acts' => ?_)
  (try dsimp only)
  simp only [wp_bind', Jvm.W.mark, Jvm.W.pushRef, State.topJava?_setTop' _ hsN, Option.some.injEq, exists_eq_left', State.setTop_setTop]
  exact hq _
end MUS
section MUL
variable {p : Program} {l : Launch} {e : Env} {R : Room} {s : State} {m : MethodId} {args : Array Value} {below : List Frame} {meth : Method} {c : Code} {H : Heap} {locs : List Loc} {cells slots : Nat} {Q : State → Prop}
variable {cc : ByteArray} {pc : Nat} {ls : Array Slot} {rest : List Value} {g : va_G} {cs : Nat → ClassId} {A : Nat → Prop} {ws : va_W} {H0 : Heap}
set_option maxHeartbeats 2000000 in
theorem g_newG (hexec : p.tables.exec = Jvm.exec) (hb : c.code = cc) {own : String} {index : Nat} (hown : s.vm.findClass own = some m.cls) (hcl : (Cond.classLink own index "[[I").before args s = true) (hover : va_Nw (.arrayOver (.array .int)) s) (hK : va_K g classes (gtys cs) s) (hP : va_P g classes ws H) (hD : va_D A ws) (hS : va_S A H0 H locs) (hA : ∀ q, H0.size ≤ q → A q)
    {a b : Int32} (N M : Nat) (ha : ¬ a < 0) (hb' : ¬ b < 0) (ha0 : (a == 0) = false) (hN : a.toNatClampNeg = N) (hM : b.toNatClampNeg = M) (hbN : N * 4 ≤ 536870912) (hbM : M * 4 ≤ 536870912) (hcells : cells + 1 + N ≤ R.cells) (hslots : slots + N + N * M ≤ R.slots) (hdg : decode cc pc = .ok (.multianewarray index 2, 4))
    (kk : ∀ (q : Nat) (ad : Nat → Nat) (H1 : Heap) (locs1 : List Loc), va_P g classes ((ws ++ [(q, .inl (cs 5, N, .inr (.inr (.inr (.inr (pg ad N))))))]) ++ po ad (eg (cs 0) M (fun _ _ => 0)) N) H1 → va_D A ((ws ++ [(q, .inl (cs 5, N, .inr (.inr (.inr (.inr (pg ad N))))))]) ++ po ad (eg (cs 0) M (fun _ _ => 0)) N) → va_S A H0 H1 locs1 →
      W p l e R s m args below meth c H1 locs1 (cells + 1 + N) (slots + N + N * M) Q (F0 m (pc + 4) ls (.ref q :: rest))) : W p l e R s m args below meth c H locs cells slots Q (F0 m pc ls (.int b :: .int a :: rest)) := by
  intro T hT X
  have hpl : e.platform.magicAccessors = ({} : Platform).magicAccessors := by rw [X.admits.platform]
  obtain ⟨c2, hc2, hl⟩ := Cond.classLink_spec hown hcl e.platform hpl
  obtain ⟨c1, c2', k2, f1, -, f3, f4, f5⟩ := ao_spec (args := #[]) hover
  have e1 : (FieldType.array .int).toString = "[I" := by decide +kernel
  have e2 : "[" ++ (FieldType.array .int).toString = "[[I" := by decide +kernel
  rw [e1] at f1
  rw [e2] at f5
  have h5 : s.vm.findClass "[[I" = some (cs 5) := by rw [← e2]; exact (hK.2 5 _ rfl).2
  cases f1.symm.trans (va_nm_int (hK.2 0 _ rfl).2)
  cases f5.symm.trans h5
  cases hc2.symm.trans h5
  obtain ⟨-, k1, hk1, comp, hkind1⟩ := (hK.2 0 _ rfl).1 0 (fun _ => .null)
  obtain ⟨hg₁, hwarm₁, hready₁⟩ := State.classEntry (e := e) X.warmed hl
  have hsz : (T.vm.noted m.cls index (.cls (cs 5))).classes.size ≤ T.vm.classes.size := by rw [Vm.size_noted]; exact Nat.le_refl _
  generalize T.vm.noted m.cls index (.cls (cs 5)) = vm₁ at hg₁ hwarm₁ hready₁ hsz
  have hal : s.vm.Alike vm₁ := hwarm₁.alike
  obtain ⟨k2', hk2', he2⟩ := hal.2.2 _ _ f3
  obtain ⟨k1', hk1', he1⟩ := hal.2.2 _ _ hk1
  have hkind2' : k2'.kind = .array (cs 0) (.array .int) := by rw [he2]; exact f4
  have hkind1' : k1'.kind = .array comp .int := by rw [he1]; exact hkind1
  have hlN : ¬ N > e.platform.arrayLengthLimit := by rw [Launch.admits_arrayLengthLimit X.admits]; omega
  have hlM : ¬ M > e.platform.arrayLengthLimit := by rw [Launch.admits_arrayLengthLimit X.admits]; omega
  have hhN : ¬ N * componentBytes (.array .int) > e.platform.maxHeapBytes := by rw [Launch.admits_maxHeapBytes X.admits]; show ¬ N * 4 > 536870912; omega
  have hhM : ¬ M * componentBytes .int > e.platform.maxHeapBytes := by rw [Launch.admits_maxHeapBytes X.admits]; show ¬ M * 4 > 536870912; omega
  have X₂ := (X.noted hwarm₁).pushed (arrV (cs 5) N (fun _ => .null))
  rw [arrV_size] at X₂
  obtain ⟨r1, r2⟩ := X.roomAbove (show cells + 1 ≤ R.cells by omega) (show slots + N ≤ R.slots by omega)
  have hzT : T.heap.size = H.size := by rw [hT]
  have z1 : ((T.setVm vm₁).pushCell (arrV (cs 5) N (fun _ => .null))).heap.size = H.size + 1 := by
    show (T.heap.push _).size = _
    rw [Array.size_push, hT]
  have o1 : ∀ q : Nat, q < H.size → ((T.setVm vm₁).pushCell (arrV (cs 5) N (fun _ => .null))).heap[q]? = H[q]? := fun q hq => by
    show (T.heap.push _)[q]? = _
    rw [Array.getElem?_push, if_neg (Nat.ne_of_lt (by rw [hT]; exact hq)), hT]
  have hPn : va_P g classes (ws ++ [(H.size, .inl (cs 5, N, .inr (.inr (.inr (.inr (pg (fun i => H.size + 1 + i) 0))))))]) ((T.setVm vm₁).pushCell (arrV (cs 5) N (fun _ => .null))).heap := by
    refine va_P.app (hP.kept (fun i x hx => o1 x.1 ((hP i x hx).lt))) (fun i x hx => ?_)
    have hi : i < 1 := (List.getElem?_eq_some_iff.mp hx).1
    rw [show i = 0 by omega] at hx
    cases hx
    show (T.heap.push _)[H.size]? = some (vp_cell _ _)
    rw [← hzT, Array.getElem?_push_size, pg_0]
    rfl
  have hDn : va_D A (ws ++ [(H.size, .inl (cs 5, N, .inr (.inr (.inr (.inr (pg (fun i => H.size + 1 + i) 0))))))]) := hD.push hP rfl (hA _ hS.1)
  have hw0 : List.Perm (α := Nat × va_E) (ws ++ [(H.size, .inl (cs 5, N, .inr (.inr (.inr (.inr (pg (fun i => H.size + 1 + i) 0))))))]) (gdW ws H.size (cs 0) (cs 5) N M 0) := by
    unfold gdW
    rw [show po (fun i => H.size + 1 + i) (eg (cs 0) M (fun _ _ => 0)) 0 = [] from rfl, List.append_nil]
    exact List.perm_append_comm
  have hSn : va_S A H0 ((T.setVm vm₁).pushCell (arrV (cs 5) N (fun _ => .null))).heap locs := ⟨by rw [z1]; exact Nat.le_succ_of_le hS.1, fun q h1 h2 => (o1 q (Nat.lt_of_lt_of_le h1 hS.1)).trans (hS.2.1 q h1 h2), hS.2.2⟩
  have F := gd_facts hA X₂ z1 (pm_P hw0 hPn) (pm_D hw0 hDn) hSn
  obtain ⟨lN, XN, zN, -, hPN, hDN, hSN⟩ := F N (Nat.le_refl _)
  have hwN : (gdW ws H.size (cs 0) (cs 5) N M N).Perm ((ws ++ [(H.size, .inl (cs 5, N, .inr (.inr (.inr (.inr (pg (fun i => H.size + 1 + i) N))))))]) ++ po (fun i => H.size + 1 + i) (eg (cs 0) M (fun _ _ => 0)) N) := by
    unfold gdW
    rw [← List.append_assoc]
    exact List.Perm.append_right _ List.perm_append_comm
  obtain ⟨t, a1, b1⟩ := kk H.size (fun i => H.size + 1 + i) _ lN (pm_P hwN hPN) (pm_D hwN hDN) hSN _ rfl XN
  refine ⟨t, ?_, b1⟩
  have hdg' : decode c.code pc = .ok (.multianewarray index 2, 4) := by rw [hb]; exact hdg
  jvm_step X.here [hexec, hdg']
  refine gd_sem (T := T) (f := F0 m pc ls (.int b :: .int a :: rest)) (vm₁ := vm₁) (rest := rest) (B := H.size) (N := N) (M := M) X.here.top hg₁ hready₁ hsz rfl hzT hN hM ha hb' ha0 hk2' hkind2' hk1' hkind1' hlN hhN hlM hhM (by omega) r2 (fun k hk => ?_) XN.here.top ?_
  · obtain ⟨lk, Xk, zk, vk, hPk, -, -⟩ := F k (Nat.le_of_lt hk)
    have hkM : k * M + M ≤ N * M := by rw [← Nat.succ_mul]; exact Nat.mul_le_mul_right M hk
    obtain ⟨q1, q2⟩ := Xk.roomAbove (show cells + 1 + k + 1 ≤ R.cells by omega) (show slots + N + k * M + M ≤ R.slots by omega)
    exact ⟨by omega, q2, hPk 0 _ rfl, zk, vk⟩
  · intro acts acts2
    rw [afterInstr_ok]
    exact a1
end MUL
