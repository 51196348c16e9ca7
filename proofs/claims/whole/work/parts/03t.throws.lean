/-- how an invocation ends, by return or by throw: tables warmer, nothing moved but L and what is new -/
def tx_E (first t : State) (L : List Loc) (k n : Nat) : Prop := first.WarmedH t.vm ∧ first.sameButNew ({ t with vm := first.vm } : State) L k n
/-- a contract of a method that may throw -/
def tx_Met (l : Launch) (y : MethodName) (ws : List Cond) (rm : Room) (Pc : Array Value → State → Prop) (Qc : Array Value → State → Outcome → State → Prop) (mc ms : Nat) (free : Addr → Prop) : Prop :=
  MetFree l y (headSpec ws rm) Pc (fun _ _ _ _ _ => True) (fun a st o t => Qc a st o t ∧ ∃ L, tx_E st t L mc ms ∧ ∀ q ∈ L, free q.base)
def tx_MQ (below : List Frame) (Qc : Array Value → State → Outcome → State → Prop) (a : Array Value) (s : State) (mc ms : Nat) (free : Addr → Prop) : State → Prop := fun t =>
  ∃ o, t.status = .running ∧ Ended t below o ∧ Qc a s o t ∧ ∃ L, tx_E s t L mc ms ∧ ∀ q ∈ L, free q.base
theorem tx_of {l : Launch} {y : MethodName} {ws : List Cond} {rm : Room} {Pc : Array Value → State → Prop} {Qc : Array Value → State → Outcome → State → Prop} {mc ms : Nat} {free : Addr → Prop} (h : Met l y ws rm Pc Qc mc ms free) : tx_Met l y ws rm Pc Qc mc ms free := by
  intro p e ha hc hk s m args below hf happ hP hK
  obtain ⟨n, o, h1, h2, h3, hq, L, hF, hL⟩ := h p e ha hc hk s m args below hf happ hP hK
  exact ⟨n, o, h1, h2, h3, hq, L, ⟨hF.2.1, hF.2.2⟩, hL⟩
theorem tx_ofW {l : Launch} {y : MethodName} {ws ws' : List Cond} {rm : Room} {Pc : Array Value → State → Prop} {Qc : Array Value → State → Outcome → State → Prop} {mc ms : Nat} {free : Addr → Prop} {cc : ByteArray} {maxL : Nat} {ret : Option FieldType}
    (hy : plainName y.cls = true) (hw : ws = Cond.code y cc maxL ret :: ws')
    (body : ∀ p e s m args below meth c s₁, BodyLoose p l y (headSpec ws rm) cc maxL ret e s m args below meth c s₁ → c.maxLocals = maxL → Pc args s →
      W p l e (headSpec ws rm).room s m args below meth c s.heap [] 0 0 (tx_MQ below Qc args s mc ms free) (entryFrame m args maxL)) : tx_Met l y ws rm Pc Qc mc ms free := by
  refine MetFree.of_bodyS (code := cc) (maxLocals := maxL) (ret := ret) hy ?_ ?_
  · intro args s m h hn
    obtain ⟨meth, c, h1, h2, h3, h4, h5, h6, -, -⟩ := Cond.code_spec hn (atoms_spec (ws := ws) h _ (by rw [hw]; exact List.mem_cons_self))
    exact ⟨meth, c, h1, h2, h3, h4, h5, h6⟩
  · intro p e s m args below meth c s₁ B hml hP _
    have hh0 : s₁.heap = s.heap := by rw [B.state]; rfl
    obtain ⟨t, a1, o, b1, b2, b3⟩ := body p e s m args below meth c s₁ B hml hP s₁ hh0 (Stand.of_body B)
    exact ⟨t, o, a1, b1, b2, b3⟩
section TX1
variable {p : Program} {l : Launch} {e : Env} {R : Room} {s : State} {m : MethodId} {args : Array Value} {below : List Frame} {meth : Method} {c : Code} {H : Heap} {locs : List Loc} {cells slots : Nat} {Q : State → Prop} {cc : ByteArray} {pc : Nat} {ls : Array Slot} {rest : List Value}
theorem tx_mono {Q' : State → Prop} {g : JFrame} (h : ∀ t, Q t → Q' t) (k : W p l e R s m args below meth c H locs cells slots Q g) : W p l e R s m args below meth c H locs cells slots Q' g := fun T hT X => by
  obtain ⟨t, a, b⟩ := k T hT X
  exact ⟨t, a, h t b⟩
/-- a return, in a method that may throw -/
theorem tx_ret {Qc : Array Value → State → Outcome → State → Prop} {mc ms : Nat} {free : Addr → Prop} {g : JFrame} (k : W p l e R s m args below meth c H locs cells slots (MQ below Qc args s mc ms free) g) : W p l e R s m args below meth c H locs cells slots (tx_MQ below Qc args s mc ms free) g :=
  tx_mono (fun t h => by obtain ⟨o, h1, h2, h3, L, hF, hL⟩ := h; exact ⟨o, h1, h2, h3, L, ⟨hF.2.1, hF.2.2⟩, hL⟩) k
/-- athrow, where no handler covers it -/
theorem tx_athrow {Qc : Array Value → State → Outcome → State → Prop} {free : Addr → Prop} {a : Addr} (hexec : p.tables.exec = Jvm.exec) (hb : c.code = cc) (hlocks : meth.locks = false) (hout : ∀ x ∈ c.exceptionTable.toList, covers x pc = false)
    (hq : ∀ t : State, t.heap = H → s.WarmedH t.vm → Qc args s (.threw a) t) (hf : ∀ q ∈ locs, free q.base) (hdg : decode cc pc = .ok (.athrow, 1)) : W p l e R s m args below meth c H locs cells slots (tx_MQ below Qc args s cells slots free) (F0 m pc ls (.ref a :: rest)) := by
  intro T hT X
  obtain ⟨h1, h2, h3, h4, h5⟩ := X.athrowLeaves hexec (g := F0 m pc ls (.ref a :: rest)) rfl rfl rfl hout (a := a) (rest := rest) rfl (by rw [hb]; exact hdg) hlocks
  exact ⟨_, h1, .threw a, h2, h3, hq _ hT h4, locs, ⟨h4, h5⟩, hf⟩
end TX1
/-- a word of the tables of one of the kinds that a method's start gives -/
def tx_isS (w : Cond) : Bool := decide (w = .laysStatic "java/lang/Throwable" "UNASSIGNED_STACK" "[Ljava/lang/StackTraceElement;") || decide (w = .laysStatic "java/lang/Throwable" "SUPPRESSED_SENTINEL" "Ljava/util/List;")
theorem KLS.lays {C n d : String} {A : Nat → Prop} {s : State} {args : Array Value} (h : KLS C n d A s s.heap) : (Cond.laysStatic C n d).before args s = true := by
  obtain ⟨c, k, i, f, a, cell, v, h0, h1, h2, h3, h4, h5, h6, h7, h8, -⟩ := h
  exact Cond.laysStatic_of h0 h1 h2 h3 h5 h6 h7 h8 h4
theorem tx_before {L : List Cond} {ka : Nat → Nat} {A : Nat → Prop} {s : State} {args : Array Value} (hL : L.all (fun w => decide (w ∈ tables_1) && (goodWord w || ((isNest w && w.onTables) || tx_isS w))) = true) (hg : ∀ w ∈ GW, w.before args s = true) (hgl : gl s) (hkn : KN ka A s s.heap) : ∀ w ∈ L, w.before args s = true := fun w hw => by
  have h := List.all_eq_true.mp hL w hw
  simp only [Bool.and_eq_true, Bool.or_eq_true, decide_eq_true_eq] at h
  obtain ⟨h1, h2 | h2 | h2⟩ := h
  · exact hg w (gw_tb h1 h2)
  · exact va_Nw.use h2.2 (hgl w (nwl_in h1 h2.1))
  · simp only [tx_isS, Bool.or_eq_true, decide_eq_true_eq] at h2
    rcases h2 with h2 | h2 <;> subst h2
    · exact hkn.2.2.2.2.2.2.1.lays
    · exact hkn.2.2.2.2.2.2.2.lays
/-- what the constructor of an exception of class X asks of the tables -/
def tx_at (own : String) (ic : Nat) (X : String) : List Cond := Bundle.throwableAtoms ++ Bundle.chain0Atoms X ["java/lang/RuntimeException", "java/lang/Exception"] ++
  [.methodLink own ic (Bundle.init0 X), .instantiable X 6, .castable X X, .selects X Bundle.tFill0 Bundle.tFill0, .selects X Bundle.tFill Bundle.tFill,
   .lays X Bundle.tN "cause" "Ljava/lang/Throwable;", .lays X Bundle.tN "stackTrace" Bundle.steD, .lays X Bundle.tN "suppressedExceptions" Bundle.listD, .lays X Bundle.tN "detailMessage" "Ljava/lang/String;",
   .fieldLink Bundle.tN 198 Bundle.tN "backtrace" "Ljava/lang/Object;", .lays Bundle.tN Bundle.tN "backtrace" "Ljava/lang/Object;", .lays X Bundle.tN "backtrace" "Ljava/lang/Object;"]
section TX2
variable {p : Program} {l : Launch} {e : Env} {R : Room} {s : State} {m : MethodId} {args : Array Value} {below : List Frame} {meth : Method} {c : Code} {H : Heap} {locs : List Loc} {cells slots : Nat} {Q : State → Prop} {cc : ByteArray} {pc : Nat} {ls : Array Slot} {rest : List Value} {A : Nat → Prop} {ka : Nat → Nat}
set_option maxHeartbeats 4000000 in
/-- the constructor of a new exception, without a message, where the launch keeps no stack traces -/
theorem tx_init0 (hexec : p.tables.exec = Jvm.exec) (hb : c.code = cc) (hfl : l.flags = pinnedFlags ++ [noTraceFlag]) {own X : String} {ic : Nat} (hown : s.vm.findClass own = some m.cls) (hX : Bundle.fit X = true)
    (h : ∀ w ∈ tx_at own ic X, w.before args s = true) (hkn : KN ka A s s.heap) (hS : va_S A s.heap H locs)
    {a : Addr} {cX : ClassId} {kX : Class} (hfoundX : s.vm.findClass X = some cX) (hkX : s.vm.classes[cX]? = some kX) (hcell : H[a]? = some (blank cX kX)) (hnew : s.heap.size ≤ a) (hsize : ls.size = c.maxLocals) (hd : decode cc pc = .ok (.invokespecial ic, 3))
    (hRf : 5 < R.frames) (hRl : ((Value.ref a :: rest).map fun v => v.category).sum + 80 ≤ R.locals)
    (kk : ∀ (H1 : Heap) (ce : Cell), H1.size = H.size → (∀ q, q ≠ a → H1[q]? = H[q]?) → H1[a]? = some ce → ce.cls = cX → ce.vm.isStatics = false → ce.vm ≠ .unknown → ce.vm = .none →
      W p l e R s m args below meth c H1 locs cells slots Q (F0 m (pc + 3) ls (.ref a :: rest))) : W p l e R s m args below meth c H locs cells slots Q (F0 m pc ls (.ref a :: .ref a :: rest)) := by
  intro T hT St
  subst hb
  have htr : e.platform.stackTraces = false := Launch.traces_off hfl St.admits
  have howns : e.platform.frameOwnsMonitors = true := by rw [St.admits.platform]
  have hfin : e.platform.finalization = false := by rw [St.admits.platform]
  have hpl : e.platform.magicAccessors = ({} : Platform).magicAccessors := by rw [St.admits.platform]
  have hin : ∀ w, w ∈ tx_at own ic X → w.holds args s none s [] = true := fun w hw => h w hw
  obtain ⟨Th, Z, L, LZ, Y⟩ := ThrowableC.of_atoms (args := args) howns hfin hpl (fun w hw => h w (by simp [tx_at, hw]))
  obtain ⟨P1, Ps, hlen, L1, hL, hP1m, hlink1, hlink⟩ := Bundle.chain0 (args := args) hpl Y.init0 ["java/lang/RuntimeException", "java/lang/Exception"] X hX (by decide) (fun w hw => h w (by simp [tx_at, hw]))
  have hfound : s.vm.findClass X = some P1.m.cls := findClass_of_methodNamed hP1m
  cases Option.some.inj (hfoundX.symm.trans hfound)
  obtain ⟨c1, kX', hc1, hk, hord, -, -, hn6⟩ := Cond.instantiable_spec (hin (.instantiable X 6) (by simp [tx_at]))
  cases Option.some.inj (hc1.symm.trans hfound)
  cases Option.some.inj (hkX.symm.trans hk)
  have hsel0 : selectMethod e.platform s.vm P1.m.cls Th.fill0 = .method Th.fill0 := by
    obtain ⟨c2, r2, m2, q1, q2, q3, q4, -⟩ := Cond.selects_spec (hin (.selects X Bundle.tFill0 Bundle.tFill0) (by simp [tx_at]))
    cases Option.some.inj (q1.symm.trans hfound)
    cases Option.some.inj (q2.symm.trans (State.methodFound?_of_named Y.fill0 (by decide)))
    cases Option.some.inj (q3.symm.trans Y.fill0)
    rw [Launch.admits_selectMethod St.admits]; exact q4
  have hselF : selectMethod e.platform s.vm P1.m.cls Th.fill = .method Th.fill := by
    obtain ⟨c2, r2, m2, q1, q2, q3, q4, -⟩ := Cond.selects_spec (hin (.selects X Bundle.tFill Bundle.tFill) (by simp [tx_at]))
    cases Option.some.inj (q1.symm.trans hfound)
    cases Option.some.inj (q2.symm.trans (State.methodFound?_of_named Y.fill (by decide)))
    cases Option.some.inj (q3.symm.trans Y.fill)
    rw [Launch.admits_selectMethod St.admits]; exact q4
  obtain ⟨cu, ku, iu, fu, au, cellU, vu, u0, u1, u2, u3, u4, u5, u6, u7, u8, u9, u10, u11⟩ := hkn.2.2.2.2.2.2.1
  obtain ⟨cv, kv, iv, fv, av, cellV, vv, w0, w1, w2, w3, w4, w5, w6, w7, w8, w9, w10, w11⟩ := hkn.2.2.2.2.2.2.2
  cases Option.some.inj (u1.symm.trans Y.unassigned)
  cases Option.some.inj (w1.symm.trans Y.sentinel)
  cases Option.some.inj (u3.symm.trans L.statics)
  cases Option.some.inj (w3.symm.trans L.statics)
  cases Option.some.inj (u5.symm.trans w5)
  have hcellS : T.heap[Th.aS]? = some cellU := by rw [hT, hS.2.1 _ (Array.getElem?_eq_some_iff.mp u5).1 u11]; exact u5
  have hneS : Th.aS ≠ a := Nat.ne_of_lt (Nat.lt_of_lt_of_le (Array.getElem?_eq_some_iff.mp u5).1 hnew)
  have hknownS : cellU.vm ≠ .unknown := fun q => by rw [q] at u6; cases u6
  obtain ⟨ci198, i198, fB, hk198, hg198, ha198, hsB, -, hnB, htB, hffB⟩ := Cond.ownField (t := .object "java/lang/Object") Y.found L.cls (by decide +kernel) (hin (.fieldLink Bundle.tN 198 Bundle.tN "backtrace" "Ljava/lang/Object;") (by simp [tx_at])) (hin (.lays Bundle.tN Bundle.tN "backtrace" "Ljava/lang/Object;") (by simp [tx_at])) e.platform hpl
  obtain ⟨tyC, dC, hdC, hdnC⟩ := Cond.laysAt hfound hk Y.cause (hin (.lays X Bundle.tN "cause" "Ljava/lang/Throwable;") (by simp [tx_at]))
  obtain ⟨tyS, dS, hdS, hdnS⟩ := Cond.laysAt hfound hk Y.stack (hin (.lays X Bundle.tN "stackTrace" Bundle.steD) (by simp [tx_at]))
  obtain ⟨tyP, dP, hdP, hdnP⟩ := Cond.laysAt hfound hk Y.supp (hin (.lays X Bundle.tN "suppressedExceptions" Bundle.listD) (by simp [tx_at]))
  obtain ⟨tyB, dB, hdB, hdnB⟩ := Cond.laysAt hfound hk hffB (hin (.lays X Bundle.tN "backtrace" "Ljava/lang/Object;") (by simp [tx_at]))
  have bC := Cond.laysApart hdB hdC hdnB hdnC (by rw [hnB, Y.causeName]; decide)
  have bS := Cond.laysApart hdB hdS hdnB hdnS (by rw [hnB, Y.stackName]; decide)
  have bP := Cond.laysApart hdB hdP hdnB hdnP (by rw [hnB, Y.suppName]; decide)
  have hfresh : freshCell P1.m.cls kX = blank P1.m.cls kX := rfl
  have hskip : SkipFacts Th e.platform s (fun u => u) ⟨vu, u10⟩ ((preparedCellV Th.toThrowableT (freshCell P1.m.cls kX) a ⟨vu, u10⟩ ⟨vv, w10⟩).withEntry T.cur) :=
    ⟨{ ci198 := ci198, i198 := i198, fBack := fB }, ⟨hk198, hg198, ha198, hsB⟩, by
      have := fresh_default (c := P1.m.cls) tyB
      rw [htB] at this
      simpa [preparedCellV, Cell.setSlot, Cell.withEntry, Array.getElem?_setIfInBounds, bC, bS, bP, bC.symm, bS.symm, bP.symm, defaultValue] using this, fun _ _ => rfl⟩
  obtain ⟨tm, methC, cdC, kC, vm₁, hnC, -, -, -, -, -, -, -, hW₁, st1⟩ := Steps.initCold (tb := p.tables) (e := e) (below := below) (s := s) (U := T) St.here hexec St.warmed hpl hown (t := Bundle.init0 X) rfl rfl (Bundle.fit_spec hX).2
    (hin (.methodLink own ic (Bundle.init0 X)) (by simp [tx_at])) (h (.instanceMethod (Bundle.init0 X)) (by simp [tx_at, Bundle.chain0Atoms, Bundle.passAtoms])) (bytes := Bundle.five) (maxL := 1) (h (.code (Bundle.init0 X) Bundle.five 1 none) (by simp [tx_at, Bundle.chain0Atoms, Bundle.passAtoms]))
    (f := F0 m pc ls (.ref a :: .ref a :: rest)) rfl (a := a) (rest := .ref a :: rest) rfl hd
  cases Option.some.inj (hnC.symm.trans hP1m)
  have X₁ := St.noted hW₁
  obtain ⟨vm₂, X₂, st2⟩ := X₁.ctorPlainOffV hexec (g := F0 m pc ls (.ref a :: rest)) rfl hsize Th L Z LZ (P1 :: Ps)
    (fun P hP => by rcases List.mem_cons.mp hP with rfl | hP; exact L1; exact hL P hP) ⟨hlink1, hlink⟩ (u0 := ⟨vu, u10⟩) (sen := ⟨vv, w10⟩) (self := a) (cell := freshCell P1.m.cls kX) (cellS := cellU)
    (by show T.heap[a]? = _; rw [hT]; exact hcell) (fun _ => by simp) (by simp) rfl rfl hsel0 hselF hcellS hneS hknownS u9 w9
    (Takes.of_laid hk hord tyC (by rw [Y.causeType]; rfl)) (Takes.of_laid hk hord tyS (by rw [Y.stackType]; exact fits_refV_array _ ⟨vu, u10⟩)) (Takes.of_laid hk hord tyP (by rw [Y.suppType]; exact fits_refV_object _ ⟨vv, w10⟩)) Y.objLocals hskip htr [] hd
    (by simp only [List.length_cons, hlen]; exact hRf) (by simp only [List.length_cons, hlen]; show 2 * 0 + _ + (13 * (2 + 1) + 41) ≤ _; simp only [List.map_cons, List.sum_cons] at hRl ⊢; omega)
  have hlt : a < T.heap.size := by rw [hT]; exact (Array.getElem?_eq_some_iff.mp hcell).1
  obtain ⟨t, a1, b1⟩ := kk ((((T.setVm vm₁).setVm vm₂).setCell a ((preparedCellV Th.toThrowableT (freshCell P1.m.cls kX) a ⟨vu, u10⟩ ⟨vv, w10⟩).setSlot Th.fStack.slot vu)).heap) _ (by rw [← hT]; exact size_setCell _ _ _)
    (fun q hq => by rw [← hT]; simp [State.setCell, Array.getElem?_setIfInBounds, Ne.symm hq])
    (heapAt_setCell_self (s := (T.setVm vm₁).setVm vm₂) _ hlt) rfl rfl (by simp [preparedCellV, Cell.setSlot]) rfl _ rfl
    (Stand.forget X₂ (fun y hy => by
      have hb : y.base = a := by
        simp only [List.mem_cons, List.not_mem_nil, or_false] at hy
        rcases hy with rfl | rfl | rfl | rfl <;> rfl
      rw [hb]; exact hnew))
  exact ⟨t, st1 _ (fun acts => by rw [doInvoke_state]; exact st2 _ a1), b1⟩
end TX2
