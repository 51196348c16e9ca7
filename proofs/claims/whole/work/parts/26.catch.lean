/-- the rows of a table of handlers, read in order, for an exception of class th at pc: the row that takes it leads to h; rows before it don't cover the pc, or name a class that th is not of -/
def cw_tab (s : State) (pl : Platform) (d th : ClassId) (pc h : Nat) : List (Nat × Nat × Nat × Nat) → Prop
  | [] => False
  | x :: t => (¬ (x.1 ≤ pc ∧ pc < x.2.1) ∧ cw_tab s pl d th pc h t) ∨
    ((x.1 ≤ pc ∧ pc < x.2.1) ∧ x.2.2.2 ≠ 0 ∧ ∃ k, s.vm.ClassLinks pl d x.2.2.2 k ∧ ((s.vm.assignable th k = true ∧ x.2.2.1 = h) ∨ (s.vm.assignable th k = false ∧ cw_tab s pl d th pc h t)))
def cw_row (x : ExceptionTableEntry) : Nat × Nat × Nat × Nat := (x.startPc, x.endPc, x.handlerPc, x.catchType)
/-- one row that covers the pc, its class met before or not -/
theorem cw_step {Q : Handler → Pre} {E : CtlPost} {e : Env} {d : Bool} {acts : List Action} {S : State} {f : JFrame} {a : Addr} {x : ExceptionTableEntry} {t : List ExceptionTableEntry} {k : ClassId} {cell : Cell} (hx : covers x f.pc = true) (h0 : x.catchType ≠ 0)
    (hl : S.vm.ClassLinks e.platform f.method.cls x.catchType k) (hcell : S.heap[a]? = some cell) (hobj : ∀ j, cell.vm ≠ .statics j) {j1 j2 : Class} (h1 : S.vm.classes[cell.cls]? = some j1) (h2 : S.vm.classes[k]? = some j2) :
    wp (findHandler.go f a (x :: t)) Q E e d acts S ↔ if S.vm.assignable cell.cls k = true then Q (.found x.handlerPc) d acts (S.setVm (S.vm.noted f.method.cls x.catchType (.cls k))) else wp (findHandler.go f a t) Q E e d acts (S.setVm (S.vm.noted f.method.cls x.catchType (.cls k))) := by
  have hx' : (decide (x.startPc ≤ f.pc) && decide (f.pc < x.endPc)) = true := hx
  obtain ⟨ha, ht⟩ := (resolveClass_links e.toSetting hl).op (op := VmOp.resolveClass f.method.cls x.catchType) rfl
  have hal : S.vm.Alike (S.vm.noted f.method.cls x.catchType (.cls k)) := (Vm.Alike.refl S.vm).noted _ _ _
  obtain ⟨i1, g1, -⟩ := hal.2.2 _ _ h1
  obtain ⟨i2, g2, -⟩ := hal.2.2 _ _ h2
  have has : (S.vm.noted f.method.cls x.catchType (.cls k)).assignable cell.cls k = S.vm.assignable cell.cls k := hal.assignable _ _
  cases hfit : S.vm.assignable cell.cls k <;> rw [hfit] at has <;> simp only [covers] at hx <;>
    simp [findHandler.go, hx, h0, ha, ht, hcell, hobj, g1, g2, has, VmOp.dirties, VmOp.acts]
theorem cw_run {e : Env} {s : State} {f : JFrame} {a : Addr} {cell : Cell} {h : Nat} (hobj : ∀ j, cell.vm ≠ .statics j) {k0 : Class} (hk0 : s.vm.classes[cell.cls]? = some k0) : ∀ (t : List ExceptionTableEntry) (S : State), cw_tab s e.platform f.method.cls cell.cls f.pc h (t.map cw_row) → s.WarmedH S.vm → S.heap[a]? = some cell →
    ∃ vm', s.WarmedH vm' ∧ ∀ (Q : Handler → Pre) (E : CtlPost) (d : Bool) (acts : List Action), wp (findHandler.go f a t) Q E e d acts S ↔ Q (.found h) d acts (S.setVm vm') := by
  intro t
  induction t with
  | nil => intro S ht; exact ht.elim
  | cons x t ih =>
    intro S ht hW hcell
    rw [List.map_cons] at ht
    rcases ht with ⟨hx, ht⟩ | ⟨hx, h0, k, hl, hh⟩
    · have hx' : covers x f.pc = false := by
        cases hc : covers x f.pc with
        | false => rfl
        | true =>
          simp only [covers, Bool.and_eq_true, decide_eq_true_eq] at hc
          exact absurd hc hx
      obtain ⟨vm', hW', hq⟩ := ih S ht hW hcell
      exact ⟨vm', hW', fun Q E d acts => (Jvm.W.findHandler_go_skip hx').trans (hq Q E d acts)⟩
    · have hx' : covers x f.pc = true := by
        simp only [covers, Bool.and_eq_true, decide_eq_true_eq]
        exact hx
      obtain ⟨dk, -, -, kt, hd, -, -, -, -, hkt, -, hopen⟩ := hl.here
      obtain ⟨k1, hk1, -⟩ := hW.alike.2.2 _ _ hk0
      obtain ⟨k2, hk2, -⟩ := hW.alike.2.2 _ _ hkt
      have hWn := hW.noted hd hopen (State.rightAt_cls hl)
      have step := fun (Q : Handler → Pre) (E : CtlPost) (d : Bool) (acts : List Action) => cw_step (t := t) (Q := Q) (E := E) (d := d) (acts := acts) hx' h0 (hW.classLinks hl) hcell hobj hk1 hk2
      have has : S.vm.assignable cell.cls k = s.vm.assignable cell.cls k := hW.alike.assignable _ _
      rcases hh with ⟨hfit, hpc⟩ | ⟨hno, ht⟩
      · refine ⟨_, hWn, fun Q E d acts => ?_⟩
        rw [step Q E d acts, if_pos (has.trans hfit)]
        rw [show x.handlerPc = h from hpc]
        rfl
      · obtain ⟨vm', hW', hq⟩ := ih (S.setVm (S.vm.noted f.method.cls x.catchType (.cls k))) ht hWn hcell
        refine ⟨vm', hW', fun Q E d acts => ?_⟩
        rw [step Q E d acts, if_neg (by rw [has, hno]; decide)]
        exact hq Q E d acts
theorem cw_go {e : Env} {S : State} {a : Addr} {f : JFrame} {r : List Frame} {h : Nat} {vm' : Vm} (hf : ∀ (Q : Handler → Pre) (E : CtlPost) (d : Bool) (acts : List Action), wp (findHandler f a) Q E e d acts S ↔ Q (.found h) d acts (S.setVm vm')) :
    (stepThrowing e S a (.java f :: r)).Is ((S.setVm vm').setFrames (.java { f with pc := h, stack := [.ref a] } :: r)) [] := by
  simp only [stepThrowing, searchFrame, vmDo]
  generalize hr : Sem.go _ e false [] S = res
  obtain ⟨as, rfl, ha⟩ := Sem.eq_ok_of hr (a := Handler.found h) (s' := S.setVm vm') (acts' := []) (by simp [hf _ _ _ _])
  exact ⟨rfl, ha⟩
section CW1
variable {p : Program} {l : Launch} {e : Env} {R : Room} {s : State} {m : MethodId} {args : Array Value} {below : List Frame} {meth : Method} {c : Code} {H : Heap} {locs : List Loc} {cells slots : Nat} {Q : State → Prop} {cc : ByteArray} {pc : Nat} {ls : Array Slot} {rest : List Value}
/-- the machine with an exception on its way in this method's frame -/
def cw_T (p : Program) (l : Launch) (e : Env) (R : Room) (s : State) (m : MethodId) (args : Array Value) (below : List Frame) (meth : Method) (c : Code) (H : Heap) (locs : List Loc) (cells slots : Nat) (Q : State → Prop) (x : Addr) (fr : JFrame) : Prop :=
  ∀ T : State, T.heap = H → Stand p l e R s m args below meth c T locs cells slots → ∃ t, Steps p.tables e below ((T.setTop fr).pushFrame (.throwing x)) t ∧ Q t
/-- it is caught here -/
theorem cw_caught {x : Addr} {fr : JFrame} {cell : Cell} {h : Nat} {hh : List (Nat × Nat × Nat × Nat)} (hfr : fr.method = m) (hE : c.exceptionTable.toList.map cw_row = hh) (hcell : H[x]? = some cell) (hobj : cell.vm.isStatics = false) {k0 : Class} (hk0 : s.vm.classes[cell.cls]? = some k0)
    (htab : e.platform.magicAccessors = ({} : Platform).magicAccessors → cw_tab s e.platform m.cls cell.cls fr.pc h hh)
    (kk : W p l e R s m args below meth c H locs cells slots Q { fr with pc := h, stack := [.ref x] }) : cw_T p l e R s m args below meth c H locs cells slots Q x fr := by
  intro T hT X
  subst hfr
  have hpl : e.platform.magicAccessors = ({} : Platform).magicAccessors := by rw [X.admits.platform]
  obtain ⟨vm', hW', hq⟩ := cw_run (e := e) (f := fr) (a := x) (h := h) (VmData.ne_statics_of hobj) hk0 c.exceptionTable.toList ((T.setTop fr).pushFrame (.throwing x)) (by rw [hE]; exact htab hpl) X.warmed (by show T.heap[x]? = _; rw [hT]; exact hcell)
  obtain ⟨t, a1, b1⟩ := kk (T.setVm vm') hT (X.noted hW')
  refine ⟨t, ?_, b1⟩
  obtain ⟨hgo, hw⟩ := X.here.throwing x
  refine Steps.head hgo hw ?_
  rw [stepThread_throwing (frames_entered X.here.top _), (cw_go (S := (T.setTop fr).pushFrame (.throwing x)) (h := h) (vm' := vm') (r := T.frames.tail) (fun Q E d acts => (Jvm.W.findHandler_eq (s := (T.setTop fr).pushFrame (.throwing x)) (meth := meth) (code := c) X.method' X.code).trans (hq Q E d acts))).1]
  obtain ⟨g₀, hg⟩ := Option.isSome_iff_exists.mp X.here.top
  obtain ⟨r, hr⟩ := State.topJava?_eq_some.mp hg
  have hr' : (T.setVm vm').frames = .java g₀ :: r := hr
  rw [State.setTop_of_frames _ hr'] at a1
  have e1 : ∀ (u : State) (F G : List Frame), ((u.setFrames F).setVm vm').setFrames G = (u.setVm vm').setFrames G := fun u F G => by
    show ((u.setVm vm').setFrames F).setFrames G = _
    rw [State.setFrames_setFrames]
  rw [hr, List.tail_cons, State.pushFrame, e1, State.setTop_of_frames _ hr, e1]
  exact a1
theorem cw_note {T : State} (X : Stand p l e R s m args below meth c T locs cells slots) (hexec : p.tables.exec = Jvm.exec) {g : JFrame} (hg : g.method = m) {a : Addr} (hstack : g.stack = .ref a :: rest) (hdg : decode c.code g.pc = .ok (.athrow, 1)) {t : State}
    (h : Steps p.tables e below ((T.setTop { g with stack := rest }).pushFrame (.throwing a)) t) : Steps p.tables e below (T.setTop g) t := by
  subst hg
  jvm_step X.here [hexec, hdg, Jvm.Op.athrow.wp_sem, hstack]
  exact h
/-- athrow, where a handler here may take it -/
theorem cw_athrow {x : Addr} (hexec : p.tables.exec = Jvm.exec) (hb : c.code = cc) (hdg : decode cc pc = .ok (.athrow, 1))
    (kk : cw_T p l e R s m args below meth c H locs cells slots Q x (F0 m pc ls rest)) : W p l e R s m args below meth c H locs cells slots Q (F0 m pc ls (.ref x :: rest)) := by
  intro T hT X
  obtain ⟨t, a1, b1⟩ := kk T hT X
  exact ⟨t, cw_note X hexec (g := F0 m pc ls (.ref x :: rest)) rfl rfl (by rw [hb]; exact hdg) a1, b1⟩
/-- a call that may throw, in a method with handlers -/
theorem cw_call {Qa : State → Outcome → State → Prop} {free : Addr → Prop} {A0 A1 : Nat → Prop} {H0 : Heap} {st0 : List Value} {mc ms : Nat} (hr : tx_Run p l e R s m args below meth c H locs cells slots mc ms (F0 m pc ls st0) rest Qa free) (hS : va_S A0 H0 H locs) (hF : ∀ st o t, st.heap = H → Qa st o t → va_F A1 st t) (hA : ∀ q, q < H.size → A1 q → A0 q) (hf : ∀ q, free q → A0 q)
    (kr : ∀ (v : Option Value) (st₀ t : State) (H1 : Heap) (locs1 : List Loc), st₀.heap = H → t.heap = H1 → s.WarmedH t.vm → Qa st₀ (.returned v) t → H.size ≤ H1.size → (∀ q : Nat, q < H.size → ¬ A1 q → H1[q]? = H[q]?) → va_S A0 H0 H1 locs1 → W p l e R s m args below meth c H1 locs1 (cells + mc) (slots + ms) Q (F0 m (pc + 3) ls (v.toList ++ rest)))
    (kt : ∀ (x : Addr) (st₀ t : State) (H1 : Heap) (locs1 : List Loc), st₀.heap = H → t.heap = H1 → s.WarmedH t.vm → Qa st₀ (.threw x) t → H.size ≤ H1.size → (∀ q : Nat, q < H.size → ¬ A1 q → H1[q]? = H[q]?) → va_S A0 H0 H1 locs1 → cw_T p l e R s m args below meth c H1 locs1 (cells + mc) (slots + ms) Q x (F0 m pc ls rest)) :
    W p l e R s m args below meth c H locs cells slots Q (F0 m pc ls st0) := by
  intro T hT X
  obtain ⟨o, st₀, t, T', L, h0, X', hL, e1, e2, hq, hgo⟩ := hr T hT X
  have hFr := hF st₀ o t h0 hq
  have hk : ∀ q : Nat, q < H.size → ¬ A1 q → t.heap[q]? = H[q]? := fun q h1 h2 => by have := hFr.2 q (by rw [h0]; exact h1) h2; rw [this, h0]
  have hz : H.size ≤ t.heap.size := by have := hFr.1; rw [h0] at this; exact this
  have hS' : va_S A0 H0 t.heap (locs ++ L) := ⟨Nat.le_trans hS.1 hz, fun q h1 h2 => by
      rw [hk q (Nat.lt_of_lt_of_le h1 hS.1) (fun h => h2 (hA q (Nat.lt_of_lt_of_le h1 hS.1) h))]; exact hS.2.1 q h1 h2, fun q hq => by
      rcases List.mem_append.mp hq with h | h
      · exact hS.2.2 q h
      · exact hf _ (hL q h)⟩
  cases o with
  | returned v =>
    obtain ⟨t2, a1, b1⟩ := kr v st₀ t t.heap (locs ++ L) h0 rfl (e2 ▸ X'.warmed) hq hz hk hS' T' e1 X'
    exact ⟨t2, hgo t2 a1, b1⟩
  | threw x =>
    obtain ⟨t2, a1, b1⟩ := kt x st₀ t t.heap (locs ++ L) h0 rfl (e2 ▸ X'.warmed) hq hz hk hS' T' e1 X'
    exact ⟨t2, hgo t2 a1, b1⟩
/-- a call that always returns, as the rows for returning calls want it -/
theorem cw_rets {Qa : State → Outcome → State → Prop} {free : Addr → Prop} {mc ms : Nat} {g : JFrame} (hr : tx_Run p l e R s m args below meth c H locs cells slots mc ms g rest Qa free) (h : ∀ st o t, Qa st o t → ∃ v, o = .returned v) : va_Run p l e R s m args below meth c H locs cells slots mc ms g rest Qa free := by
  intro T hT X
  obtain ⟨o, st₀, t, T', L, h0, X', hL, e1, e2, hq, hgo⟩ := hr T hT X
  obtain ⟨v, rfl⟩ := h _ _ _ hq
  exact ⟨v, st₀, t, T', L, h0, X', hL, e1, e2, hq, hgo⟩
end CW1
theorem cw_hand {p : Program} {l : Launch} {x : MethodName} {S : Spec} {code : ByteArray} {maxLocals : Nat} {ret : Option FieldType} {e : Env} {s : State} {m : MethodId} {args : Array Value} {below : List Frame} {meth : Method} {c : Code} {s₁ : State} {hh : List (Nat × Nat × Nat × Nat)} (B : BodyLoose p l x S code maxLocals ret e s m args below meth c s₁) (h : (Cond.codeWith x code maxLocals ret hh).before args s = true) : c.exceptionTable.toList.map cw_row = hh := by
  obtain ⟨m', meth', c', hn', hm', hc', -, -, ht', -⟩ := Cond.codeWith_spec h
  cases B.named.symm.trans hn'
  cases B.method.symm.trans hm'
  cases (Stand.of_body B).code.symm.trans hc'
  exact ht'
section CWB
variable {l : Launch} {R : Room} {p : Program} {e : Env} {below : List Frame} {s : State} {sargs : Array Value} {y : MethodName} {len W : Nat}
theorem cw_back {hh : List (Nat × Nat × Nat × Nat)} {ws : List Cond} {rm : Room} {Pc : Array Value → State → Prop} {Qc : Array Value → State → Outcome → State → Prop} {mc ms : Nat} {free : Addr → Prop} {bytes : ByteArray} {maxL : Nat} {ret : Option FieldType}
    (hM : tx_Met l y ws rm Pc Qc mc ms free) (hblind : FrameBlind Pc) (hrc : rm.cells = mc) (hrs : rm.slots = ms)
    (hframes : rm.frames + 1 ≤ R.frames) (hlocals : W + (maxL + 11) + rm.locals ≤ R.locals)
    (hws : ∀ w ∈ ws, ∀ a' U, s.WarmedH U.vm → w.before a' U = true) (hcode : Cond.codeWith y bytes maxL ret hh ∈ ws) (hinit : ∀ a' U, s.WarmedH U.vm → (Cond.initialized y.cls).before a' U = true)
    {m : MethodId} {meth : Method} {c : Code} {U : State} {locs : List Loc} {cells slots : Nat} {g : JFrame} {ig : Instr} {mk : MethodId} {a : Array Value}
    (X : Stand p l e R s m sargs below meth c U locs cells slots) (hg : g.method = m) (hsize : g.locals.size = c.maxLocals) (hdg : decode c.code g.pc = .ok (ig, len))
    (hW : 2 * g.monitorRoom + (g.stack.map fun v => v.category).sum ≤ W) (hn : U.methodNamed? y = some mk) (h4 : cells + mc ≤ R.cells) (h5 : slots + ms ≤ R.slots) (hp : Pc a U) :
    ∃ (o : Outcome) (t U' : State) (L : List Loc), Stand p l e R s m sargs below meth c U' (locs ++ L) (cells + mc) (slots + ms) ∧ (∀ q ∈ L, free q.base) ∧ U'.heap = t.heap ∧ U'.vm = t.vm ∧ Qc a (U.calling g mk a) o t ∧
      Steps p.tables e below (doInvoke e (U.setTop g) [] mk a).1 (tx_go U' g len o) := by
  have h2 : (Cond.codeWith y bytes maxL ret hh).before a U = true := hws _ hcode _ _ X.warmed
  obtain ⟨m9, methY, cY, hn9, hmY, hcY, -, hlY, -⟩ := Cond.codeWith_spec h2
  cases hn.symm.trans hn9
  obtain ⟨kY, hkY, -⟩ := className_of_methodNamed hn
  have hinitY : kY.init = .initialized := Cond.initialized_spec (findClass_of_methodNamed hn) hkY (hinit a _ X.warmed)
  have h : At U g.method c below := by rw [hg]; exact X.here
  have happ : (headSpec ws rm).appliesLoose y e.platform (U.calling g mk a) = true :=
    Spec.appliesLoose_calling (g := g) h hdg hn hkY hinitY
      (X.room_calling (g := g) (R' := (headSpec ws rm).room) hsize hmY hcY hframes (by show _ + (cY.maxLocals + 11) + rm.locals ≤ _; rw [hlY]; omega) (by show _ + rm.cells ≤ _; rw [hrc]; exact h4) (by show _ + rm.slots ≤ _; rw [hrs]; exact h5)) (atoms_intro fun w hw => hws w hw _ _ X.warmed)
  obtain ⟨mid, hmid⟩ := h.above
  have hfr : (U.setTop g).frames = (.java g :: mid) ++ below := by rw [State.frames_setTop' g h.top, hmid]; rfl
  obtain ⟨o, s₂, hsteps, -, hend, hq, L, ⟨hW₂, e2, q2, q3, q4, q5, q6⟩, hL⟩ := Steps.callFree hM p X.admits X.cas X.clock (acts := []) hfr happ (hblind _ _ _ _ hp) trivial
  have hq' : Qc a (U.calling g mk a) o s₂ := hq
  rw [State.frames_setTop' g h.top] at hend
  have e3 : s₂ = ({ (U.calling g mk a).setFrames s₂.frames with heap := s₂.heap, slotsUsed := s₂.slotsUsed } : State).setVm s₂.vm := by
    have : s₂ = ({ s₂ with vm := (U.calling g mk a).vm } : State).setVm s₂.vm := rfl
    have e2' : ({ s₂ with vm := (U.calling g mk a).vm } : State) = _ := e2
    rw [e2'] at this
    exact this
  have hW' : U.WarmedH s₂.vm := hW₂
  obtain ⟨g₀, hg0⟩ := Option.isSome_iff_exists.mp h.top
  obtain ⟨r, hr⟩ := State.topJava?_eq_some.mp hg0
  have hr' : (({ U with heap := s₂.heap, slotsUsed := s₂.slotsUsed } : State).setVm s₂.vm).frames = .java g₀ :: r := hr
  have hs₂ : s₂ = tx_go (({ U with heap := s₂.heap, slotsUsed := s₂.slotsUsed } : State).setVm s₂.vm) g len o := by
    cases o with
    | returned v =>
      obtain ⟨c₂, i₂, len₂, hc₂, hd₂, hf₂⟩ := hend
      have hcc : c₂ = c := by
        have h1 : s₂.code? g.method = U.code? g.method := by
          rw [State.code?_eq, State.code?_eq, hW'.alike.method?]
        exact Option.some.inj (hc₂.symm.trans (h1.trans h.code))
      subst hcc
      have hlen : len₂ = len := by rw [hdg] at hd₂; cases hd₂; rfl
      subst hlen
      refine e3.trans ?_
      show _ = (({ U with heap := s₂.heap, slotsUsed := s₂.slotsUsed } : State).setVm s₂.vm).setTop _
      rw [hf₂, State.calling_eq h.top, State.setFrames_setFrames, State.setTop_of_frames _ hr', hr]
      rfl
    | threw x =>
      have hf₂ : s₂.frames = .throwing x :: .java g :: U.frames.tail := hend
      refine e3.trans ?_
      show _ = ((({ U with heap := s₂.heap, slotsUsed := s₂.slotsUsed } : State).setVm s₂.vm).setTop g).pushFrame (.throwing x)
      rw [hf₂, State.calling_eq h.top, State.setFrames_setFrames, State.pushFrame, State.frames_setTop _ hr', State.setTop_of_frames _ hr', State.setFrames_setFrames, hr]
      rfl
  have hsame : U.sameButNew ({ U with heap := s₂.heap, slotsUsed := s₂.slotsUsed } : State) L mc ms := by
    refine ⟨?_, q2, q3, q4, q5, q6⟩
    obtain ⟨t, ht, -⟩ := State.frames_cons hr
    show ({ U with heap := s₂.heap, slotsUsed := s₂.slotsUsed } : State) = { U.setFrames U.frames with heap := s₂.heap, slotsUsed := s₂.slotsUsed }
    rw [State.setFrames_self ht]
  subst hg
  refine ⟨o, s₂, (({ U with heap := s₂.heap, slotsUsed := s₂.slotsUsed } : State).setVm s₂.vm), L,
    ⟨X.admits, X.cas, X.clock, X.frames, X.room, X.hears, X.method, X.code, (X.here.setHeapUsed s₂.heap s₂.slotsUsed).setVm hW'.alike, X.tail, State.WarmedH.trans X.warmed hW', X.limits, X.bytes, X.same.trans (hsame.setVm s.vm)⟩,
    hL, rfl, rfl, hq', ?_⟩
  rw [← hs₂]
  exact hsteps
end CWB
section CWC
variable {p : Program} {l : Launch} {e : Env} {R : Room} {s : State} {m : MethodId} {args : Array Value} {below : List Frame} {meth : Method} {c : Code} {H : Heap} {locs : List Loc} {cells slots : Nat} {Q : State → Prop} {cc : ByteArray} {pc : Nat} {ls : Array Slot} {rest st0 : List Value}
variable {y : MethodName} {bytes : ByteArray} {maxL nL mc ms n index : Nat} {ret : Option FieldType} {ws : List Cond} {rm : Room} {Pc : Array Value → State → Prop} {Qc : Array Value → State → Outcome → State → Prop} {free : Addr → Prop} {Ts : List Cond} {own C : String} {b : Addr} {As : List Value} {g : JFrame}
theorem cw_runS {hh : List (Nat × Nat × Nat × Nat)} (S : CallFix p m c cc nL s args Ts own) (hM : tx_Met l y ws rm Pc Qc mc ms free) (hrc : rm.cells = mc) (hrs : rm.slots = ms) (hR : rm.frames + 1 ≤ R.frames ∧ 8 + (maxL + 11) + rm.locals ≤ R.locals) (hws : ∀ w ∈ ws, ∀ (a' : Array Value) (U : State), s.WarmedH U.vm → w.before a' U = true) (hcw : Cond.codeWith y bytes maxL ret hh ∈ ws) (hcode : (Cond.codeWith y bytes maxL ret hh).before args s = true) (hini : (Cond.initialized y.cls).before args s = true) (hd : y.cls ≠ "java/lang/invoke/MethodHandle" ∧ y.cls ≠ "java/lang/invoke/VarHandle" ∧ (parseMethodDescriptor y.desc).map (fun d => d.parameters.length) = some n) (hlink : (Cond.methodLink own index y).before args s = true) (hstt : (Cond.static y).before args s = true) (hp : PreS s H Pc As)
    (hg : g.method = m) (hn : As.length = n) (hsize : g.locals.size = nL) (hstack : g.stack = As.reverse ++ rest) (hW : 2 * g.monitorRoom + (rest.map fun v => v.category).sum ≤ 8) (hdg : decode cc g.pc = .ok (.invokestatic index, 3)) (hf : cells + mc ≤ R.cells ∧ slots + ms ≤ R.slots) :
    tx_Run p l e R s m args below meth c H locs cells slots mc ms g rest (Qc As.toArray) free := by
  obtain ⟨hfr, hlo⟩ := hR
  have hy : y.cls ≠ "java/lang/invoke/MethodHandle" ∧ y.cls ≠ "java/lang/invoke/VarHandle" := ⟨hd.1, hd.2.1⟩
  have hlen : ∀ sig, parseMethodDescriptor y.desc = some sig → n = sig.parameters.length := fun sig h => by
    have h2 := hd.2.2
    rw [h] at h2
    exact (Option.some.inj h2).symm
  obtain ⟨hx, hb, hml, hown, -⟩ := S
  intro T hT X
  obtain ⟨mk, methM, cM, hnamed, hmethM, -, -, -, -, -, -, hsigM⟩ := Cond.codeWith_spec hcode
  have hstatic : methM.isStatic = true := Cond.static_spec hnamed hmethM hstt
  obtain ⟨kP, hkP, -⟩ := className_of_methodNamed hnamed
  have hinitP : kP.init = .initialized := Cond.initialized_spec (findClass_of_methodNamed hnamed) hkP hini
  have hdg' : decode c.code g.pc = .ok (.invokestatic index, 3) := by rw [hb]; exact hdg
  obtain ⟨vm₁, X₁, hstep₁⟩ := X.invokestatic hx hown hlink hnamed hmethM hstatic hkP hinitP hy (g := g) hg (argsL := As) (rest := rest) (hn.trans (hlen _ hsigM)) hstack hdg'
  obtain ⟨o, t, U', L, X', hL, e1, e2, hq, hsteps⟩ := cw_back hM hp.1 hrc hrs hfr hlo hws hcw (fun a' U hW => word_at hW (Or.inl (by first | rfl | simp [Cond.onTables, Cond.keeps, Cond.steady])) hini) X₁ (g := { g with stack := rest }) hg (hsize.trans hml.symm) hdg' hW (X₁.named hnamed) hf.1 hf.2 (hp.2 (T.setVm vm₁) hT X₁.warmed)
  exact ⟨o, (T.setVm vm₁).calling { g with stack := rest } mk As.toArray, t, U', L, hT, X', hL, e1, e2, hq, fun target h => hstep₁ _ fun acts => by rw [doInvoke_state]; exact hsteps.trans h⟩
theorem cw_runV {hh : List (Nat × Nat × Nat × Nat)} (S : CallFix p m c cc nL s args Ts own) (hM : tx_Met l y ws rm Pc Qc mc ms free) (hrc : rm.cells = mc) (hrs : rm.slots = ms) (hR : rm.frames + 1 ≤ R.frames ∧ 8 + (maxL + 11) + rm.locals ≤ R.locals) (hws : ∀ w ∈ ws, ∀ (a' : Array Value) (U : State), s.WarmedH U.vm → w.before a' U = true) (hcw : Cond.codeWith y bytes maxL ret hh ∈ ws) (hcode : (Cond.codeWith y bytes maxL ret hh).before args s = true) (hini : (Cond.initialized y.cls).before args s = true) (hd : y.cls ≠ "java/lang/invoke/MethodHandle" ∧ y.cls ≠ "java/lang/invoke/VarHandle" ∧ (parseMethodDescriptor y.desc).map (fun d => d.parameters.length) = some n) (hlink : (Cond.methodLink own index y).before args s = true) (hinst : (Cond.instanceMethod y).before args s = true) (hsel : (Cond.selects C y y).before args s = true) (hp : PreV s H C b Pc As)
    (hg : g.method = m) (hn : As.length = n) (hsize : g.locals.size = nL) (hstack : g.stack = As.reverse ++ .ref b :: rest) (hW : 2 * g.monitorRoom + (rest.map fun v => v.category).sum ≤ 8) (hdg : decode cc g.pc = .ok (.invokevirtual index, 3)) (hf : cells + mc ≤ R.cells ∧ slots + ms ≤ R.slots) :
    tx_Run p l e R s m args below meth c H locs cells slots mc ms g rest (Qc (Value.ref b :: As).toArray) free := by
  obtain ⟨hfr, hlo⟩ := hR
  have hy : y.cls ≠ "java/lang/invoke/MethodHandle" ∧ y.cls ≠ "java/lang/invoke/VarHandle" := ⟨hd.1, hd.2.1⟩
  have hlen : ∀ sig, parseMethodDescriptor y.desc = some sig → n = sig.parameters.length := fun sig h => by
    have h2 := hd.2.2
    rw [h] at h2
    exact (Option.some.inj h2).symm
  obtain ⟨hx, hb, hml, hown, -⟩ := S
  obtain ⟨hbl, ⟨cellB, hcB, hoB, hclB⟩, hPc⟩ := hp
  intro T hT X
  obtain ⟨mk, methM, hnamed, hmethM, hstM, habM⟩ := Cond.instanceMethod_spec hinst
  obtain ⟨m9, methM', cM, hnamed', hmethM', -, -, -, -, -, -, hsigM⟩ := Cond.codeWith_spec hcode
  cases hnamed.symm.trans hnamed'
  cases hmethM.symm.trans hmethM'
  obtain ⟨c2, r2, m2, q1, q2, q3, q4, kP, hkP, hkPi⟩ := Cond.selects_spec hsel
  cases hclB.symm.trans q1
  cases (State.methodFound?_of_named hnamed hy).symm.trans q2
  cases hnamed.symm.trans q3
  have hselP : selectMethod e.platform s.vm cellB.cls mk = .method mk := by rw [Launch.admits_selectMethod X.admits]; exact q4
  have hdg' : decode c.code g.pc = .ok (.invokevirtual index, 3) := by rw [hb]; exact hdg
  obtain ⟨vm₁, X₁, hstep₁⟩ := X.invokevirtual hx hown hlink hnamed hmethM hstM hkP hkPi hy (a := b) (cell := cellB) (by rw [hT]; exact hcB)
    (fun z h => by rw [h] at hoB; cases hoB) hselP hmethM habM hkP hkPi (g := g) hg (argsL := As) (rest := rest) (hn.trans (hlen _ hsigM)) hstack hdg'
  obtain ⟨o, t, U', L, X', hL, e1, e2, hq, hsteps⟩ := cw_back hM hbl hrc hrs hfr hlo hws hcw (fun a' U hW => word_at hW (Or.inl (by first | rfl | simp [Cond.onTables, Cond.keeps, Cond.steady])) hini) X₁ (g := { g with stack := rest }) hg (hsize.trans hml.symm) hdg' hW (X₁.named hnamed) hf.1 hf.2 (hPc (T.setVm vm₁) hT X₁.warmed)
  exact ⟨o, (T.setVm vm₁).calling { g with stack := rest } mk (Value.ref b :: As).toArray, t, U', L, hT, X', hL, e1, e2, hq, fun target h => hstep₁ _ fun acts => by rw [doInvoke_state]; exact hsteps.trans h⟩
end CWC
theorem cw_hit {s : State} {args : Array Value} {own cn : String} {ix d hp h : Nat} {pl : Platform} {th cX : ClassId} {rest : Prop} (hown : s.vm.findClass own = some d) (hlink : (Cond.classLink own ix cn).before args s = true) (hcast : (Cond.castable cn cn).before args s = true) (e2 : s.vm.findClass cn = some cX) (e3 : th = cX) (hpl : pl.magicAccessors = ({} : Platform).magicAccessors) (hh : hp = h) : ∃ k, s.vm.ClassLinks pl d ix k ∧ ((s.vm.assignable th k = true ∧ hp = h) ∨ (s.vm.assignable th k = false ∧ rest)) := by
  obtain ⟨k, hk, hl⟩ := Cond.classLink_spec hown hlink pl hpl
  obtain ⟨a, b, h1, h2, h3⟩ := Cond.castable_spec hcast
  cases h1.symm.trans e2
  cases h2.symm.trans hk
  exact ⟨_, hl, Or.inl ⟨by rw [e3]; exact h3, hh⟩⟩
theorem cw_miss {s : State} {args : Array Value} {own cn name : String} {ix d : Nat} {pl : Platform} {th cX : ClassId} {rest Y : Prop} (hown : s.vm.findClass own = some d) (hlink : (Cond.classLink own ix name).before args s = true) (hno : ∀ a b, s.vm.findClass cn = some a → s.vm.findClass name = some b → s.vm.assignable a b = false) (e2 : s.vm.findClass cn = some cX) (e3 : th = cX) (hpl : pl.magicAccessors = ({} : Platform).magicAccessors) (hr : rest) : ∃ k, s.vm.ClassLinks pl d ix k ∧ ((s.vm.assignable th k = true ∧ Y) ∨ (s.vm.assignable th k = false ∧ rest)) := by
  obtain ⟨k, hk, hl⟩ := Cond.classLink_spec hown hlink pl hpl
  exact ⟨k, hl, Or.inr ⟨by rw [e3]; exact hno _ _ e2 hk, hr⟩⟩
theorem nc_no {C T : String} {s : State} (h : va_Nc C T s) : ∀ a b, s.vm.findClass C = some a → s.vm.findClass T = some b → s.vm.assignable a b = false := fun a b ha hb => by
  obtain ⟨c, t, h1, h2, h3⟩ := h
  cases h1.symm.trans ha
  cases h2.symm.trans hb
  exact h3
theorem cw_qi {S : Type} {post : Int32 → S → Prop} {B : S → State → Prop} {A : Nat → Prop} {a : Array Value} {st t : State} {o : Outcome} (h : va_Qi post B A a st o t) : ∃ v, o = .returned v := by
  obtain ⟨⟨r, u, hr, -⟩, -⟩ := h
  exact ⟨_, hr⟩
theorem is_X {s t : State} {H : Heap} {D : va_G} {cl : List vw_C} {tys : List (ClassId × FieldType)} {a n : Nat} {C : String} {T : u_T} {fs : List Value} {ws : va_W} (hK : va_K D cl tys s) (hP : va_P D cl ws H) (k i : Nat) (hc : cl[i]? = some (C, T, n)) (hw : ws[k]? = some (a, .inr (i, fs))) (ht : t.heap = H) (hW : s.WarmedH t.vm) : tx_X C a t := by
  obtain ⟨q', h1, cell, g1, g2, g3, -⟩ := hP k _ hw
  exact ⟨cell, D.1 i, by rw [ht]; exact g1, by rw [hW.alike.findClass]; exact (hK.1 i _ hc).2.1, g2, by rw [g3]; rfl, by rw [g3]; intro q; cases q⟩
section ISN
variable {p : Program} {l : Launch} {e : Env} {R : Room} {s : State} {m : MethodId} {args : Array Value} {below : List Frame} {meth : Method} {c : Code} {H : Heap} {locs : List Loc} {cells slots : Nat} {Q : State → Prop} {cc : ByteArray} {pc : Nat} {ls : Array Slot} {rest : List Value} {A : Nat → Prop} {ka : Nat → Nat} {g : va_G} {cs : Nat → ClassId} {ws : va_W}
/-- new X() of an exception: three instructions -/
theorem is_new (hexec : p.tables.exec = Jvm.exec) (hb : c.code = cc) (hml : c.maxLocals = ls.size) (hfl : l.flags = pinnedFlags ++ [noTraceFlag]) {own X : String} {ic ix i : Nat} {T : u_T} (hown : s.vm.findClass own = some m.cls) (hX : Bundle.fit X = true)
    (hcl : (Cond.classLink own ix X).before args s = true) (hini : (Cond.initialized X).before args s = true) (h : ∀ w ∈ tx_at own ic X, w.before args s = true) (hkn : KN ka A s s.heap) (hK : va_K g classes (gtys cs) s) (hc : classes[i]? = some (X, T, 0)) (hP : va_P g classes ws H) (hD : va_D A ws) (hS : va_S A s.heap H locs) (hA : ∀ q, s.heap.size ≤ q → A q)
    (hcells : cells + 1 ≤ R.cells) (hslots : slots + 6 ≤ R.slots) (hRf : 5 < R.frames) (hRl : (rest.map fun v => v.category).sum + 81 ≤ R.locals)
    (d0 : decode cc pc = .ok (.new ix, 3)) (d1 : decode cc (pc + 3) = .ok (.dup, 1)) (d2 : decode cc (pc + 4) = .ok (.invokespecial ic, 3))
    (kk : ∀ (q : Nat) (H1 : Heap), va_P g classes (ws ++ [(q, .inr (i, []))]) H1 → va_D A (ws ++ [(q, .inr (i, []))]) → va_S A s.heap H1 locs → W p l e R s m args below meth c H1 locs (cells + 1) (slots + 6) Q (F0 m (pc + 7) ls (.ref q :: rest))) :
    W p l e R s m args below meth c H locs cells slots Q (F0 m pc ls rest) := by
  obtain ⟨cX, kX0, hcX, hk0, -, -, -, -⟩ := Cond.instantiable_spec (show (Cond.instantiable X 6).holds args s none s [] = true from h _ (by simp [tx_at]))
  refine W.newcK (g := F0 m pc ls rest) hexec hb hown hcl (h _ (by simp [tx_at])) hini rfl d0 hcells hslots hcX rfl (fun H1 kX hkX e1 z1 o1 => ?_)
  refine W.eq (g2 := F0 m (pc + 3) ls (.ref H.size :: rest)) rfl ?_
  refine lv_dup hexec hb d1 rfl ?_
  have hS1 : va_S A s.heap H1 locs := ⟨by rw [z1]; exact Nat.le_succ_of_le hS.1, fun q h1 h2 => by rw [o1 q (Nat.lt_of_lt_of_le h1 hS.1)]; exact hS.2.1 q h1 h2, hS.2.2⟩
  refine tx_init0 (a := H.size) hexec hb hfl hown hX h hkn hS1 hcX hkX e1 hS.1 hml.symm d2 hRf (by simp only [List.map_cons, List.sum_cons]; show 1 + _ + 80 ≤ _; omega) (fun H2 ce z2 o2 e2 ec es eu ev => ?_)
  refine kk H.size H2 ?_ (hD.push hP rfl (hA _ hS.1)) ⟨by rw [z2]; exact hS1.1, fun q h1 h2 => by rw [o2 q (Nat.ne_of_lt (Nat.lt_of_lt_of_le h1 hS.1))]; exact hS1.2.1 q h1 h2, hS.2.2⟩
  refine va_P.app (hP.kept (fun k q hk => by rw [o2 q.1 (Nat.ne_of_lt ((hP k q hk).lt)), o1 q.1 ((hP k q hk).lt)])) (fun k x hx => ?_)
  have hz : k < 1 := (List.getElem?_eq_some_iff.mp hx).1
  rw [show k = 0 by omega] at hx
  cases hx
  have hcl2 : cX = g.1 i := Option.some.inj (hcX.symm.trans (hK.1 i _ hc).2.1)
  exact ⟨_, hc, ce, e2, ec.trans hcl2, ev, fun k hk => absurd hk (Nat.not_lt_zero k)⟩
end ISN
