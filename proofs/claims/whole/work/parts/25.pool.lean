/-- things of a kind, by number: at ad i stands E i -/
def po (ad : Nat → Nat) (E : Nat → va_E) (N : Nat) : va_W := (List.range N).map (fun i => (ad i, E i))
/-- the same without the j-th -/
def pox (ad : Nat → Nat) (E : Nat → va_E) (N j : Nat) : va_W := ((List.range N).erase j).map (fun i => (ad i, E i))
theorem po_perm {ad : Nat → Nat} {E : Nat → va_E} {N j : Nat} (h : j < N) : (po ad E N).Perm ((ad j, E j) :: pox ad E N j) :=
  (List.perm_cons_erase (List.mem_range.mpr h)).map (fun i => (ad i, E i))
theorem pox_up {ad : Nat → Nat} {E : Nat → va_E} {N j : Nat} {e : va_E} : pox ad (va_up E j e) N j = pox ad E N j := by
  apply List.map_congr_left
  intro i hi
  have hn : (List.range N).Nodup := List.nodup_range
  have h : i ≠ j := (hn.mem_erase_iff.mp hi).1
  rw [va_up_ne _ _ h]
theorem pm_P {D : va_G} {cl : List vw_C} {ws ws' : va_W} {H : Heap} (hp : ws.Perm ws') (h : va_P D cl ws H) : va_P D cl ws' H := fun k q hk => by
  have h1 : q ∈ ws := hp.mem_iff.mpr (List.mem_of_getElem? hk)
  obtain ⟨i, hi⟩ := List.getElem?_of_mem h1
  exact h i q hi
theorem pm_Dw {A : Nat → Prop} {ws : va_W} (h : va_D A ws) : List.Pairwise (fun x y : Nat × va_E => x.1 ≠ y.1) ws := by
  rw [List.pairwise_iff_getElem]
  intro i j hi hj hij e
  have := h.1 i j _ _ (List.getElem?_eq_getElem hi) (List.getElem?_eq_getElem hj) e
  omega
theorem pm_Dm {A : Nat → Prop} {ws : va_W} (h : List.Pairwise (fun x y : Nat × va_E => x.1 ≠ y.1) ws) (hA : ∀ q ∈ ws, A q.1) : va_D A ws := by
  refine ⟨fun i j x y hi hj e => ?_, fun k q hk => hA q (List.mem_of_getElem? hk)⟩
  rw [List.pairwise_iff_getElem] at h
  obtain ⟨hi', ei⟩ := List.getElem?_eq_some_iff.mp hi
  obtain ⟨hj', ej⟩ := List.getElem?_eq_some_iff.mp hj
  rcases Nat.lt_trichotomy i j with c | c | c
  · exact absurd (by rw [ei, ej]; exact e) (h i j hi' hj' c)
  · exact c
  · exact absurd (by rw [ei, ej]; exact e.symm) (h j i hj' hi' c)
theorem pm_D {A : Nat → Prop} {ws ws' : va_W} (hp : ws.Perm ws') (h : va_D A ws) : va_D A ws' := by
  refine pm_Dm ((List.Perm.pairwise_iff (R := fun x y : Nat × va_E => x.1 ≠ y.1) (fun {x y} q => Ne.symm q) hp).mp (pm_Dw h)) (fun q hq => ?_)
  obtain ⟨k, hk⟩ := List.getElem?_of_mem (hp.mem_iff.mpr hq)
  exact h.2 k q hk
theorem po_pa {X : va_W} {ad : Nat → Nat} {E : Nat → va_E} {N j q : Nat} (hj : j < N) (hq : ad j = q) : (X ++ po ad E N).Perm ((X ++ [(q, E j)]) ++ pox ad E N j) := by
  subst hq
  rw [List.append_assoc]
  exact List.Perm.append_left X (po_perm hj)
theorem po_un {X : va_W} {ad : Nat → Nat} {E : Nat → va_E} {N j q : Nat} {e : va_E} (hj : j < N) (hq : ad j = q) : ((X ++ [(q, e)]) ++ pox ad E N j).Perm (X ++ po ad (va_up E j e) N) := by
  have h := (po_pa (X := X) (E := va_up E j e) hj hq).symm
  rw [va_up_self, pox_up] at h
  exact h
theorem po_s {ad : Nat → Nat} {E : Nat → va_E} {N q : Nat} : po ad E N ++ [(q, E N)] = po (va_up ad N q) E (N + 1) := by
  simp only [po, List.range_succ, List.map_append, List.map_cons, List.map_nil, va_up_self]
  congr 1
  apply List.map_congr_left
  intro i hi
  have h : i ≠ N := Nat.ne_of_lt (List.mem_range.mp hi)
  rw [va_up_ne _ _ h]
theorem po_grow {X : va_W} {ad : Nat → Nat} {E : Nat → va_E} {N q : Nat} : ((X ++ [(q, E N)]) ++ po ad E N).Perm (X ++ po (va_up ad N q) E (N + 1)) := by
  rw [List.append_assoc, ← po_s]
  exact List.Perm.append_left X List.perm_append_comm
/-- the second of two tails goes first, or the first last -/
theorem pm_2o {X T U : va_W} : (X ++ (T ++ U)).Perm ((X ++ T) ++ U) := by rw [List.append_assoc]
theorem pm_2g {X T U : va_W} : (X ++ (T ++ U)).Perm ((X ++ U) ++ T) := by
  rw [List.append_assoc]
  exact List.Perm.append_left X List.perm_append_comm
/-- an open term's fields -/
def eo (f0 f1 f2 f3 f4 f5 : Nat → Int32) (i : Nat) : va_E := .inr (3, [.int (f0 i), .int (f1 i), .int (f2 i), .int (f3 i), .int (f4 i), .int (f5 i)])
theorem eo_up {f0 f1 f2 f3 f4 f5 : Nat → Int32} {j : Nat} {v0 v1 v2 v3 v4 v5 : Int32} : va_up (eo f0 f1 f2 f3 f4 f5) j (.inr (3, [.int v0, .int v1, .int v2, .int v3, .int v4, .int v5])) = eo (upd f0 j v0) (upd f1 j v1) (upd f2 j v2) (upd f3 j v3) (upd f4 j v4) (upd f5 j v5) := by
  funext i
  by_cases h : i = j
  · subst h; simp [va_up, eo, upd]
  · simp [va_up, eo, upd, h]
/-- a row of ints -/
def eg (cA : ClassId) (m : Nat) (f : Nat → Nat → Int32) (i : Nat) : va_E := .inl (cA, m, .inl (f i))
theorem eg_up {cA : ClassId} {m j : Nat} {f : Nat → Nat → Int32} {h : Nat → Int32} : va_up (eg cA m f) j (.inl (cA, m, .inl h)) = eg cA m (va_up f j h) := by
  funext i
  by_cases e : i = j
  · subst e; simp [va_up, eg]
  · simp [va_up, eg, e]
/-- what the array of references holds -/
def pg (ad : Nat → Nat) (n : Nat) : Nat → Option Nat := fun i => if i < n then some (ad i) else none
theorem pg_at {ad : Nat → Nat} {n i : Nat} (h : i < n) : pg ad n i = some (ad i) := if_pos h
theorem pg_0 {ad : Nat → Nat} : pg ad 0 = fun _ => none := funext fun i => if_neg (Nat.not_lt_zero i)
theorem pg_up {ad : Nat → Nat} {n q : Nat} : va_up (pg ad n) n (some q) = pg (va_up ad n q) (n + 1) := by
  funext i
  by_cases h : i = n
  · subst h; simp [va_up, pg]
  · by_cases h2 : i < n
    · have h3 : i < n + 1 := by omega
      simp [va_up, pg, h, h2, h3]
    · have h3 : ¬ i < n + 1 := by omega
      simp [va_up, pg, h, h2, h3]
theorem pl_nat {j : Nat} (h : j < 100) : (Int32.ofNat j).toNatClampNeg = j := co_dec (P := fun j => (Int32.ofNat j).toNatClampNeg = j) (N := 100) (by decide +kernel) h
theorem pl_inc {j : Nat} (h : j < 100) : Int32.ofNat j + 1 = Int32.ofNat (j + 1) := co_dec (P := fun j => Int32.ofNat j + 1 = Int32.ofNat (j + 1)) (N := 100) (by decide +kernel) h
theorem pl_ge {j : Nat} (h : j < 100) : ¬ (100 : Int32) ≤ Int32.ofNat j := co_dec (P := fun j => ¬ (100 : Int32) ≤ Int32.ofNat j) (N := 100) (by decide +kernel) h
theorem pl_neg {j : Nat} (h : j < 100) : ¬ Int32.ofNat j < 0 := co_dec (P := fun j => ¬ Int32.ofNat j < 0) (N := 100) (by decide +kernel) h
theorem pl_in {j : Nat} (h : j < 100) : vp_in (Int32.ofNat j) 100 := by
  unfold vp_in
  rw [pl_nat h]
  rintro (q | q)
  · exact pl_neg h q
  · omega
section PL
variable {p : Program} {l : Launch} {e : Env} {R : Room} {s : State} {m : MethodId} {args : Array Value} {below : List Frame} {meth : Method} {c : Code} {H : Heap} {locs : List Loc} {cells slots : Nat} {Q : State → Prop}
variable {cc : ByteArray} {pc : Nat} {ls : Array Slot} {rest : List Value} {g : va_G} {cs : Nat → ClassId} {A : Nat → Prop} {ws : va_W} {H0 : Heap} {a : Nat}
theorem W.eqN {fr : JFrame} {k n : Nat} (h1 : k = cells) (h2 : n = slots) (kk : W p l e R s m args below meth c H locs k n Q fr) : W p l e R s m args below meth c H locs cells slots Q fr := by
  subst h1; subst h2; exact kk
theorem va_aldp (hexec : p.tables.exec = Jvm.exec) (hb : c.code = cc) {tys : List (ClassId × FieldType)} {cl : List vw_C} (hK : va_K g cl tys s) (hP : va_P g cl ws H) (q0 t0 : Nat) {cA : ClassId} {C : String} {n N : Nat} {ad : Nat → Nat} (ha : ws[q0]? = some (a, .inl (cA, n, .inr (.inr (.inr (.inr (pg ad N))))))) (ht : tys[t0]? = some (cA, .object C)) {i : Int32} (hin : vp_in i n) (hlt : i.toNatClampNeg < N) (hdg : decode cc pc = .ok (.aaload, 1))
    (kk : W p l e R s m args below meth c H locs cells slots Q (F0 m (pc + 1) ls (.ref (ad i.toNatClampNeg) :: rest))) : W p l e R s m args below meth c H locs cells slots Q (F0 m pc ls (.int i :: .ref a :: rest)) := by
  refine va_aldq hexec hb hK hP q0 t0 ha ht hin hdg ?_
  rw [pg_at hlt]
  exact kk
/-- an element of an array of arrays -/
theorem va_aldg (hexec : p.tables.exec = Jvm.exec) (hb : c.code = cc) {tys : List (ClassId × FieldType)} {cl : List vw_C} (hK : va_K g cl tys s) (hP : va_P g cl ws H) (q0 t0 : Nat) {cA : ClassId} {C : FieldType} {n N : Nat} {ad : Nat → Nat} (ha : ws[q0]? = some (a, .inl (cA, n, .inr (.inr (.inr (.inr (pg ad N))))))) (ht : tys[t0]? = some (cA, .array C)) {i : Int32} (hin : vp_in i n) (hlt : i.toNatClampNeg < N) (hdg : decode cc pc = .ok (.aaload, 1))
    (kk : W p l e R s m args below meth c H locs cells slots Q (F0 m (pc + 1) ls (.ref (ad i.toNatClampNeg) :: rest))) : W p l e R s m args below meth c H locs cells slots Q (F0 m pc ls (.int i :: .ref a :: rest)) := by
  have h1 : i.toNatClampNeg < n := Nat.not_le.mp fun q => hin (Or.inr q)
  refine W.aald (v := va_rf (pg ad N i.toNatClampNeg)) (ty := .array C) hexec hb (hP q0 _ ha) ((hK.2 t0 _ ht).1 n (fun j => va_rf (pg ad N j))) rfl (fun q => by cases q) (by show ¬ (i < 0 ∨ (arrV _ _ _).slots.size ≤ _); rw [arrV_size]; exact hin) (by show (arrV _ _ _).slots[_]? = _; rw [arrV_read _ _ h1]) rfl rfl hdg ?_
  rw [pg_at hlt]
  exact kk
theorem g_newQ {C : String} (t0 : Nat) (ht : (gtys cs)[t0]? = some (cs t0, .object C)) (hexec : p.tables.exec = Jvm.exec) (hb : c.code = cc) {own : String} {index : Nat} (hown : s.vm.findClass own = some m.cls) (hclink : (Cond.classLink own index C).before args s = true) (hover : va_Nw (.arrayOver (.object C)) s) (hK : va_K g classes (gtys cs) s) (hP : va_P g classes ws H) (hD : va_D A ws) (hS : va_S A H0 H locs) (hA : ∀ q, H0.size ≤ q → A q)
    {n : Int32} (N' : Nat) (hn : ¬ n < 0) (hN : n.toNatClampNeg = N') (hbytes : N' * 4 ≤ 536870912) (hcells : cells + 1 ≤ R.cells) (hslots : slots + N' ≤ R.slots) (hdg : decode cc pc = .ok (.anewarray index, 3))
    (kk : ∀ (q : Nat) (H1 : Heap), va_P g classes (ws ++ [(q, .inl (cs t0, N', .inr (.inr (.inr (.inr (fun _ => none))))))]) H1 → va_D A (ws ++ [(q, .inl (cs t0, N', .inr (.inr (.inr (.inr (fun _ => none))))))]) → va_S A H0 H1 locs →
      W p l e R s m args below meth c H1 locs (cells + 1) (slots + N') Q (F0 m (pc + 3) ls (.ref q :: rest))) : W p l e R s m args below meth c H locs cells slots Q (F0 m pc ls (.int n :: rest)) := by
  refine va_newq (C := C) hexec hb hown hclink hover hK hP hD hS hA hn hN hbytes hcells hslots hdg (fun q cA H1 hK1 hP1 hD1 hS1 => ?_)
  obtain ⟨-, k1, c1, -, -, -, e1⟩ := hK1.2 6 (cA, .object C) rfl
  obtain ⟨-, k2, c2, -, -, -, e2⟩ := hK.2 t0 _ ht
  cases Option.some.inj (e1.symm.trans e2)
  exact kk q H1 hP1 hD1 hS1
end PL
theorem rm_le {a b c : Nat} (h : a ≤ b) : a ≤ b + c := Nat.le_trans h (Nat.le_add_right b c)
theorem rm_r {a b c : Nat} (h : a ≤ b) : c + a ≤ b + c := by omega
theorem rm_m {a b c : Nat} (h : a + 1 ≤ b) : a + c + 1 ≤ b + c := by omega
theorem rm_l {x a b c : Nat} (h : x + a ≤ b) : x + (a + c) ≤ b + c := by omega
