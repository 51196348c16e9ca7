def kn_sides : List Nat := [2, 3, 4, 5, 6, 7, 8, 9, 10, 11, 12, 13, 14, 15, 16, 17, 18, 19, 20, 21]
/-- the reference's array of texts -/
def sdf (ka : Nat → Nat) : Nat → Option Nat := fun k => if k < 20 then some (ka (200 + kn_sides.getD k 0)) else none
theorem kn_sides_lt (j : Nat) : kn_sides.getD j 0 < kn_n := by
  by_cases h : j < 20
  · exact co_dec (P := fun j => kn_sides.getD j 0 < kn_n) (N := 20) (by decide +kernel) h
  · have : kn_sides.getD j 0 = 0 := by
      have h2 : kn_sides.length ≤ j := by have : kn_sides.length = 20 := rfl; omega
      simp [List.getD, List.getElem?_eq_none h2]
    rw [this]; decide
theorem kn_any {ka : Nat → Nat} {A : Nat → Prop} {s : State} {H : Heap} {locs : List Loc} {i : Nat} (h : KN ka A s s.heap) (hi : i < kn_n) (hS : va_S A s.heap H locs) : va_Any "java/lang/String" s H (ka (200 + i)) := by
  obtain ⟨cell, h1, h2, h3⟩ := kn_recv h hi hS
  obtain ⟨k, hk⟩ := Vm.classAt_of_findClass h3
  refine ⟨cell, h1, h2, ⟨k, hk⟩, fun comp hc => ?_⟩
  cases h3.symm.trans hc
  exact va_asg _ _
theorem va_up_same {α : Type} (f : Nat → α) (k : Nat) : va_up f k (f k) = f := by
  funext j
  by_cases h : j = k
  · subst h; simp [va_up]
  · simp [va_up, h]
section GRD
variable {p : Program} {l : Launch} {e : Env} {R : Room} {s : State} {m : MethodId} {args : Array Value} {below : List Frame} {meth : Method} {c : Code} {H : Heap} {locs : List Loc} {cells slots : Nat} {Q : State → Prop}
variable {cc : ByteArray} {pc : Nat} {ls : Array Slot} {rest : List Value} {g : va_G} {cs : Nat → ClassId} {A : Nat → Prop} {ws : va_W} {H0 : Heap} {ka : Nat → Nat} {a : Nat}
theorem sd_ald (hexec : p.tables.exec = Jvm.exec) (hb : c.code = cc) {tys : List (ClassId × FieldType)} {cl : List vw_C} (hK : va_K g cl tys s) (hP : va_P g cl ws H) (q0 t0 : Nat) {cA : ClassId} {C : String} {n : Nat} (ha : ws[q0]? = some (a, .inl (cA, n, .inr (.inr (.inr (.inr (sdf ka))))))) (ht : tys[t0]? = some (cA, .object C)) {i : Int32} (hin : vp_in i n) (hlt : i.toNatClampNeg < 20) (hdg : decode cc pc = .ok (.aaload, 1))
    (kk : W p l e R s m args below meth c H locs cells slots Q (F0 m (pc + 1) ls (.ref (ka (200 + kn_sides.getD i.toNatClampNeg 0)) :: rest))) : W p l e R s m args below meth c H locs cells slots Q (F0 m pc ls (.int i :: .ref a :: rest)) := by
  refine va_aldq hexec hb hK hP q0 t0 ha ht hin hdg ?_
  rw [show sdf ka i.toNatClampNeg = some (ka (200 + kn_sides.getD i.toNatClampNeg 0)) from if_pos hlt]
  exact kk
/-- the outer array when k rows are made -/
def gdO (c2 : ClassId) (N B k : Nat) : Cell := arrV c2 N (fun j => va_rf (pg (fun i => B + 1 + i) k j))
/-- the states while the rows are made -/
def gdS (T1 : State) (B : Nat) (c1 c2 : ClassId) (N M : Nat) : Nat → State
  | 0 => T1
  | k + 1 => ((gdS T1 B c1 c2 N M k).pushCell (arrV c1 M (fun _ => .int 0))).setCell B (gdO c2 N B (k + 1))
abbrev gdW (ws : va_W) (B : Nat) (c1 c2 : ClassId) (N M k : Nat) : va_W := [(B, .inl (c2, N, .inr (.inr (.inr (.inr (pg (fun i => B + 1 + i) k))))))] ++ (ws ++ po (fun i => B + 1 + i) (eg c1 M (fun _ _ => 0)) k)
theorem gdO_set {c2 : ClassId} {N B k : Nat} : (gdO c2 N B k).setSlot k (.ref (B + 1 + k)) = gdO c2 N B (k + 1) := by
  unfold gdO
  rw [arrV_store]
  congr 1
  funext j
  by_cases h : j = k
  · subst h; simp [updV, pg, va_rf]
  · by_cases h2 : j < k
    · have h3 : j < k + 1 := by omega
      simp [updV, pg, h, h2, h3]
    · have h3 : ¬ j < k + 1 := by omega
      simp [updV, pg, h, h2, h3]
set_option maxHeartbeats 2000000 in
theorem gd_facts {T1 : State} {B N M : Nat} {c1 c2 : ClassId} (hA : ∀ q, H0.size ≤ q → A q) (X1 : Stand p l e R s m args below meth c T1 locs cells slots) (hz : T1.heap.size = B + 1) (hP : va_P g classes (gdW ws B c1 c2 N M 0) T1.heap) (hD : va_D A (gdW ws B c1 c2 N M 0)) (hS : va_S A H0 T1.heap locs) :
    ∀ k, k ≤ N → ∃ lk, Stand p l e R s m args below meth c (gdS T1 B c1 c2 N M k) lk (cells + k) (slots + k * M) ∧ (gdS T1 B c1 c2 N M k).heap.size = B + 1 + k ∧ (gdS T1 B c1 c2 N M k).vm = T1.vm ∧ va_P g classes (gdW ws B c1 c2 N M k) (gdS T1 B c1 c2 N M k).heap ∧ va_D A (gdW ws B c1 c2 N M k) ∧ va_S A H0 (gdS T1 B c1 c2 N M k).heap lk := by
  intro k
  induction k with
  | zero => intro _; exact ⟨locs, by simpa [gdS] using X1, hz, rfl, hP, hD, hS⟩
  | succ k ih =>
    intro hk
    obtain ⟨lk, X, hz, hv, hP, hD, hS⟩ := ih (by omega)
    have hU : gdS T1 B c1 c2 N M (k + 1) = ((gdS T1 B c1 c2 N M k).pushCell (arrV c1 M (fun _ => .int 0))).setCell B (gdO c2 N B (k + 1)) := rfl
    rw [hU]
    generalize gdS T1 B c1 c2 N M k = U at X hz hv hP hD hS
    have hB : U.heap[B]? = some (gdO c2 N B k) := hP 0 _ rfl
    have hBl : B < U.heap.size := by omega
    have h1B : (U.pushCell (arrV c1 M (fun _ => .int 0))).heap[B]? = some (gdO c2 N B k) := by
      show (U.heap.push _)[B]? = _
      rw [Array.getElem?_push, if_neg (Nat.ne_of_lt hBl)]; exact hB
    have z1 : (U.pushCell (arrV c1 M (fun _ => .int 0))).heap.size = U.heap.size + 1 := by
      show (U.heap.push _).size = _
      rw [Array.size_push]
    have o1 : ∀ q : Nat, q < U.heap.size → (U.pushCell (arrV c1 M (fun _ => .int 0))).heap[q]? = U.heap[q]? := fun q hq => by
      show (U.heap.push _)[q]? = _
      rw [Array.getElem?_push, if_neg (Nat.ne_of_lt hq)]
    have X1' := X.pushed (arrV c1 M (fun _ => .int 0))
    rw [arrV_size] at X1'
    have X2 := X1'.stored h1B k (.ref (B + 1 + k))
    rw [gdO_set] at X2
    have z2 : ((U.pushCell (arrV c1 M (fun _ => .int 0))).setCell B (gdO c2 N B (k + 1))).heap.size = (U.pushCell (arrV c1 M (fun _ => .int 0))).heap.size := size_setCell _ _ _
    have o2 : ∀ q : Nat, q ≠ B → ((U.pushCell (arrV c1 M (fun _ => .int 0))).setCell B (gdO c2 N B (k + 1))).heap[q]? = (U.pushCell (arrV c1 M (fun _ => .int 0))).heap[q]? := fun q hq => heapAt_setCell_ne _ (Ne.symm hq)
    have e2 : ((U.pushCell (arrV c1 M (fun _ => .int 0))).setCell B (gdO c2 N B (k + 1))).heap[B]? = some (gdO c2 N B (k + 1)) := heapAt_setCell_self (s := U.pushCell (arrV c1 M (fun _ => .int 0))) (a := B) _ (by rw [z1]; exact Nat.lt_succ_of_lt hBl)
    have hpo : po (fun i => B + 1 + i) (eg c1 M (fun _ _ => 0)) k ++ [(U.heap.size, eg c1 M (fun _ _ => 0) k)] = po (fun i => B + 1 + i) (eg c1 M (fun _ _ => 0)) (k + 1) := by
      rw [po_s, hz]
      exact congrArg (fun f => po f (eg c1 M (fun _ _ => 0)) (k + 1)) (va_up_same (fun i => B + 1 + i) k)
    have hw : gdW ws B c1 c2 N M k ++ [(U.heap.size, eg c1 M (fun _ _ => 0) k)] = [(B, .inl (c2, N, .inr (.inr (.inr (.inr (pg (fun i => B + 1 + i) k))))))] ++ (ws ++ po (fun i => B + 1 + i) (eg c1 M (fun _ _ => 0)) (k + 1)) := by
      unfold gdW
      rw [List.append_assoc, List.append_assoc, hpo]
    have hP1 : va_P g classes ([(B, .inl (c2, N, .inr (.inr (.inr (.inr (pg (fun i => B + 1 + i) k))))))] ++ (ws ++ po (fun i => B + 1 + i) (eg c1 M (fun _ _ => 0)) (k + 1))) (U.pushCell (arrV c1 M (fun _ => .int 0))).heap := by
      rw [← hw]
      refine va_P.app (hP.kept (fun i x hx => o1 x.1 ((hP i x hx).lt))) (fun i x hx => ?_)
      have hi : i < 1 := (List.getElem?_eq_some_iff.mp hx).1
      rw [show i = 0 by omega] at hx
      cases hx
      show (U.heap.push _)[U.heap.size]? = some (vp_cell _ _)
      rw [Array.getElem?_push_size]
      rfl
    have hD1 : va_D A ([(B, .inl (c2, N, .inr (.inr (.inr (.inr (pg (fun i => B + 1 + i) k))))))] ++ (ws ++ po (fun i => B + 1 + i) (eg c1 M (fun _ _ => 0)) (k + 1))) := by
      rw [← hw]
      exact hD.push hP rfl (hA _ hS.1)
    have hS1 : va_S A H0 (U.pushCell (arrV c1 M (fun _ => .int 0))).heap lk := ⟨by rw [z1]; exact Nat.le_succ_of_le hS.1, fun q h1 h2 => (o1 q (Nat.lt_of_lt_of_le h1 hS.1)).trans (hS.2.1 q h1 h2), hS.2.2⟩
    refine ⟨lk ++ [⟨B, k⟩], ?_, by rw [z2, z1]; omega, hv, ?_, hD1.set (p := 0) rfl, hS1.put z2 o2 (hD1.2 0 _ rfl)⟩
    · have e3 : slots + (k + 1) * M = slots + k * M + M := by rw [Nat.succ_mul]; omega
      rw [e3]
      exact X2
    · exact hP1.set hD1 (p := 0) rfl e2 o2
end GRD
