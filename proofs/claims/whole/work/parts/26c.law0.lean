theorem va_D_left {A : Nat → Prop} {L R : va_W} (h : va_D A (L ++ R)) : va_D A L := h.by id (fun k q hq => by show (L ++ R)[k]? = some q; rw [List.getElem?_append_left (List.getElem?_eq_some_iff.mp hq).1]; exact hq) (fun i j _ _ e => e)
theorem va_P_left {D : va_G} {cl : List vw_C} {L R : va_W} {H : Heap} (h : va_P D cl (L ++ R) H) : va_P D cl L H := fun k q hk => h k q (by rw [List.getElem?_append_left (List.getElem?_eq_some_iff.mp hk).1]; exact hk)
theorem p2_co {X T U : va_W} : (X ++ (T ++ U)).Perm (X ++ (U ++ T)) := List.Perm.append_left X List.perm_append_comm
theorem p2_as {wr rx T U : va_W} : ((wr ++ (rx ++ T)) ++ U).Perm ((wr ++ rx) ++ (T ++ U)) := by
  simp only [List.append_assoc]
  exact List.Perm.refl _
/-- behind a call that had the second of two pools -/
theorem p2_join {A0 : Nat → Prop} {D : va_G} {cl : List vw_C} {X cx wr rx T U U1 : va_W} {H H1 : Heap} (hP : va_P D cl (X ++ (T ++ U)) H) (hD : va_D A0 (X ++ (T ++ U))) (isC isR : List Nat) (hC : isC.map (fun i => X[i]?) = cx.map some) (hR : isR.map (fun i => X[i]?) = wr.map some) (hn : va_nd isR = true) (hdis : ∀ i ∈ isR, i ∉ isC)
    (hk : ∀ q : Nat, q < H.size → ¬ va_A (cx ++ U) H.size q → H1[q]? = H[q]?) (hF : ∀ q, va_A (cx ++ U) H.size q → A0 q) (hP1 : va_P D cl (rx ++ U1) H1) (hD1 : va_D (va_A (cx ++ U) H.size) (rx ++ U1)) : va_P D cl ((wr ++ rx) ++ (T ++ U1)) H1 ∧ va_D A0 ((wr ++ rx) ++ (T ++ U1)) := by
  have hPg : va_P D cl ((X ++ U) ++ T) H := pm_P pm_2g hP
  have hDg : va_D A0 ((X ++ U) ++ T) := pm_D pm_2g hD
  obtain ⟨j1, j2⟩ := va_joinP (va_P_left hPg) (va_D_left hDg) isC isR hC hR hn hdis hk hF hP1 hD1
  have place : ∀ q ∈ T, ∃ k, ((X ++ U) ++ T)[k]? = some q ∧ (X ++ U).length ≤ k := fun q hq => by
    obtain ⟨k, hk⟩ := List.getElem?_of_mem hq
    exact ⟨(X ++ U).length + k, by rw [List.getElem?_append_right (Nat.le_add_right _ _), Nat.add_sub_cancel_left]; exact hk, Nat.le_add_right _ _⟩
  have apart : ∀ q ∈ T, q.1 < H.size ∧ ¬ va_A (cx ++ U) H.size q.1 := fun q hq => by
    obtain ⟨k, h2, hl2⟩ := place q hq
    have hl := (hPg k q h2).lt
    refine ⟨hl, fun h => ?_⟩
    rcases h with ⟨k2, e, h⟩ | h
    · have h3 := va_part isC hC k2 _ h
      have hlt := (List.getElem?_eq_some_iff.mp h3).1
      have h4 := hDg.1 _ _ q (q.1, e) h2 (by rw [List.getElem?_append_left hlt]; exact h3) rfl
      omega
    · omega
  have hPT : va_P D cl T H1 := fun k q hq => by
    obtain ⟨g1, g2⟩ := apart q (List.mem_of_getElem? hq)
    obtain ⟨k2, h2, -⟩ := place q (List.mem_of_getElem? hq)
    exact (hPg k2 q h2).kept (hk q.1 g1 g2)
  have hDT : va_D A0 T := va_D_left (pm_D (List.perm_append_comm (l₁ := X ++ U) (l₂ := T)) hDg)
  have key1 : va_P D cl (((wr ++ rx) ++ U1) ++ T) H1 := va_P.app j1 hPT
  have key2 : va_D A0 (((wr ++ rx) ++ U1) ++ T) := va_D.app j2 hDT (fun i j x y hx hy hxy => by
    have hm := List.mem_of_getElem? hx
    rw [List.append_assoc] at hm
    obtain ⟨ky, h2, hl2⟩ := place y (List.mem_of_getElem? hy)
    rcases List.mem_append.mp hm with h | h
    · obtain ⟨k, hk'⟩ := List.getElem?_of_mem h
      obtain ⟨i', -, h3⟩ := va_in_of isR hR hk'
      have hlt := (List.getElem?_eq_some_iff.mp h3).1
      have h4 : ((X ++ U) ++ T)[i']? = some x := by rw [List.append_assoc, List.getElem?_append_left hlt]; exact h3
      have h5 := hDg.1 _ _ x y h4 h2 hxy
      rw [List.length_append] at hl2
      omega
    · obtain ⟨k, hk'⟩ := List.getElem?_of_mem h
      exact (apart y (List.mem_of_getElem? hy)).2 (by rw [← hxy]; exact hD1.2 k x hk'))
  exact ⟨pm_P pm_2g.symm key1, pm_D pm_2g.symm key2⟩
