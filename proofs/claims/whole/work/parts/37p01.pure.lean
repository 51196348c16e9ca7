/-! ===== the class makes nodes ===== -/
def tc (sn sn' mq sk : Nat) : Prop := 64 * mq + 3 * sn ≤ 3 * sn' ∧ sk + 6 * sn ≤ 6 * sn'
theorem ct_arr {T : List (List Int32)} {S : List Nd} {nd : Int32} {sn : Nat} {sf : Nat → Int32} {vn : Nat} {vf : Nat → Int64} {fn : Nat} {ff : Nat → Int32} {ps : Int32} {pn : Nat} {pf : Nat → Int32} (h : CT T S nd sn sf vn vf fn ff ps pn pf) {d : Nd} {shape : Int32} {value : Int64} (hd : NE T d shape value) (hS : 200 + S.length < 26500) {sn' : Nat} {sf' : Nat → Int32} {vf' : Nat → Int64} {ff' : Nat → Int32} {ps' : Int32} {pn' : Nat} {pf' : Nat → Int32} (a1 : 200 + S.length + 1 ≤ sn') (a2 : sn ≤ sn') (a3 : sn' = sn ∨ sn' = 2 * (200 + S.length)) (a4 : ∀ j, j < 200 + S.length → sf' j = sf j ∧ vf' j = vf j ∧ ff' j = ff j) (a5 : sf' (200 + S.length) = shape) (a6 : vf' (200 + S.length) = value) (a7 : ff' (200 + S.length) = ps) (a8 : IN (pl (S ++ [d])) ps' pn' pf') (a9 : pn' ≤ 53000) : CT T (S ++ [d]) (nI (200 + S.length + 1)) sn' sf' sn' vf' sn' ff' ps' pn' pf' := by
  obtain ⟨h1, h2, h3, h4, h5, h6, h7, h8, h9, h10, h11⟩ := h
  have ln : (S ++ [d]).length = S.length + 1 := by rw [List.length_append, List.length_singleton]
  refine ⟨by rw [ln]; rfl, by omega, by omega, rfl, rfl, by omega, by omega, a8, a9, fun v hv => ?_, fun i q hq => ?_⟩
  · rw [(a4 v (by omega)).1]
    exact h10 v hv
  · obtain ⟨hi, e⟩ := List.getElem?_eq_some_iff.mp hq
    rw [ln] at hi
    by_cases z : i = S.length
    · subst z
      rw [List.getElem?_append_right (Nat.le_refl _), Nat.sub_self] at hq
      obtain rfl : d = q := by injection hq
      rw [a5, a6, a7, po_app (Nat.le_refl _), po_all, h8.1]
      exact ⟨hd, rfl⟩
    · rw [List.getElem?_append_left (by omega)] at hq
      obtain ⟨b1, b2⟩ := h11 i q hq
      obtain ⟨c1, c2, c3⟩ := a4 (200 + i) (by omega)
      rw [c1, c2, c3, po_app (by omega)]
      exact ⟨b1, b2⟩
theorem ct_node (a b c e g z : Int32) {T : List (List Int32)} {S : List Nd} {nd : Int32} {sn : Nat} {sf : Nat → Int32} {vn : Nat} {vf : Nat → Int64} {fn : Nat} {ff : Nat → Int32} {ps : Int32} {pn : Nat} {pf : Nat → Int32} (h : CT T S nd sn sf vn vf fn ff ps pn pf) {d : Nd} {shape : Int32} {value : Int64} (hd : NE T d shape value) (hp : d.2.2 = []) (hS : 200 + S.length < 26500) : wp (p_Terms_newNode shape value nd a b c e g z sn sf vn vf fn ff ps) (fun ((r, nd', sn', sf', vn', vf', fn', ff'), mq, sk) => r = nI (200 + S.length) ∧ CT T (S ++ [d]) nd' sn' sf' vn' vf' fn' ff' ps pn pf ∧ tc sn sn' mq sk) := by
  have h0 := h
  obtain ⟨rfl, h2, h3, rfl, rfl, h6, h7, h8, h9, h10, h11⟩ := h
  refine wp_mono (tn_new shape value a b c e g z h3 h6 h7) ?_
  rintro ⟨⟨r, nd', sn', sf', vn', vf', fn', ff'⟩, mq, sk⟩ ⟨a1, a2, a3, a4, a5, a6, a7, a8, a9, a10, a11, a12, a13⟩
  dsimp only at a1 a2 a3 a4 a5 a6 a7 a8 a9 a10 a11 a12 a13 ⊢
  subst a2 a3 a4
  refine ⟨a1, ct_arr h0 hd hS a5 a6 a7 a10 a11 a12 a13 ?_ h9, a8, a9⟩
  rw [pl_app, hp, List.map_nil, List.append_nil]
  exact h8
theorem cm_loop (n : Nat) (r1 nd1 : Int32) (sn : Nat) (sf : Nat → Int32) (vn : Nat) (vf : Nat → Int64) (fn : Nat) (ff : Nat → Int32) {L : List Int32} {ss : Int32} {kn : Nat} {kf : Nat → Int32} (hL : IN L ss kn kf) (hL2 : L.length < 1000000) : ∀ (j i f : Nat) (P : List Int32) (ps : Int32) (pn : Nat) (pf : Nat → Int32), i + j = L.length → j < f → IN P ps pn pf → P.length + j ≤ 26500 → wp (p_Terms_compound_17 n ss kn kf r1 nd1 sn sf vn vf fn ff f (nI i) ps pn pf) (fun ((r, nd', sn', sf', vn', vf', fn', ff', ps', pn', pf'), mq, sk) => r = r1 ∧ nd' = nd1 ∧ sn' = sn ∧ sf' = sf ∧ vn' = vn ∧ vf' = vf ∧ fn' = fn ∧ ff' = ff ∧ IN (P ++ L.drop i) ps' pn' pf' ∧ gw pn pn' (P.length + j) mq sk) := by
  intro j
  induction j with
  | zero =>
    intro i f P ps pn pf hi hf hP hb
    obtain ⟨f, rfl⟩ : ∃ z, f = z + 1 := ⟨f - 1, by omega⟩
    rw [p_Terms_compound_17]
    unfold p_Ints_size
    refine wp_bs rfl (wp_it (by rw [hL.1]; exact nI_le (by omega) (by omega)) (wp_some ⟨rfl, rfl, rfl, rfl, rfl, rfl, rfl, rfl, ?_, gw_refl _ _⟩))
    rw [List.drop_of_length_le (by omega), List.append_nil]
    exact hP
  | succ j ih =>
    intro i f P ps pn pf hi hf hP hb
    obtain ⟨f, rfl⟩ : ∃ z, f = z + 1 := ⟨f - 1, by omega⟩
    rw [p_Terms_compound_17]
    unfold p_Ints_size
    refine wp_bs rfl (wp_if (by rw [hL.1]; exact nI_ge (by omega) (by omega)) (wp_bs (in_at hL (j := i) (by omega)) (wp_bind (in_push _ hP (by omega)) ?_)))
    rintro ⟨⟨s1, N1, g1⟩, m1, k1⟩ ⟨c1, c2⟩
    dsimp only at c1 c2 ⊢
    refine wp_al ?_
    rw [nI_1]
    refine wp_mono (ih (i + 1) f _ s1 N1 g1 (by omega) (by omega) c1 (by rw [List.length_append, List.length_singleton]; omega)) ?_
    rintro ⟨⟨r, nd', sn', sf', vn', vf', fn', ff', ps', pn', pf'⟩, m2, k2⟩ ⟨d1, d2, d3, d4, d5, d6, d7, d8, d9, d10⟩
    dsimp only at d1 d2 d3 d4 d5 d6 d7 d8 d9 d10 ⊢
    refine ⟨d1, d2, d3, d4, d5, d6, d7, d8, ?_, ?_⟩
    · rw [List.append_assoc, List.singleton_append] at d9
      have hi2 : i < L.length := by omega
      rw [List.drop_eq_getElem_cons hi2]
      rw [List.getD_eq_getElem?_getD, List.getElem?_eq_getElem hi2, Option.getD_some] at d9
      exact d9
    · rw [List.length_append, List.length_singleton] at d10
      have := gw_trans c2 d10 (by omega)
      rw [show P.length + (j + 1) = P.length + 1 + j by omega]
      exact this
theorem ct_compound (n : Nat) (a b c e g z : Int32) {T : List (List Int32)} {S : List Nd} {nd : Int32} {sn : Nat} {sf : Nat → Int32} {vn : Nat} {vf : Nat → Int64} {fn : Nat} {ff : Nat → Int32} {ps : Int32} {pn : Nat} {pf : Nat → Int32} (h : CT T S nd sn sf vn vf fn ff ps pn pf) {K : List Rf} {ss : Int32} {kn : Nat} {kf : Nat → Int32} (hL : IN (K.map rI) ss kn kf) (hL2 : K.length < 100000) {w : List Int32} {x : Int32} (hw : nm T w x) (hT : T.length < 65536) {k : Nat} (hk : k ≤ K.length) (hk8 : k ≤ 8) (hS : 200 + S.length < 26500) (hP : (pl S).length + k ≤ 26500) (hn : 100 < n) : wp (p_Terms_compound n x (nI k) nd a b c e g z sn sf vn vf fn ff ps pn pf ss kn kf) (fun ((r, nd', sn', sf', vn', vf', fn', ff', ps', pn', pf'), mq, sk) => r = nI (200 + S.length) ∧ CT T (S ++ [(none, w, K.drop (K.length - k))]) nd' sn' sf' vn' vf' fn' ff' ps' pn' pf' ∧ ∃ m1 k1 m2 k2, mq = m2 + m1 ∧ sk = k2 + k1 ∧ tc sn sn' m1 k1 ∧ gw pn pn' 26500 m2 k2) := by
  have h0 := h
  obtain ⟨rfl, h2, h3, rfl, rfl, h6, h7, h8, h9, h10, h11⟩ := h
  obtain ⟨j, hj1, hj2, rfl⟩ := hw
  have ld : (K.drop (K.length - k)).length = k := by rw [List.length_drop]; omega
  have hd : NE T (none, w, K.drop (K.length - k)) (nI k) (lN j) := Or.inr ⟨rfl, by rw [ld], by rw [ld]; exact hk8, j, hj1, hj2, rfl⟩
  unfold p_Terms_compound p_Ints_size
  rw [nI_l (by omega)]
  refine wp_bind (tn_new (nI k) (lN j) a b c e g z h3 h6 h7) ?_
  rintro ⟨⟨r, nd', sn', sf', vn', vf', fn', ff'⟩, mq, sk⟩ ⟨a1, a2, a3, a4, a5, a6, a7, a8, a9, a10, a11, a12, a13⟩
  dsimp only at a1 a2 a3 a4 a5 a6 a7 a8 a9 a10 a11 a12 a13 ⊢
  subst a2 a3 a4
  refine wp_al (wp_bs rfl ?_)
  have lm : (K.map rI).length = K.length := List.length_map ..
  rw [hL.1, lm, pk_sub hk, ← lm, ← hL.1, lm]
  refine wp_mono (cm_loop n r (nI (200 + S.length + 1)) _ sf' _ vf' _ ff' hL (by omega) k (K.length - k) n (pl S) ps pn pf (by omega) (by omega) h8 hP) ?_
  rintro ⟨⟨r2, nd2, sn2, sf2, vn2, vf2, fn2, ff2, ps2, pn2, pf2⟩, m2, k2⟩ ⟨d1, d2, d3, d4, d5, d6, d7, d8, d9, d10⟩
  dsimp only at d1 d2 d3 d4 d5 d6 d7 d8 d9 d10 ⊢
  subst d1 d2 d3 d4 d5 d6 d7 d8
  refine ⟨a1, ct_arr h0 hd hS a5 a6 a7 a10 a11 a12 a13 ?_ ?_, mq, sk, m2, k2, rfl, rfl, ⟨a8, a9⟩, gw_mono d10 (by omega)⟩
  · rw [pl_app, List.map_drop]
    exact d9
  · obtain ⟨_, _, q | q⟩ := d10
    · omega
    · omega
/-! variables -/
def VE (T : List (List Int32)) (w : List Int32) (x : Int32) : Prop := (w = [95] ∧ x = -1) ∨ (w ≠ [95] ∧ nm T w x)
def CV (T : List (List Int32)) (V : List (List Int32)) (vs : Int32) (vnf : Nat → Int32) : Prop := vs = nI V.length ∧ V.length ≤ 200 ∧ ∀ i w, V[i]? = some w → VE T w (vnf i)
theorem ve_app {T U : List (List Int32)} {w : List Int32} {x : Int32} (h : VE T w x) : VE (T ++ U) w x := by
  rcases h with h | ⟨h1, h2⟩
  · exact Or.inl h
  · exact Or.inr ⟨h1, nm_app h2⟩
theorem nm_m1 {T : List (List Int32)} {w : List Int32} {x : Int32} (h : nm T w x) (hT : T.length < 65536) : ¬ x = -1 := by
  obtain ⟨j, h1, h2, rfl⟩ := h
  intro e
  have : nI j < 0 := by rw [e]; decide
  exact nI_pos (by omega) this
theorem nm_eq {T : List (List Int32)} {w v : List Int32} {x y : Int32} (hx : nm T w x) (hy : nm T v y) (hT : T.length < 65536) (hN : T.Nodup) : x = y ↔ w = v := by
  obtain ⟨j, h1, h2, rfl⟩ := hx
  obtain ⟨k, h3, h4, rfl⟩ := hy
  rw [nI_eq (by omega) (by omega), ← h2, ← h4]
  constructor
  · intro e
    rw [e]
  · intro e
    rw [List.getD_eq_getElem?_getD, List.getD_eq_getElem?_getD, List.getElem?_eq_getElem h1, List.getElem?_eq_getElem h3] at e
    rw [Option.getD_some, Option.getD_some] at e
    exact (List.getElem?_inj h1 hN).mp (by rw [List.getElem?_eq_getElem h1, List.getElem?_eq_getElem h3, e])
theorem ve_eq {T : List (List Int32)} {w v : List Int32} {x y : Int32} (hx : VE T w x) (hy : VE T v y) (hT : T.length < 65536) (hN : T.Nodup) : x = y ↔ w = v := by
  rcases hx with ⟨rfl, rfl⟩ | ⟨h1, h2⟩
  · rcases hy with ⟨rfl, rfl⟩ | ⟨h3, h4⟩
    · exact ⟨fun _ => rfl, fun _ => rfl⟩
    · exact ⟨fun e => absurd e.symm (nm_m1 h4 hT), fun e => absurd e.symm h3⟩
  · rcases hy with ⟨rfl, rfl⟩ | ⟨h3, h4⟩
    · exact ⟨fun e => absurd e (nm_m1 h2 hT), fun e => absurd e h1⟩
    · exact nm_eq h2 h4 hT hN
def vfi (V : List (List Int32)) (w : List Int32) : Nat := if w = [95] then V.length else V.idxOf w
theorem cv_end {T V : List (List Int32)} {w : List Int32} {x vs : Int32} {vnf : Nat → Int32} (h : CV T V vs vnf) (hw : VE T w x) : CV T (V ++ [w]) (nI (V.length + 1)) (upd vnf V.length x) ∨ V.length = 200 := by
  obtain ⟨h1, h2, h3⟩ := h
  by_cases q : V.length = 200
  · exact Or.inr q
  · refine Or.inl ⟨by rw [List.length_append, List.length_singleton], by rw [List.length_append, List.length_singleton]; omega, fun i u hu => ?_⟩
    obtain ⟨hi, e⟩ := List.getElem?_eq_some_iff.mp hu
    rw [List.length_append, List.length_singleton] at hi
    by_cases z : i = V.length
    · subst z
      rw [List.getElem?_append_right (Nat.le_refl _), Nat.sub_self] at hu
      obtain rfl : w = u := by injection hu
      rw [pk_us]
      exact hw
    · rw [List.getElem?_append_left (by omega)] at hu
      rw [pk_un z]
      exact h3 i u hu
/-- the class's variable of a name -/
def VP (T V : List (List Int32)) (w : List Int32) (vs lk : Int32) (vnf : Nat → Int32) : Int32 × Int32 × Int32 × (Nat → Int32) → Prop :=
  fun (r, vs', lk', vnf') => (vfi V w < V.length ∧ r = nI (vfi V w) ∧ vs' = vs ∧ lk' = lk ∧ vnf' = vnf) ∨ (V.length ≤ vfi V w ∧ V.length = 200 ∧ r = 200 ∧ vs' = vs ∧ lk' = 1 ∧ vnf' = vnf) ∨ (V.length ≤ vfi V w ∧ V.length < 200 ∧ r = nI V.length ∧ lk' = lk ∧ CV T (V ++ [w]) vs' vnf')
theorem cv_last (n : Nat) (kf : Nat) {T V : List (List Int32)} {w : List Int32} {x vs lk : Int32} {vnf : Nat → Int32} (h : CV T V vs vnf) (hw : VE T w x) (hv : V.length ≤ vfi V w) : wp (if vs = 200 then (some ((200 : Int32), vs, (1 : Int32), vnf)) else (ck (ixb vs 200) (some ((vs + 1) - 1, vs + 1, lk, upd vnf vs.toNatClampNeg x)))) (VP T V w vs lk vnf) := by
  have h0 := h
  obtain ⟨rfl, h2, h3⟩ := h
  by_cases q : V.length = 200
  · exact wp_it (by rw [q]; rfl) (wp_some (Or.inr (Or.inl ⟨hv, q, rfl, rfl, rfl, rfl⟩)))
  · refine wp_if (fun z => q ((nI_eq (a := V.length) (b := 200) (by omega) (by omega)).mp z)) (wp_ck (ixb_t (by omega) (by omega)) (wp_some (Or.inr (Or.inr ⟨hv, by omega, p1s _, rfl, ?_⟩))))
    rw [nI_clamp (by omega), nI_1]
    rcases cv_end h0 hw with z | z
    · exact z
    · exact absurd z q
theorem cv_loop (n : Nat) {T V : List (List Int32)} {w : List Int32} {x vs lk : Int32} {vnf : Nat → Int32} (h : CV T V vs vnf) (hw : VE T w x) (hT : T.length < 65536) (hN : T.Nodup) (h95 : w ≠ [95]) : ∀ (U : List (List Int32)) (i kf : Nat), V.drop i = U → i ≤ V.length → U.length < kf → vfi V w = i + U.idxOf w → wp (p_Terms_variable_2 n x vs lk 200 vnf kf (nI i)) (VP T V w vs lk vnf) := by
  have h0 := h
  obtain ⟨hv, h2, h3⟩ := h
  intro U
  induction U with
  | nil =>
    intro i kf hd hi hk hf
    rw [List.length_nil] at hk
    obtain ⟨kf, rfl⟩ : ∃ z, kf = z + 1 := ⟨kf - 1, by omega⟩
    have hi2 : V.length ≤ i := by
      have := congrArg List.length hd
      rw [List.length_drop, List.length_nil] at this
      omega
    rw [p_Terms_variable_2]
    exact wp_it (by rw [hv]; exact nI_le hi2 (by omega)) (cv_last n kf h0 hw (by rw [hf]; omega))
  | cons u U ih =>
    intro i kf hd hi hk hf
    rw [List.length_cons] at hk
    obtain ⟨kf, rfl⟩ : ∃ z, kf = z + 1 := ⟨kf - 1, by omega⟩
    have hi2 : i < V.length := by
      have := congrArg List.length hd
      rw [List.length_drop, List.length_cons] at this
      omega
    rw [List.drop_eq_getElem_cons hi2] at hd
    injection hd with e1 e2
    have hu : VE T u (vnf i) := h3 i u (by rw [List.getElem?_eq_getElem hi2, e1])
    have hx : ¬ x = -1 := by
      rcases hw with ⟨q, _⟩ | ⟨_, q⟩
      · exact absurd q h95
      · exact nm_m1 q hT
    rw [p_Terms_variable_2]
    refine wp_if (by rw [hv]; exact nI_ge hi2 (by omega)) (wp_if hx (wp_ck (ixb_t (by omega) (by omega)) ?_))
    rw [nI_clamp (by omega)]
    rw [List.idxOf_cons] at hf
    by_cases q : u = w
    · refine wp_it ((ve_eq hu hw hT hN).mpr q) (wp_some (Or.inl ?_))
      rw [beq_iff_eq.mpr q] at hf
      have hf' : vfi V w = i := hf
      exact ⟨by omega, by rw [hf'], rfl, rfl, rfl⟩
    · refine wp_if (fun z => q ((ve_eq hu hw hT hN).mp z)) ?_
      rw [beq_eq_false_iff_ne.mpr q] at hf
      rw [nI_1]
      exact ih (i + 1) kf e2 (by omega) (by omega) (by rw [hf]; show i + (U.idxOf w + 1) = _; omega)
theorem cv_var (n : Nat) (a b c d e : Int32) {T V : List (List Int32)} {w : List Int32} {x vs lk : Int32} {vnf : Nat → Int32} (h : CV T V vs vnf) (hw : VE T w x) (hT : T.length < 65536) (hN : T.Nodup) (hn : 300 < n) : wp (p_Terms_variable n x a vs lk b c d e 200 vnf) (VP T V w vs lk vnf) := by
  unfold p_Terms_variable
  have h2 := h.2.1
  have hv := h.1
  by_cases q : w = [95]
  · obtain ⟨n, rfl⟩ : ∃ z, n = z + 1 := ⟨n - 1, by omega⟩
    have hx : x = -1 := by
      rcases hw with ⟨_, z⟩ | ⟨z, _⟩
      · exact z
      · exact absurd q z
    have hf : V.length ≤ vfi V w := by unfold vfi; rw [if_pos q]; exact Nat.le_refl _
    rw [p_Terms_variable_2]
    by_cases q2 : V.length = 0
    · exact wp_it (by rw [hv, q2]; decide) (cv_last n n h hw hf)
    · exact wp_if (by rw [hv, ← nI_0]; exact nI_ge (by omega) (by omega)) (wp_it hx (cv_last n n h hw hf))
  · have := cv_loop n (lk := lk) h hw hT hN q V 0 n rfl (Nat.zero_le _) (by omega) (by unfold vfi; rw [if_neg q]; omega)
    rw [nI_0] at this
    exact this
/-! ===== a machine that reads ===== -/
abbrev Tk : Type := Nat × Nat × Nat × List Int32 × Nat
/-- an integer; a variable (100); a name with so many parts -/
abbrev Ev : Type := Option Int64 × List Int32 × Nat
/-- most, level, awaits, name, the name's level, parts -/
abbrev Op : Type := Nat × Nat × Nat × List Int32 × Nat × Nat
/-- mode, next most, open, from, last name, behind it, first, events, broken -/
abbrev Ps : Type := Nat × Nat × List Op × Nat × List Int32 × Nat × Nat × List Ev × Option Nat
def KT : List (List Int32) := [[91, 93], [46], [44], [45], [92, 43], [58, 45], [59], [45, 62], [61], [92, 61], [61, 61], [92, 61, 61], [105, 115], [60], [62], [61, 60], [62, 61], [61, 58, 61], [61, 92, 61], [43], [42], [47, 47], [109, 111, 100], [114, 101, 109]]
def KL : List (Nat × Nat × Nat × Nat) := [(0, 0, 0, 0), (0, 0, 0, 0), (1000, 999, 1000, 0), (500, 500, 499, 200), (0, 0, 0, 900), (1200, 1199, 1199, 0), (1100, 1099, 1100, 0), (1050, 1049, 1050, 0), (700, 699, 699, 0), (700, 699, 699, 0), (700, 699, 699, 0), (700, 699, 699, 0), (700, 699, 699, 0), (700, 699, 699, 0), (700, 699, 699, 0), (700, 699, 699, 0), (700, 699, 699, 0), (700, 699, 699, 0), (700, 699, 699, 0), (500, 500, 499, 0), (400, 400, 399, 0), (400, 400, 399, 0), (400, 400, 399, 0), (400, 400, 399, 0)]
def lvl (w : List Int32) : Nat × Nat × Nat × Nat := KL.getD (KT.idxOf w) (0, 0, 0, 0)
def sop (k : Tk) : Option (List Int32) := if k.1 = 44 then some [44] else if k.1 = 3 ∧ k.2.2.2.1 ≠ [44] ∧ 0 < (lvl k.2.2.2.1).1 then some k.2.2.2.1 else none
def cbg (k : Tk) : Bool := if k.1 = 4 ∨ k.1 = 41 ∨ k.1 = 44 ∨ k.1 = 93 ∨ k.1 = 124 ∨ k.1 = 125 then false else (match sop k with
  | none => true
  | some w => decide (0 < (lvl w).2.2.2))
def ptm : List Op → Bool
  | [] => false
  | o :: _ => decide (o.2.2.1 = 4) && decide (8 < o.2.2.2.2.2)
def st1 (k : Tk) (nx : Nat) (O : List Op) (i : Nat) (ln : List Int32) (lb fi : Nat) (E : List Ev) : Ps :=
  if O.length = 100 ∨ ptm O = true then (1, nx, O, i, ln, lb, (if O = [] then k.2.1 else fi), E, some k.2.1)
  else if k.1 = 3 then (2, nx, (nx, 0, 0, [], 0, 0) :: O, k.2.2.1, k.2.2.2.1, k.2.2.1, (if O = [] then k.2.1 else fi), E, none)
  else if k.1 = 1 then (3, nx, (nx, 0, 0, [], 0, 0) :: O, k.2.2.1, ln, lb, (if O = [] then k.2.1 else fi), E ++ [(none, k.2.2.2.1, 100)], none)
  else if k.1 = 2 then (3, nx, (nx, 0, 0, [], 0, 0) :: O, k.2.2.1, ln, lb, (if O = [] then k.2.1 else fi), E ++ [(some (lN k.2.2.2.2), [], 0)], none)
  else if k.1 = 40 then (1, 1200, (nx, 0, 3, [91, 93], 0, 1) :: O, k.2.2.1, ln, lb, (if O = [] then k.2.1 else fi), E, none)
  else if k.1 = 91 then (1, 999, (nx, 0, 5, [46], 0, 1) :: O, k.2.2.1, ln, lb, (if O = [] then k.2.1 else fi), E, none)
  else (1, nx, O, i, ln, lb, (if O = [] then k.2.1 else fi), E, some k.2.1)
def st2 (k : Tk) (nx : Nat) (o : Op) (O : List Op) (i : Nat) (ln : List Int32) (lb fi : Nat) (E : List Ev) : Ps :=
  if k.2.1 = lb ∧ k.1 = 40 then (1, 999, (o.1, o.2.1, 4, ln, o.2.2.2.2.1, 1) :: O, k.2.2.1, ln, lb, fi, E, none)
  else if k.2.1 = lb ∧ ln = [45] ∧ k.1 = 2 then (3, nx, o :: O, k.2.2.1, ln, lb, fi, E ++ [(some (-(lN k.2.2.2.2)), [], 0)], none)
  else if 0 < (lvl ln).2.2.2 ∧ (lvl ln).2.2.2 ≤ o.1 ∧ cbg k = true then (1, (lvl ln).2.2.2, (o.1, o.2.1, 2, ln, (lvl ln).2.2.2, o.2.2.2.2.2) :: O, i, ln, lb, fi, E, none)
  else (3, nx, o :: O, i, ln, lb, fi, E ++ [(none, ln, 0)], none)
def st3 (k : Tk) (nx : Nat) (o : Op) (O : List Op) (i : Nat) (ln : List Int32) (lb fi : Nat) (E : List Ev) : Ps :=
  match sop k with
  | none => ((if O = [] then 5 else 4), nx, O, i, ln, lb, fi, E, none)
  | some w => if (lvl w).1 ≤ o.1 ∧ o.2.1 ≤ (lvl w).2.1 then (1, (lvl w).2.2.1, (o.1, o.2.1, 1, w, (lvl w).1, o.2.2.2.2.2) :: O, k.2.2.1, ln, lb, fi, E, none) else ((if O = [] then 5 else 4), nx, O, i, ln, lb, fi, E, none)
def st4 (k : Tk) (nx : Nat) (o : Op) (O : List Op) (i : Nat) (ln : List Int32) (lb fi : Nat) (E : List Ev) : Ps :=
  if o.2.2.1 = 1 then (3, nx, (o.1, o.2.2.2.2.1, o.2.2) :: O, i, ln, lb, fi, E ++ [(none, o.2.2.2.1, 2)], none)
  else if o.2.2.1 = 2 then (3, nx, (o.1, o.2.2.2.2.1, o.2.2) :: O, i, ln, lb, fi, E ++ [(none, o.2.2.2.1, 1)], none)
  else if o.2.2.1 = 3 then (if k.1 = 41 then (3, nx, o :: O, k.2.2.1, ln, lb, fi, E, none) else (4, nx, o :: O, i, ln, lb, fi, E, some k.2.1))
  else if o.2.2.1 = 4 then (if k.1 = 44 then (1, 999, (o.1, o.2.1, o.2.2.1, o.2.2.2.1, o.2.2.2.2.1, o.2.2.2.2.2 + 1) :: O, k.2.2.1, ln, lb, fi, E, none) else if k.1 = 41 then (3, nx, o :: O, k.2.2.1, ln, lb, fi, E ++ [(none, o.2.2.2.1, o.2.2.2.2.2)], none) else (4, nx, o :: O, i, ln, lb, fi, E, some k.2.1))
  else if o.2.2.1 = 5 then (if k.1 = 44 then (1, 999, (o.1, o.2.1, o.2.2.1, o.2.2.2.1, o.2.2.2.2.1, o.2.2.2.2.2 + 1) :: O, k.2.2.1, ln, lb, fi, E, none) else if k.1 = 124 then (1, 999, (o.1, o.2.1, 6, o.2.2.2) :: O, k.2.2.1, ln, lb, fi, E, none) else (4, nx, (o.1, o.2.1, 6, o.2.2.2) :: O, i, ln, lb, fi, E ++ [(none, [91, 93], 0)], none))
  else (if k.1 = 93 then (3, nx, o :: O, k.2.2.1, ln, lb, fi, E ++ List.replicate o.2.2.2.2.2 (none, o.2.2.2.1, 2), none) else (4, nx, o :: O, i, ln, lb, fi, E, some k.2.1))
def stp (l : List Int32) : Ps → Ps := fun (md, nx, O, i, ln, lb, fi, E, br) =>
  if br ≠ none ∨ 7 ≤ md then (md, nx, O, i, ln, lb, fi, E, br)
  else if md = 1 then st1 (tkn l i) nx O i ln lb fi E
  else if md = 5 then (if (tkn l i).1 = 4 then (6, nx, O, (tkn l i).2.2.1, ln, lb, fi, E, none) else (5, nx, O, i, ln, lb, fi, E, some (tkn l i).2.1))
  else if md = 6 then (if (tkn l i).1 = 5 then (7, nx, O, (tkn l i).2.2.1, ln, lb, fi, E, none) else (6, nx, O, i, ln, lb, fi, E, some (tkn l i).2.1))
  else match O with
    | [] => (md, nx, O, i, ln, lb, fi, E, some i)
    | o :: O => if md = 2 then st2 (tkn l i) nx o O i ln lb fi E else if md = 3 then st3 (tkn l i) nx o O i ln lb fi E else st4 (tkn l i) nx o O i ln lb fi E
def rn (l : List Int32) : Nat → Ps → Ps
  | 0, s => s
  | k + 1, s => rn l k (stp l s)
theorem rn_add (l : List Int32) : ∀ (a b : Nat) (s : Ps), rn l (a + b) s = rn l b (rn l a s) := by
  intro a
  induction a with
  | zero => intro b s; rw [Nat.zero_add]; rfl
  | succ a ih => intro b s; rw [Nat.add_right_comm, rn, rn, ih]
/-! known names -/
theorem kn_i {T U : List (List Int32)} (hT : T = KT ++ U) (hN : T.Nodup) {w : List Int32} {x : Int32} (h : nm T w x) (hl : T.length < 65536) : (∃ j, j < 24 ∧ lvl w = KL.getD j (0, 0, 0, 0) ∧ KT.getD j [] = w ∧ x = nI j) ∨ (∃ j, 24 ≤ j ∧ j < 65536 ∧ lvl w = (0, 0, 0, 0) ∧ w ∉ KT ∧ x = nI j) := by
  obtain ⟨j, h1, h2, h3⟩ := h
  by_cases q : j < 24
  · refine Or.inl ⟨j, q, ?_, ?_, h3⟩
    · rw [hT, gd_1 q] at h2
      have : KT.idxOf w = j := by
        have tb : ∀ j, j < 24 → KT.idxOf (KT.getD j []) = j := by decide
        rw [← h2]
        exact tb j q
      unfold lvl
      rw [this]
    · rw [hT, gd_1 q] at h2
      exact h2
  · have nw : w ∉ KT := fun hm => by
      obtain ⟨k, hk, e⟩ := List.mem_iff_getElem.mp hm
      have hk' : k < 24 := hk
      have e1 : T[k]? = some w := by
        rw [hT, List.getElem?_append_left hk, List.getElem?_eq_getElem hk, e]
      have e2 : T[j]? = some w := by
        rw [List.getD_eq_getElem?_getD, List.getElem?_eq_getElem h1, Option.getD_some] at h2
        rw [List.getElem?_eq_getElem h1, h2]
      have := (List.getElem?_inj (i := j) (j := k) h1 hN).mp (by rw [e1, e2])
      omega
    refine Or.inr ⟨j, by omega, by omega, ?_, nw, h3⟩
    unfold lvl
    rw [List.idxOf_eq_length nw]
    rfl
theorem kn_known (j : Nat) (h : j < 65536) : p_Names_isKnown (nI j) = some (if j < 24 then 1 else 0) := by
  unfold p_Names_isKnown
  rw [if_neg (nI_pos (by omega))]
  by_cases q : j < 24
  · rw [if_neg (show ¬ (24 : Int32) ≤ nI j from nI_ge (a := j) (b := 24) q (by omega)), if_pos q]
  · rw [if_pos (show (24 : Int32) ≤ nI j from nI_le (a := 24) (b := j) (by omega) (by omega)), if_neg q]
theorem kn_sidesL {T U : List (List Int32)} (hT : T = KT ++ U) (hN : T.Nodup) {w : List Int32} {x : Int32} (h : nm T w x) (hl : T.length < 65536) (a b : Int32) : p_Names_sidesLevel x a b = some (nI (lvl w).1) := by
  unfold p_Names_sidesLevel
  have tb : ∀ j, j < 24 → kn_level.getD j 0 = nI (KL.getD j (0, 0, 0, 0)).1 := by decide
  rcases kn_i hT hN h hl with ⟨j, q, e, _, rfl⟩ | ⟨j, q, q2, e, _, rfl⟩
  · rw [kn_known j (by omega), Option.bind_some, if_pos q, if_neg (by decide), ck_t (ixb_t q (by omega)), nI_clamp (by omega), tb j q, e]
  · rw [kn_known j (by omega), Option.bind_some, if_neg (show ¬ j < 24 by omega), if_pos rfl, e]
    rfl
theorem kn_leftM {T U : List (List Int32)} (hT : T = KT ++ U) (hN : T.Nodup) {w : List Int32} {x : Int32} (h : nm T w x) (hl : T.length < 65536) (a b : Int32) : p_Names_leftMost x a b = some (nI (lvl w).2.1) := by
  unfold p_Names_leftMost
  have tb : ∀ j, j < 24 → kn_left.getD j 0 = nI (KL.getD j (0, 0, 0, 0)).2.1 := by decide
  rcases kn_i hT hN h hl with ⟨j, q, e, _, rfl⟩ | ⟨j, q, q2, e, _, rfl⟩
  · rw [kn_known j (by omega), Option.bind_some, if_pos q, if_neg (by decide), ck_t (ixb_t q (by omega)), nI_clamp (by omega), tb j q, e]
  · rw [kn_known j (by omega), Option.bind_some, if_neg (show ¬ j < 24 by omega), if_pos rfl, e]
    rfl
theorem kn_rightM {T U : List (List Int32)} (hT : T = KT ++ U) (hN : T.Nodup) {w : List Int32} {x : Int32} (h : nm T w x) (hl : T.length < 65536) (a b : Int32) : p_Names_rightMost x a b = some (nI (lvl w).2.2.1) := by
  unfold p_Names_rightMost
  have tb : ∀ j, j < 24 → kn_right.getD j 0 = nI (KL.getD j (0, 0, 0, 0)).2.2.1 := by decide
  rcases kn_i hT hN h hl with ⟨j, q, e, _, rfl⟩ | ⟨j, q, q2, e, _, rfl⟩
  · rw [kn_known j (by omega), Option.bind_some, if_pos q, if_neg (by decide), ck_t (ixb_t q (by omega)), nI_clamp (by omega), tb j q, e]
  · rw [kn_known j (by omega), Option.bind_some, if_neg (show ¬ j < 24 by omega), if_pos rfl, e]
    rfl
theorem kn_pref {T U : List (List Int32)} (hT : T = KT ++ U) (hN : T.Nodup) {w : List Int32} {x : Int32} (h : nm T w x) (hl : T.length < 65536) (a b : Int32) : p_Names_prefixLevel x a b = some (nI (lvl w).2.2.2) := by
  unfold p_Names_prefixLevel
  have tb : ∀ j, j < 24 → kn_prefixLevel.getD j 0 = nI (KL.getD j (0, 0, 0, 0)).2.2.2 := by decide
  rcases kn_i hT hN h hl with ⟨j, q, e, _, rfl⟩ | ⟨j, q, q2, e, _, rfl⟩
  · rw [kn_known j (by omega), Option.bind_some, if_pos q, if_neg (by decide), ck_t (ixb_t q (by omega)), nI_clamp (by omega), tb j q, e]
  · rw [kn_known j (by omega), Option.bind_some, if_neg (show ¬ j < 24 by omega), if_pos rfl, e]
    rfl
theorem lvl_lt (w : List Int32) : (lvl w).1 ≤ 1200 ∧ (lvl w).2.1 ≤ 1200 ∧ (lvl w).2.2.1 ≤ 1200 ∧ (lvl w).2.2.2 ≤ 900 := by
  have : ∀ j, j < 24 → (KL.getD j (0, 0, 0, 0)).1 ≤ 1200 ∧ (KL.getD j (0, 0, 0, 0)).2.1 ≤ 1200 ∧ (KL.getD j (0, 0, 0, 0)).2.2.1 ≤ 1200 ∧ (KL.getD j (0, 0, 0, 0)).2.2.2 ≤ 900 := by decide
  unfold lvl
  by_cases q : KT.idxOf w < 24
  · exact this _ q
  · rw [List.getD_eq_getElem?_getD, List.getElem?_eq_none (by show 24 ≤ _; omega)]
    decide
/-- how far a sign goes -/
theorem tk_len (l : List Int32) {i : Nat} (hi : i ≤ l.length) : i ≤ (tkn l i).2.1 ∧ (tkn l i).2.1 ≤ (tkn l i).2.2.1 ∧ (tkn l i).2.2.1 ≤ l.length ∧ ((tkn l i).1 ≠ 5 → (tkn l i).2.1 < (tkn l i).2.2.1) ∧ (tkn l i).2.2.2.1.length ≤ (tkn l i).2.2.1 - (tkn l i).2.1 ∧ (tkn l i).1 ≤ 125 := by
  have hle := sk_le (l.drop i) false
  rw [List.length_drop] at hle
  have hal : i + sk false (l.drop i) ≤ l.length := by omega
  have hia : i ≤ i + sk false (l.drop i) := by omega
  unfold tkn
  generalize i + sk false (l.drop i) = a at hal hia ⊢
  cases hd : l.drop a with
  | nil => exact ⟨hia, Nat.le_refl _, hal, fun z => absurd rfl z, Nat.zero_le _, by show 5 ≤ 125; decide⟩
  | cons b t =>
    have dl := drop_len hd hal
    rw [List.length_cons] at dl
    have tl := fun p => tw_le p (b :: t)
    have tW := tl cW
    have tD := tl cD
    have tY := tl cY
    rw [List.length_cons] at tW tD tY
    rw [tk1]
    by_cases qG : cG b = true
    · have : tw cW (b :: t) = 1 + tw cW t := tw_cons (by unfold cW; rw [qG, Bool.or_true]; rfl)
      rw [if_pos qG]
      exact ⟨hia, by dsimp only; omega, by dsimp only; omega, fun _ => by dsimp only; omega, by dsimp only; rw [List.length_take]; omega, by dsimp only; omega⟩
    rw [if_neg qG]
    by_cases qS : cS b = true
    · have : tw cW (b :: t) = 1 + tw cW t := tw_cons (by unfold cW; rw [qS]; rfl)
      rw [if_pos qS]
      exact ⟨hia, by dsimp only; omega, by dsimp only; omega, fun _ => by dsimp only; omega, by dsimp only; rw [List.length_take]; omega, by dsimp only; omega⟩
    rw [if_neg qS]
    by_cases qD : cD b = true
    · have : tw cD (b :: t) = 1 + tw cD t := tw_cons qD
      rw [if_pos qD]
      refine ⟨hia, by dsimp only; omega, by dsimp only; omega, fun _ => by dsimp only; omega, Nat.zero_le _, ?_⟩
      dsimp only
      by_cases q : dv 0 (b :: t) < 9007199254740992
      · rw [if_pos q]
        omega
      · rw [if_neg q]
        omega
    rw [if_neg qD]
    by_cases q39 : b = 39
    · rw [if_pos q39]
      have ql : ∀ (k : Nat) (t : List Int32) (w : List Int32) (m : Nat), qt k t = some (w, m) → m ≤ t.length ∧ w.length < m := by
        intro k
        induction k with
        | zero => intro t w m h; cases h
        | succ k ih =>
          intro t w m h
          cases t with
          | nil => cases h
          | cons b t =>
            rw [qt_c] at h
            by_cases c1 : cQ b = true
            · rw [if_pos c1] at h
              by_cases c2 : b = 39
              · rw [if_pos c2] at h
                cases t with
                | nil =>
                  injection h with h
                  injection h with h1 h2
                  subst h1 h2
                  exact ⟨by simp, by simp⟩
                | cons c u =>
                  dsimp only at h
                  by_cases c3 : c = 39
                  · rw [if_pos c3] at h
                    cases hq : qt k u with
                    | none => rw [hq] at h; cases h
                    | some z =>
                      obtain ⟨w', m'⟩ := z
                      rw [hq] at h
                      injection h with h
                      injection h with h1 h2
                      subst h1 h2
                      have := ih u w' m' hq
                      simp only [List.length_cons]
                      omega
                  · rw [if_neg c3] at h
                    injection h with h
                    injection h with h1 h2
                    subst h1 h2
                    exact ⟨by simp, by simp⟩
              · rw [if_neg c2] at h
                cases hq : qt k t with
                | none => rw [hq] at h; cases h
                | some z =>
                  obtain ⟨w', m'⟩ := z
                  rw [hq] at h
                  injection h with h
                  injection h with h1 h2
                  subst h1 h2
                  have := ih t w' m' hq
                  simp only [List.length_cons]
                  omega
            · rw [if_neg c1] at h
              cases h
      cases hq : qt (t.length + 1) t with
      | none => exact ⟨hia, by dsimp only; omega, by dsimp only; omega, fun _ => by dsimp only; omega, Nat.zero_le _, by dsimp only; omega⟩
      | some z =>
        obtain ⟨w, m⟩ := z
        have := ql _ _ _ _ hq
        exact ⟨hia, by dsimp only; omega, by dsimp only; omega, fun _ => by dsimp only; omega, by dsimp only; omega, by dsimp only; omega⟩
    rw [if_neg q39]
    by_cases qY : cY b = true
    · have : tw cY (b :: t) = 1 + tw cY t := tw_cons qY
      rw [if_pos qY]
      by_cases q : tw cY (b :: t) = 1 ∧ b = 46 ∧ endq t = true
      · rw [if_pos q]
        exact ⟨hia, by dsimp only; omega, by dsimp only; omega, fun _ => by dsimp only; omega, Nat.zero_le _, by dsimp only; omega⟩
      · rw [if_neg q]
        exact ⟨hia, by dsimp only; omega, by dsimp only; omega, fun _ => by dsimp only; omega, by dsimp only; rw [List.length_take]; omega, by dsimp only; omega⟩
    rw [if_neg qY]
    by_cases q33 : b = 33 ∨ b = 59
    · rw [if_pos q33]
      exact ⟨hia, by dsimp only; omega, by dsimp only; omega, fun _ => by dsimp only; omega, by dsimp only; rw [List.length_singleton]; omega, by dsimp only; omega⟩
    rw [if_neg q33]
    by_cases q91 : b = 91 ∧ t.head? = some 93
    · rw [if_pos q91]
      have : 1 ≤ t.length := by
        cases t with
        | nil => cases q91.2
        | cons c u => rw [List.length_cons]; omega
      exact ⟨hia, by dsimp only; omega, by dsimp only; omega, fun _ => by dsimp only; omega, by dsimp only; simp, by dsimp only; omega⟩
    rw [if_neg q91]
    by_cases qM : cM b = true
    · rw [if_pos qM]
      refine ⟨hia, by dsimp only; omega, by dsimp only; omega, fun _ => by dsimp only; omega, Nat.zero_le _, ?_⟩
      dsimp only
      unfold cM at qM
      rw [List.contains_iff_mem] at qM
      have tb : ∀ b : Int32, b ∈ [(40 : Int32), 41, 91, 93, 123, 125, 44, 124] → b.toInt.toNat ≤ 125 := by
        intro b hb
        simp only [List.mem_cons, List.not_mem_nil, or_false] at hb
        rcases hb with rfl | rfl | rfl | rfl | rfl | rfl | rfl | rfl <;> decide
      exact tb b qM
    · rw [if_neg qM]
      exact ⟨hia, by dsimp only; omega, by dsimp only; omega, fun _ => by dsimp only; omega, Nat.zero_le _, by dsimp only; omega⟩
/-! ===== what is read becomes nodes: the class ===== -/
/-- nodes, variables, values, variables lack, symbols -/
abbrev Cs : Type := List Nd × List (List Int32) × List Rf × Bool × Nat
def wc (W W' mq sk : Nat) : Prop := 64 * mq + W ≤ W' ∧ sk + 2 * W ≤ 2 * W'
theorem wc_refl (W : Nat) : wc W W 0 0 := ⟨by omega, by omega⟩
theorem wc_trans {W W1 W2 m1 s1 m2 s2 : Nat} (h1 : wc W W1 m1 s1) (h2 : wc W1 W2 m2 s2) : wc W W2 (m2 + m1) (s2 + s1) := by
  obtain ⟨a1, a2⟩ := h1
  obtain ⟨b1, b2⟩ := h2
  exact ⟨by omega, by omega⟩
theorem wp_als {ρ : Type} {k n : Nat} {x : ρ} {Q : ρ × Nat × Nat → Prop} (h : Q (x, k, n)) : wp (al k n (some (x, 0, 0))) Q := by
  refine ⟨(x, k, n), ?_, h⟩
  simp only [al, Option.map_some, Nat.zero_add]
def apc (c : Cs) (e : Ev) : Cs :=
  match e.1 with
  | some z => if c.2.2.2.2 < 1000 then (c.1 ++ [(some z, [], [])], c.2.1, c.2.2.1 ++ [(false, c.1.length)], c.2.2.2.1, c.2.2.2.2 + 1) else (c.1, c.2.1, c.2.2.1 ++ [(false, 0)], c.2.2.2.1, c.2.2.2.2 + 1)
  | none => if e.2.2 = 100 then (if vfi c.2.1 e.2.1 < c.2.1.length then (c.1, c.2.1, c.2.2.1 ++ [(true, vfi c.2.1 e.2.1)], c.2.2.2.1, c.2.2.2.2 + 1) else if c.2.1.length = 200 then (c.1, c.2.1, c.2.2.1 ++ [(false, 0)], true, c.2.2.2.2 + 1) else (c.1, c.2.1 ++ [e.2.1], c.2.2.1 ++ [(true, c.2.1.length)], c.2.2.2.1, c.2.2.2.2 + 1))
    else if c.2.2.2.2 < 1000 then (c.1 ++ [(none, e.2.1, c.2.2.1.drop (c.2.2.1.length - e.2.2))], c.2.1, c.2.2.1.take (c.2.2.1.length - e.2.2) ++ [(false, c.1.length)], c.2.2.2.1, c.2.2.2.2 + 1) else (c.1, c.2.1, c.2.2.1.take (c.2.2.1.length - e.2.2) ++ [(false, 0)], c.2.2.2.1, c.2.2.2.2 + 1)
def DS (T : List (List Int32)) (c : Cs) (nd vs lk sym : Int32) (sn : Nat) (sf : Nat → Int32) (vn : Nat) (vf : Nat → Int64) (fn : Nat) (ff : Nat → Int32) (ps : Int32) (pn : Nat) (pf vnf : Nat → Int32) (ks : Int32) (kn : Nat) (kf : Nat → Int32) : Prop :=
  CT T c.1 nd sn sf vn vf fn ff ps pn pf ∧ CV T c.2.1 vs vnf ∧ lk = b1 c.2.2.2.1 ∧ sym = nI c.2.2.2.2 ∧ IN (c.2.2.1.map rI) ks kn kf ∧ kn ≤ 131072 ∧ c.1.length ≤ 25000 + c.2.2.2.2 ∧ (pl c.1).length + c.2.2.1.length ≤ 25000 + c.2.2.2.2
theorem ds_app {T U : List (List Int32)} {c : Cs} {nd vs lk sym : Int32} {sn : Nat} {sf : Nat → Int32} {vn : Nat} {vf : Nat → Int64} {fn : Nat} {ff : Nat → Int32} {ps : Int32} {pn : Nat} {pf vnf : Nat → Int32} {ks : Int32} {kn : Nat} {kf : Nat → Int32} (h : DS T c nd vs lk sym sn sf vn vf fn ff ps pn pf vnf ks kn kf) : DS (T ++ U) c nd vs lk sym sn sf vn vf fn ff ps pn pf vnf ks kn kf := by
  obtain ⟨⟨h1, h2, h3, h4, h5, h6, h7, h8, h9, h10, h11⟩, ⟨v1, v2, v3⟩, h⟩ := h
  exact ⟨⟨h1, h2, h3, h4, h5, h6, h7, h8, h9, h10, fun i d hd => ⟨ne_app (h11 i d hd).1, (h11 i d hd).2⟩⟩, ⟨v1, v2, fun i w hw => ve_app (v3 i w hw)⟩, h⟩
theorem rd_room {sy : Nat} (h : sy < 20000) (a b c d e g i j : Int32) : p_Reader_hasRoom a b c d e (nI sy) g i j = some (if sy < 1000 then 1 else 0) := by
  unfold p_Reader_hasRoom
  by_cases q : sy < 1000
  · rw [if_neg (show ¬ (1000 : Int32) ≤ nI sy from nI_ge (a := sy) (b := 1000) q (by omega)), if_pos q]
  · rw [if_pos (show (1000 : Int32) ≤ nI sy from nI_le (a := 1000) (b := sy) (by omega) (by omega)), if_neg q]
theorem rd_push (a b c d e g i j : Int32) {K : List Rf} {ks : Int32} {kn : Nat} {kf : Nat → Int32} (h : IN (K.map rI) ks kn kf) (hk : kn ≤ 131072) (hK : K.length < 50000) {sy : Nat} (r : Rf) : wp (p_Reader_addValue (rI r) a b c d e (nI sy) g i j ks kn kf) (fun ((s', y', ks', kn', kf'), mq, sk) => s' = 3 ∧ y' = nI (sy + 1) ∧ IN ((K ++ [r]).map rI) ks' kn' kf' ∧ kn' ≤ 131072 ∧ wc kn kn' mq sk) := by
  unfold p_Reader_addValue
  have lm : (K.map rI).length = K.length := List.length_map ..
  refine wp_bind (in_push (rI r) h (by omega)) ?_
  rintro ⟨⟨s1, N1, g1⟩, m1, k1⟩ ⟨c1, c2⟩
  dsimp only at c1 c2 ⊢
  obtain ⟨w1, w2, w3⟩ := c2
  refine wp_als ⟨rfl, nI_1 _, ?_, show N1 ≤ 131072 by omega, w1, w2⟩
  rw [List.map_append]
  exact c1
theorem ds_node {T : List (List Int32)} {c : Cs} {nd vs lk sym : Int32} {sn : Nat} {sf : Nat → Int32} {vn : Nat} {vf : Nat → Int64} {fn : Nat} {ff : Nat → Int32} {ps : Int32} {pn : Nat} {pf vnf : Nat → Int32} {ks : Int32} {kn : Nat} {kf : Nat → Int32} (h : DS T c nd vs lk sym sn sf vn vf fn ff ps pn pf vnf ks kn kf) (hs : c.2.2.2.2 < 20000) {e : Ev} {d : Nd} (he : e.1 ≠ none ∨ (e.1 = none ∧ e.2.2 ≠ 100)) (hd : d.2.2 = []) (ee : apc c e = if c.2.2.2.2 < 1000 then (c.1 ++ [d], c.2.1, c.2.2.1 ++ [(false, c.1.length)], c.2.2.2.1, c.2.2.2.2 + 1) else (c.1, c.2.1, c.2.2.1 ++ [(false, 0)], c.2.2.2.1, c.2.2.2.2 + 1)) (shape : Int32) (value : Int64) (hN : NE T d shape value) (b1' b2 b3 b4 b5 b7 b8 b9 t1 t2 t3 t4 : Int32) : wp ((p_Reader_hasRoom b1' b2 b3 b4 b5 sym b7 b8 b9).bind (fun r1 => if r1 = 0 then ((p_Reader_addValue (200 : Int32) b1' b2 b3 b4 b5 sym b7 b8 b9 ks kn kf).bind (fun ((s', y', ks', kn', kf'), mq, sk) => al mq sk (some ((s', y', nd, sn, sf, vn, vf, fn, ff, ks', kn', kf'), 0, 0)))) else ((p_Terms_newNode shape value nd vs lk t1 t2 t3 t4 sn sf vn vf fn ff ps).bind (fun ((r4, nd', sn', sf', vn', vf', fn', ff'), mk4, sk4) => al mk4 sk4 ((p_Reader_addValue r4 b1' b2 b3 b4 b5 sym b7 b8 b9 ks kn kf).bind (fun ((s', y', ks', kn', kf'), mq, sk) => al mq sk (some ((s', y', nd', sn', sf', vn', vf', fn', ff', ks', kn', kf'), 0, 0)))))))) (fun ((s', sym', nd', sn', sf', vn', vf', fn', ff', ks', kn', kf'), mq, sk) => s' = 3 ∧ DS T (apc c e) nd' vs lk sym' sn' sf' vn' vf' fn' ff' ps pn pf vnf ks' kn' kf' ∧ wc (3 * sn + pn + kn) (3 * sn' + pn + kn') mq sk) := by
  obtain ⟨h1, h2, h3, rfl, h5, h6, h7, h8⟩ := h
  refine wp_bs (rd_room hs _ _ _ _ _ _ _ _) ?_
  rw [ee]
  by_cases q : c.2.2.2.2 < 1000
  · rw [if_pos q, if_pos q]
    refine wp_if (by decide) (wp_bind (ct_node _ _ _ _ _ _ h1 hN hd (by omega)) ?_)
    rintro ⟨⟨r, nd', sn', sf', vn', vf', fn', ff'⟩, m1, k1⟩ ⟨a1, a2, a3⟩
    dsimp only at a1 a2 a3 ⊢
    refine wp_al ?_
    rw [show r = rI (false, c.1.length) from a1]
    refine wp_bind (rd_push _ _ _ _ _ _ _ _ h5 h6 (by omega) (false, c.1.length)) ?_
    rintro ⟨⟨s', y', ks', kn', kf'⟩, m2, k2⟩ ⟨d1, d2, d3, d4, d5⟩
    dsimp only at d1 d2 d3 d4 d5 ⊢
    obtain ⟨t1, t2⟩ := a3
    obtain ⟨t3, t4⟩ := d5
    refine wp_als ⟨d1, ⟨a2, h2, h3, d2, d3, d4, ?_, ?_⟩, ?_, ?_⟩
    · simp only [List.length_append, List.length_singleton]
      omega
    · simp only [pl_app, hd, List.map_nil, List.append_nil, List.length_append, List.length_singleton]
      omega
    · first | omega | (dsimp only; omega)
    · first | omega | (dsimp only; omega)
  · rw [if_neg q, if_neg q]
    refine wp_it rfl (wp_bind (rd_push _ _ _ _ _ _ _ _ h5 h6 (by omega) (false, 0)) ?_)
    rintro ⟨⟨s', y', ks', kn', kf'⟩, m2, k2⟩ ⟨d1, d2, d3, d4, d5⟩
    dsimp only at d1 d2 d3 d4 d5 ⊢
    obtain ⟨t3, t4⟩ := d5
    refine wp_als ⟨d1, ⟨h1, h2, h3, d2, d3, d4, ?_, ?_⟩, ?_, ?_⟩
    · dsimp only
      omega
    · simp only [List.length_append, List.length_singleton]
      omega
    · first | omega | (dsimp only; omega)
    · first | omega | (dsimp only; omega)
theorem bind_again {α : Type} {o : Option (α × Nat × Nat)} : o.bind (fun (x, m, k) => al m k (some (x, 0, 0))) = o := by
  cases o with
  | none => rfl
  | some x =>
    obtain ⟨x, m, k⟩ := x
    simp only [Option.bind_some, al, Option.map_some, Nat.zero_add]
theorem ds_int {T : List (List Int32)} {c : Cs} {nd vs lk sym : Int32} {sn : Nat} {sf : Nat → Int32} {vn : Nat} {vf : Nat → Int64} {fn : Nat} {ff : Nat → Int32} {ps : Int32} {pn : Nat} {pf vnf : Nat → Int32} {ks : Int32} {kn : Nat} {kf : Nat → Int32} (h : DS T c nd vs lk sym sn sf vn vf fn ff ps pn pf vnf ks kn kf) (hs : c.2.2.2.2 < 20000) (z : Int64) (b1' b2 b3 b4 b5 b7 b8 b9 t1 t2 t3 t4 : Int32) : wp (p_Reader_addInteger z b1' b2 b3 b4 b5 sym b7 b8 b9 nd vs lk t1 t2 t3 t4 sn sf vn vf fn ff ps ks kn kf) (fun ((s', sym', nd', sn', sf', vn', vf', fn', ff', ks', kn', kf'), mq, sk) => s' = 3 ∧ DS T (apc c (some z, [], 0)) nd' vs lk sym' sn' sf' vn' vf' fn' ff' ps pn pf vnf ks' kn' kf' ∧ wc (3 * sn + pn + kn) (3 * sn' + pn + kn') mq sk) := by
  have e : ∀ (x : Option ((Int32 × Int32 × Nat × (Nat → Int32) × Nat × (Nat → Int64) × Nat × (Nat → Int32)) × Nat × Nat)), x.bind (fun ((r1, a_nodes_1, a_shapes_n_1, a_shapes_f_1, a_values_n_1, a_values_f_1, a_firstParts_n_1, a_firstParts_f_1), mk1, sk1) => al mk1 sk1 (some ((r1, a_nodes_1, a_shapes_n_1, a_shapes_f_1, a_values_n_1, a_values_f_1, a_firstParts_n_1, a_firstParts_f_1), 0, 0))) = x := fun x => bind_again
  unfold p_Reader_addInteger p_Terms_integer
  simp only [e]
  exact ds_node (e := (some z, [], 0)) (d := (some z, [], [])) h hs (Or.inl (by simp)) rfl rfl (-1) z (Or.inl ⟨z, rfl, rfl, rfl, rfl⟩) b1' b2 b3 b4 b5 b7 b8 b9 t1 t2 t3 t4
theorem ds_atom {T : List (List Int32)} {c : Cs} {nd vs lk sym : Int32} {sn : Nat} {sf : Nat → Int32} {vn : Nat} {vf : Nat → Int64} {fn : Nat} {ff : Nat → Int32} {ps : Int32} {pn : Nat} {pf vnf : Nat → Int32} {ks : Int32} {kn : Nat} {kf : Nat → Int32} (h : DS T c nd vs lk sym sn sf vn vf fn ff ps pn pf vnf ks kn kf) (hs : c.2.2.2.2 < 20000) {w : List Int32} {x : Int32} (hw : nm T w x) (hT : T.length < 65536) (b1' b2 b3 b4 b5 b7 b8 b9 t1 t2 t3 t4 : Int32) : wp (p_Reader_addAtom x b1' b2 b3 b4 b5 sym b7 b8 b9 nd vs lk t1 t2 t3 t4 sn sf vn vf fn ff ps ks kn kf) (fun ((s', sym', nd', sn', sf', vn', vf', fn', ff', ks', kn', kf'), mq, sk) => s' = 3 ∧ DS T (apc c (none, w, 0)) nd' vs lk sym' sn' sf' vn' vf' fn' ff' ps pn pf vnf ks' kn' kf' ∧ wc (3 * sn + pn + kn) (3 * sn' + pn + kn') mq sk) := by
  have e : ∀ (x : Option ((Int32 × Int32 × Nat × (Nat → Int32) × Nat × (Nat → Int64) × Nat × (Nat → Int32)) × Nat × Nat)), x.bind (fun ((r1, a_nodes_1, a_shapes_n_1, a_shapes_f_1, a_values_n_1, a_values_f_1, a_firstParts_n_1, a_firstParts_f_1), mk1, sk1) => al mk1 sk1 (some ((r1, a_nodes_1, a_shapes_n_1, a_shapes_f_1, a_values_n_1, a_values_f_1, a_firstParts_n_1, a_firstParts_f_1), 0, 0))) = x := fun x => bind_again
  obtain ⟨j, h1, h2, rfl⟩ := hw
  unfold p_Reader_addAtom p_Terms_atom
  simp only [e]
  refine ds_node (e := (none, w, 0)) (d := (none, w, [])) h hs (Or.inr ⟨rfl, by simp⟩) rfl ?_ 0 _ (Or.inr ⟨rfl, rfl, by simp, j, h1, h2, nI_l (by omega)⟩) b1' b2 b3 b4 b5 b7 b8 b9 t1 t2 t3 t4
  unfold apc
  simp
theorem ds_compound (n : Nat) (hn : 100 < n) {T : List (List Int32)} {c : Cs} {nd vs lk sym : Int32} {sn : Nat} {sf : Nat → Int32} {vn : Nat} {vf : Nat → Int64} {fn : Nat} {ff : Nat → Int32} {ps : Int32} {pn : Nat} {pf vnf : Nat → Int32} {ks : Int32} {kn : Nat} {kf : Nat → Int32} (h : DS T c nd vs lk sym sn sf vn vf fn ff ps pn pf vnf ks kn kf) (hs : c.2.2.2.2 < 20000) {w : List Int32} {x : Int32} (hw : nm T w x) (hT : T.length < 65536) {k : Nat} (hk : k ≤ c.2.2.1.length) (hk8 : k ≤ 8) (b1' b2 b3 b4 b5 b7 b8 b9 t1 t2 t3 t4 : Int32) : wp (p_Reader_addCompound n x (nI k) b1' b2 b3 b4 b5 sym b7 b8 b9 nd vs lk t1 t2 t3 t4 sn sf vn vf fn ff ps pn pf ks kn kf) (fun ((s', sym', nd', sn', sf', vn', vf', fn', ff', ps', pn', pf', ks', kn', kf'), mq, sk) => s' = 3 ∧ DS T (apc c (none, w, k)) nd' vs lk sym' sn' sf' vn' vf' fn' ff' ps' pn' pf' vnf ks' kn' kf' ∧ wc (3 * sn + pn + kn) (3 * sn' + pn' + kn') mq sk) := by
  obtain ⟨h1, h2, h3, rfl, h5, h6, h7, h8⟩ := h
  have lm : (c.2.2.1.map rI).length = c.2.2.1.length := List.length_map ..
  have lt : (c.2.2.1.take (c.2.2.1.length - k)).length = c.2.2.1.length - k := by rw [List.length_take]; omega
  have ld : (c.2.2.1.drop (c.2.2.1.length - k)).length = k := by rw [List.length_drop]; omega
  have ee : apc c (none, w, k) = if c.2.2.2.2 < 1000 then (c.1 ++ [(none, w, c.2.2.1.drop (c.2.2.1.length - k))], c.2.1, c.2.2.1.take (c.2.2.1.length - k) ++ [(false, c.1.length)], c.2.2.2.1, c.2.2.2.2 + 1) else (c.1, c.2.1, c.2.2.1.take (c.2.2.1.length - k) ++ [(false, 0)], c.2.2.2.1, c.2.2.2.2 + 1) := by
    unfold apc
    simp only
    rw [if_neg (by omega)]
  -- behind the node
  have B : ∀ (r : Rf) (nd2 : Int32) (ps2 : Int32) (sn2 : Nat) (sf2 : Nat → Int32) (vn2 : Nat) (vf2 : Nat → Int64) (fn2 : Nat) (ff2 : Nat → Int32) (pn2 : Nat) (pf2 : Nat → Int32), wp (p_Reader_addCompound_26 n (nI k) b1' b2 b3 b4 b5 (nI c.2.2.2.2) b7 b8 b9 ks kn kf nd2 ps2 sn2 sf2 vn2 vf2 fn2 ff2 pn2 pf2 (rI r)) (fun ((s', sym', nd', sn', sf', vn', vf', fn', ff', ps', pn', pf', ks', kn', kf'), mq, sk) => s' = 3 ∧ sym' = nI (c.2.2.2.2 + 1) ∧ nd' = nd2 ∧ sn' = sn2 ∧ sf' = sf2 ∧ vn' = vn2 ∧ vf' = vf2 ∧ fn' = fn2 ∧ ff' = ff2 ∧ ps' = ps2 ∧ pn' = pn2 ∧ pf' = pf2 ∧ IN ((c.2.2.1.take (c.2.2.1.length - k) ++ [r]).map rI) ks' kn' kf' ∧ kn' ≤ 131072 ∧ wc kn kn' mq sk) := fun r nd2 ps2 sn2 sf2 vn2 vf2 fn2 ff2 pn2 pf2 => by
    unfold p_Reader_addCompound_26 p_Ints_size
    obtain ⟨i1, i2⟩ := in_cut h5 (k := c.2.2.1.length - k) (by omega)
    rw [← List.map_take] at i2
    have es : ks - nI k = nI (c.2.2.1.length - k) := by rw [h5.1, lm, pk_sub hk]
    refine wp_bs rfl ?_
    rw [es]
    refine wp_bs i1 (wp_bind (rd_push _ _ _ _ _ _ _ _ i2 h6 (by omega) r) ?_)
    rintro ⟨⟨s', y', ks', kn', kf'⟩, m2, k2⟩ ⟨d1, d2, d3, d4, d5⟩
    dsimp only at d1 d2 d3 d4 d5 ⊢
    refine wp_als ⟨d1, d2, rfl, rfl, rfl, rfl, rfl, rfl, rfl, rfl, rfl, rfl, d3, d4, d5⟩
  unfold p_Reader_addCompound
  refine wp_bs (rd_room hs _ _ _ _ _ _ _ _) ?_
  rw [ee]
  by_cases q : c.2.2.2.2 < 1000
  · rw [if_pos q, if_pos q]
    refine wp_if (by decide) (wp_bind (ct_compound n _ _ _ _ _ _ h1 h5 (by omega) hw hT hk hk8 (by omega) (by omega) hn) ?_)
    rintro ⟨⟨r, nd', sn', sf', vn', vf', fn', ff', ps', pn', pf'⟩, m1, k1⟩ ⟨a1, a2, u1, u2, u3, u4, u5, u6, u7, u8⟩
    dsimp only at a1 a2 u1 u2 u3 u4 u5 u6 u7 u8 ⊢
    refine wp_al ?_
    rw [show r = rI (false, c.1.length) from a1]
    refine wp_mono (B _ _ _ _ _ _ _ _ _ _ _) ?_
    rintro ⟨⟨s2, y2, nd2, sn2, sf2, vn2, vf2, fn2, ff2, ps2, pn2, pf2, ks2, kn2, kf2⟩, m2, k2⟩ ⟨d1, d2, rfl, rfl, rfl, rfl, rfl, rfl, rfl, rfl, rfl, rfl, d3, d4, d5⟩
    dsimp only at d1 d2 d3 d4 d5 ⊢
    obtain ⟨t1, t2⟩ := u7
    obtain ⟨t3, t4, t5⟩ := u8
    obtain ⟨t6, t7⟩ := d5
    refine ⟨d1, ⟨a2, h2, h3, d2, d3, d4, ?_, ?_⟩, ?_, ?_⟩
    · simp only [List.length_append, List.length_singleton]
      omega
    · simp only [pl_app, List.length_map, List.length_append, List.length_singleton, lt, ld]
      omega
    · omega
    · omega
  · rw [if_neg q, if_neg q]
    refine wp_it rfl (wp_mono (B (false, 0) _ _ _ _ _ _ _ _ _ _) ?_)
    rintro ⟨⟨s2, y2, nd2, sn2, sf2, vn2, vf2, fn2, ff2, ps2, pn2, pf2, ks2, kn2, kf2⟩, m2, k2⟩ ⟨d1, d2, rfl, rfl, rfl, rfl, rfl, rfl, rfl, rfl, rfl, rfl, d3, d4, d5⟩
    dsimp only at d1 d2 d3 d4 d5 ⊢
    obtain ⟨t6, t7⟩ := d5
    refine ⟨d1, ⟨h1, h2, h3, d2, d3, d4, ?_, ?_⟩, ?_, ?_⟩
    · simp only
      omega
    · simp only [List.length_append, List.length_singleton, lt]
      omega
    · omega
    · omega
/-! ===== the class's reader follows the machine ===== -/
theorem ap_sy (c : Cs) (e : Ev) : (apc c e).2.2.2.2 = c.2.2.2.2 + 1 := by
  unfold apc
  cases e.1 with
  | some z =>
    dsimp only
    by_cases q : c.2.2.2.2 < 1000
    · rw [if_pos q]
    · rw [if_neg q]
  | none =>
    dsimp only
    by_cases q1 : e.2.2 = 100
    · rw [if_pos q1]
      by_cases q2 : vfi c.2.1 e.2.1 < c.2.1.length
      · rw [if_pos q2]
      · rw [if_neg q2]
        by_cases q3 : c.2.1.length = 200
        · rw [if_pos q3]
        · rw [if_neg q3]
    · rw [if_neg q1]
      by_cases q : c.2.2.2.2 < 1000
      · rw [if_pos q]
      · rw [if_neg q]
theorem ap_K (c : Cs) (e : Ev) : (apc c e).2.2.1.length = (if e.1 = none ∧ e.2.2 ≠ 100 then c.2.2.1.length - e.2.2 else c.2.2.1.length) + 1 := by
  unfold apc
  cases h : e.1 with
  | some z =>
    rw [if_neg (show ¬ (some z = none ∧ e.2.2 ≠ 100) from fun q => by cases q.1)]
    dsimp only
    by_cases q : c.2.2.2.2 < 1000
    · rw [if_pos q, List.length_append, List.length_singleton]
    · rw [if_neg q, List.length_append, List.length_singleton]
  | none =>
    dsimp only
    by_cases q1 : e.2.2 = 100
    · rw [if_pos q1, if_neg (show ¬ ((none : Option Int64) = none ∧ e.2.2 ≠ 100) from fun q => q.2 q1)]
      by_cases q2 : vfi c.2.1 e.2.1 < c.2.1.length
      · rw [if_pos q2, List.length_append, List.length_singleton]
      · rw [if_neg q2]
        by_cases q3 : c.2.1.length = 200
        · rw [if_pos q3, List.length_append, List.length_singleton]
        · rw [if_neg q3, List.length_append, List.length_singleton]
    · rw [if_neg q1, if_pos (show (none : Option Int64) = none ∧ e.2.2 ≠ 100 from ⟨rfl, q1⟩)]
      by_cases q : c.2.2.2.2 < 1000
      · rw [if_pos q, List.length_append, List.length_singleton, List.length_take]
        omega
      · rw [if_neg q, List.length_append, List.length_singleton, List.length_take]
        omega
/-- what was there before stays -/
def pre (c0 c : Cs) : Prop := (∃ U, c.1 = c0.1 ++ U) ∧ ∃ W, c.2.1 = c0.2.1 ++ W
theorem pre_ap {c0 c : Cs} (h : pre c0 c) (e : Ev) : pre c0 (apc c e) := by
  obtain ⟨⟨U, h1⟩, W, h2⟩ := h
  unfold apc
  cases e.1 with
  | some z =>
    dsimp only
    by_cases q : c.2.2.2.2 < 1000
    · rw [if_pos q]
      exact ⟨⟨U ++ [(some z, [], [])], by rw [h1, List.append_assoc]⟩, W, h2⟩
    · rw [if_neg q]
      exact ⟨⟨U, h1⟩, W, h2⟩
  | none =>
    dsimp only
    by_cases q1 : e.2.2 = 100
    · rw [if_pos q1]
      by_cases q2 : vfi c.2.1 e.2.1 < c.2.1.length
      · rw [if_pos q2]
        exact ⟨⟨U, h1⟩, W, h2⟩
      · rw [if_neg q2]
        by_cases q3 : c.2.1.length = 200
        · rw [if_pos q3]
          exact ⟨⟨U, h1⟩, W, h2⟩
        · rw [if_neg q3]
          exact ⟨⟨U, h1⟩, W ++ [e.2.1], by rw [h2, List.append_assoc]⟩
    · rw [if_neg q1]
      by_cases q : c.2.2.2.2 < 1000
      · rw [if_pos q]
        exact ⟨⟨U ++ [_], by rw [h1, List.append_assoc]⟩, W, h2⟩
      · rw [if_neg q]
        exact ⟨⟨U, h1⟩, W, h2⟩
/-- the sign that was looked at -/
def TKR (T : List (List Int32)) (k : Tk) (kin pla beh nam : Int32) (num : Int64) : Prop :=
  kin = nI k.1 ∧ pla = nI k.2.1 ∧ beh = nI k.2.2.1 ∧ (k.1 = 3 → nm T k.2.2.2.1 nam) ∧ (k.1 = 1 → VE T k.2.2.2.1 nam) ∧ (k.1 = 2 → num = lN k.2.2.2.2)
/-- an open term -/
def OM (T : List (List Int32)) (o : Op) (x0 x1 x2 x3 x4 x5 : Int32) : Prop :=
  x0 = nI o.1 ∧ x1 = nI o.2.1 ∧ x2 = nI o.2.2.1 ∧ (o.2.2.1 ≠ 0 → nm T o.2.2.2.1 x3) ∧ (o.2.2.1 = 1 ∨ o.2.2.1 = 2 → x4 = nI o.2.2.2.2.1) ∧ x5 = nI o.2.2.2.2.2
def OE (T : List (List Int32)) (o0 o1 o2 o3 o4 o5 : Nat → Int32) : List Op → Prop
  | [] => True
  | o :: O => OM T o (o0 O.length) (o1 O.length) (o2 O.length) (o3 O.length) (o4 O.length) (o5 O.length) ∧ OE T o0 o1 o2 o3 o4 o5 O
theorem om_app {T U : List (List Int32)} {o : Op} {x0 x1 x2 x3 x4 x5 : Int32} (h : OM T o x0 x1 x2 x3 x4 x5) : OM (T ++ U) o x0 x1 x2 x3 x4 x5 := by
  obtain ⟨h1, h2, h3, h4, h5, h6⟩ := h
  exact ⟨h1, h2, h3, fun q => nm_app (h4 q), h5, h6⟩
theorem oe_app {T U : List (List Int32)} {o0 o1 o2 o3 o4 o5 : Nat → Int32} : ∀ {O : List Op}, OE T o0 o1 o2 o3 o4 o5 O → OE (T ++ U) o0 o1 o2 o3 o4 o5 O := by
  intro O
  induction O with
  | nil => intro _; trivial
  | cons o O ih => intro h; exact ⟨om_app h.1, ih h.2⟩
theorem oe_upd {T : List (List Int32)} {o0 o1 o2 o3 o4 o5 : Nat → Int32} {x0 x1 x2 x3 x4 x5 : Int32} {n : Nat} : ∀ {O : List Op}, OE T o0 o1 o2 o3 o4 o5 O → O.length ≤ n → OE T (upd o0 n x0) (upd o1 n x1) (upd o2 n x2) (upd o3 n x3) (upd o4 n x4) (upd o5 n x5) O := by
  intro O
  induction O with
  | nil => intro _ _; trivial
  | cons o O ih =>
    intro h hn
    rw [List.length_cons] at hn
    refine ⟨?_, ih h.2 (by omega)⟩
    rw [pk_un (by omega), pk_un (by omega), pk_un (by omega), pk_un (by omega), pk_un (by omega), pk_un (by omega)]
    exact h.1
theorem oe_top {T : List (List Int32)} {o0 o1 o2 o3 o4 o5 : Nat → Int32} {x0 x1 x2 x3 x4 x5 : Int32} {o : Op} {O : List Op} (h : OE T o0 o1 o2 o3 o4 o5 O) (ho : OM T o x0 x1 x2 x3 x4 x5) : OE T (upd o0 O.length x0) (upd o1 O.length x1) (upd o2 O.length x2) (upd o3 O.length x3) (upd o4 O.length x4) (upd o5 O.length x5) (o :: O) := by
  refine ⟨?_, oe_upd h (Nat.le_refl _)⟩
  rw [pk_us, pk_us, pk_us, pk_us, pk_us, pk_us]
  exact ho
/-- values that an open term holds, events that it owes -/
def kd (o : Op) : Nat := if o.2.2.1 = 1 then 1 else if o.2.2.1 = 4 ∨ o.2.2.1 = 5 then o.2.2.2.2.2 - 1 else if o.2.2.1 = 6 then o.2.2.2.2.2 else 0
def pd (o : Op) : Nat := if o.2.2.1 = 1 ∨ o.2.2.1 = 2 ∨ o.2.2.1 = 4 then 1 else if o.2.2.1 = 5 then o.2.2.2.2.2 + 1 else if o.2.2.1 = 6 then o.2.2.2.2.2 else 0
def sK : List Op → Nat
  | [] => 0
  | o :: O => kd o + sK O
def sP : List Op → Nat
  | [] => 0
  | o :: O => pd o + sP O
def OK1 (o : Op) : Prop := o.1 ≤ 1200 ∧ o.2.1 ≤ 1200 ∧ o.2.2.2.2.1 ≤ 1200
def OK2 (m : Nat) (o : Op) : Prop := OK1 o ∧ 1 ≤ o.2.2.1 ∧ o.2.2.1 ≤ 6 ∧ (4 ≤ o.2.2.1 → 1 ≤ o.2.2.2.2.2) ∧ (o.2.2.1 = 4 → o.2.2.2.2.2 ≤ m)
def OG : List Op → Prop
  | [] => True
  | o :: O => OK2 8 o ∧ OG O
def OG1 : List Op → Prop
  | [] => True
  | o :: O => OK2 9 o ∧ OG O
theorem og_1 {O : List Op} (h : OG O) : OG1 O := by
  cases O with
  | nil => trivial
  | cons o O =>
    obtain ⟨⟨h1, h2, h3, h4, h5⟩, h6⟩ := h
    exact ⟨⟨h1, h2, h3, h4, fun q => by have := h5 q; omega⟩, h6⟩
def IV (L md nx : Nat) (O : List Op) (i lb : Nat) (E : List Ev) (K : List Rf) : Prop :=
  i ≤ L ∧ nx ≤ 1200 ∧ lb ≤ L ∧ O.length ≤ 100 ∧
  ((md = 1 ∧ OG1 O ∧ K.length = sK O ∧ E.length + sP O ≤ 2 * i) ∨
   (md = 2 ∧ ∃ o O', O = o :: O' ∧ o.2.2.1 = 0 ∧ OK1 o ∧ OG O' ∧ K.length = sK O' ∧ E.length + sP O' + 1 ≤ 2 * i) ∨
   (md = 3 ∧ ∃ o O', O = o :: O' ∧ OK1 o ∧ OG O' ∧ K.length = sK O' + 1 ∧ E.length + sP O' ≤ 2 * i) ∨
   (md = 4 ∧ ∃ o O', O = o :: O' ∧ OG O ∧ K.length = sK O + 1 ∧ E.length + sP O ≤ 2 * i) ∨
   (5 ≤ md ∧ md ≤ 7 ∧ O = [] ∧ K.length = 1 ∧ E.length ≤ 2 * i))
/-- the reader's own fields -/
def RC (T : List (List Int32)) (s : Ps) (dep sta nxm lnm lbh fst : Int32) (o0 o1 o2 o3 o4 o5 : Nat → Int32) : Prop :=
  dep = nI s.2.2.1.length ∧ sta = nI s.1 ∧ nxm = nI s.2.1 ∧ (s.1 = 2 → nm T s.2.2.2.2.1 lnm ∧ lbh = nI s.2.2.2.2.2.1) ∧ (s.1 ≠ 1 ∨ s.2.2.1 ≠ [] → fst = nI s.2.2.2.2.2.2.1) ∧ OE T o0 o1 o2 o3 o4 o5 s.2.2.1
/-- behind a step -/
def PX (L : Nat) (c0 : Cs) (T : List (List Int32)) (k : Tk) (i : Nat) (s : Ps) (dep sta nxm lnm lbh fst brk pas : Int32) (o0 o1 o2 o3 o4 o5 : Nat → Int32) (nd vs lk sym : Int32) (sn : Nat) (sf : Nat → Int32) (vn : Nat) (vf : Nat → Int64) (fn : Nat) (ff : Nat → Int32) (ps : Int32) (pn : Nat) (pf vnf : Nat → Int32) (ks : Int32) (kn : Nat) (kf : Nat → Int32) : Prop :=
  ∃ c, DS T c nd vs lk sym sn sf vn vf fn ff ps pn pf vnf ks kn kf ∧ pre c0 c ∧ c.2.2.2.2 ≤ 19000 ∧
    ((∃ q, q ≤ L ∧ s.2.2.2.2.2.2.2.2 = some q ∧ brk = nI q) ∨
     (s.2.2.2.2.2.2.2.2 = none ∧ brk = -1 ∧ c = s.2.2.2.2.2.2.2.1.foldl apc c0 ∧ RC T s dep sta nxm lnm lbh fst o0 o1 o2 o3 o4 o5 ∧ IV L s.1 s.2.1 s.2.2.1 s.2.2.2.1 s.2.2.2.2.2.1 s.2.2.2.2.2.2.2.1 c.2.2.1 ∧ s.2.2.2.2.2.2.1 ≤ L ∧ ((pas = 1 ∧ s.2.2.2.1 = k.2.2.1) ∨ (pas = 0 ∧ s.2.2.2.1 = i))))
theorem nI_nn {a b : Nat} (h : a ≠ b) (ha : a < 2147483648) (hb : b < 2147483648) : ¬ nI a = nI b := fun e => h ((nI_eq ha hb).mp e)
theorem stp1 (l : List Int32) {nx : Nat} {O : List Op} {i : Nat} {ln : List Int32} {lb fi : Nat} {E : List Ev} : stp l (1, nx, O, i, ln, lb, fi, E, none) = st1 (tkn l i) nx O i ln lb fi E := by
  unfold stp
  simp
theorem stp2 (l : List Int32) (o : Op) {nx : Nat} {O : List Op} {i : Nat} {ln : List Int32} {lb fi : Nat} {E : List Ev} : stp l (2, nx, o :: O, i, ln, lb, fi, E, none) = st2 (tkn l i) nx o O i ln lb fi E := by
  unfold stp
  simp
theorem stp3 (l : List Int32) (o : Op) {nx : Nat} {O : List Op} {i : Nat} {ln : List Int32} {lb fi : Nat} {E : List Ev} : stp l (3, nx, o :: O, i, ln, lb, fi, E, none) = st3 (tkn l i) nx o O i ln lb fi E := by
  unfold stp
  simp
theorem stp4 (l : List Int32) (o : Op) {nx : Nat} {O : List Op} {i : Nat} {ln : List Int32} {lb fi : Nat} {E : List Ev} : stp l (4, nx, o :: O, i, ln, lb, fi, E, none) = st4 (tkn l i) nx o O i ln lb fi E := by
  unfold stp
  simp
theorem stp5 (l : List Int32) {nx : Nat} {O : List Op} {i : Nat} {ln : List Int32} {lb fi : Nat} {E : List Ev} : stp l (5, nx, O, i, ln, lb, fi, E, none) = (if (tkn l i).1 = 4 then (6, nx, O, (tkn l i).2.2.1, ln, lb, fi, E, none) else (5, nx, O, i, ln, lb, fi, E, some (tkn l i).2.1)) := by
  unfold stp
  simp
theorem stp6 (l : List Int32) {nx : Nat} {O : List Op} {i : Nat} {ln : List Int32} {lb fi : Nat} {E : List Ev} : stp l (6, nx, O, i, ln, lb, fi, E, none) = (if (tkn l i).1 = 5 then (7, nx, O, (tkn l i).2.2.1, ln, lb, fi, E, none) else (6, nx, O, i, ln, lb, fi, E, some (tkn l i).2.1)) := by
  unfold stp
  simp
/-! ===== a term begins ===== -/
theorem wp_assoc {α β γ : Type} {o : Option α} {f : α → Option β} {g : β → Option γ} {Q : γ → Prop} (h : wp (o.bind (fun a => (f a).bind g)) Q) : wp ((o.bind f).bind g) Q := by
  rw [Option.bind_assoc]
  exact h
theorem al_s {ρ : Type} {k n : Nat} {x : ρ} : al k n (some (x, 0, 0)) = some (x, k, n) := by
  simp only [al, Option.map_some, Nat.zero_add]
theorem wc_add {a b m s : Nat} (A : Nat) (h : wc a b m s) : wc (A + a) (A + b) m s := ⟨by have := h.1; omega, by have := h.2; omega⟩
theorem nle {a b : Nat} (h : Nat.ble a b = true) : a ≤ b := Nat.le_of_ble_eq_true h
theorem fold_sy (c0 : Cs) : ∀ (E : List Ev) , (E.foldl apc c0).2.2.2.2 = c0.2.2.2.2 + E.length := by
  intro E
  induction E generalizing c0 with
  | nil => rfl
  | cons e E ih => rw [List.foldl_cons, ih, ap_sy, List.length_cons]; omega
theorem fold_1 (c0 : Cs) (E : List Ev) (e : Ev) : (E ++ [e]).foldl apc c0 = apc (E.foldl apc c0) e := by
  rw [List.foldl_append]
  rfl
theorem apc_var (c : Cs) (w : List Int32) : apc c (none, w, 100) = (if vfi c.2.1 w < c.2.1.length then (c.1, c.2.1, c.2.2.1 ++ [(true, vfi c.2.1 w)], c.2.2.2.1, c.2.2.2.2 + 1) else if c.2.1.length = 200 then (c.1, c.2.1, c.2.2.1 ++ [(false, 0)], true, c.2.2.2.2 + 1) else (c.1, c.2.1 ++ [w], c.2.2.1 ++ [(true, c.2.1.length)], c.2.2.2.1, c.2.2.2.2 + 1)) := rfl
theorem ptm_c (o : Op) (O : List Op) : ptm (o :: O) = (decide (o.2.2.1 = 4) && decide (8 < o.2.2.2.2.2)) := rfl
theorem ds_var (n : Nat) (hn : 300 < n) {T : List (List Int32)} {c : Cs} {nd vs lk sym : Int32} {sn : Nat} {sf : Nat → Int32} {vn : Nat} {vf : Nat → Int64} {fn : Nat} {ff : Nat → Int32} {ps : Int32} {pn : Nat} {pf vnf : Nat → Int32} {ks : Int32} {kn : Nat} {kf : Nat → Int32} (h : DS T c nd vs lk sym sn sf vn vf fn ff ps pn pf vnf ks kn kf) {w : List Int32} {x : Int32} (hw : VE T w x) (hT : T.length < 65536) (hN : T.Nodup) (t1 t2 t3 t4 : Int32) : wp (p_Terms_variable n x nd vs lk t1 t2 t3 t4 200 vnf) (fun (r, vs', lk', vnf') => ∃ rf V' b, r = rI rf ∧ apc c (none, w, 100) = (c.1, V', c.2.2.1 ++ [rf], b, c.2.2.2.2 + 1) ∧ CV T V' vs' vnf' ∧ lk' = b1 b) := by
  obtain ⟨h1, h2, h3, h4, h5, h6, h7, h8⟩ := h
  refine wp_mono (cv_var n nd t1 t2 t3 t4 h2 hw hT hN hn) ?_
  rintro ⟨r, vs', lk', vnf'⟩ z
  rcases z with ⟨a1, a2, a3, a4, a5⟩ | ⟨a1, a2, a3, a4, a5, a6⟩ | ⟨a1, a2, a3, a4, a5⟩
  · refine ⟨(true, vfi c.2.1 w), c.2.1, c.2.2.2.1, a2, ?_, ?_, ?_⟩
    · rw [apc_var, if_pos a1]
    · rw [a3, a5]
      exact h2
    · rw [a4]
      exact h3
  · refine ⟨(false, 0), c.2.1, true, a3, ?_, ?_, a5⟩
    · rw [apc_var, if_neg (show ¬ vfi c.2.1 w < c.2.1.length by omega), if_pos a2]
    · rw [a4, a6]
      exact h2
  · refine ⟨(true, c.2.1.length), c.2.1 ++ [w], c.2.2.2.1, a3, ?_, a5, ?_⟩
    · rw [apc_var, if_neg (show ¬ vfi c.2.1 w < c.2.1.length by omega), if_neg (show ¬ c.2.1.length = 200 by omega)]
    · rw [a4]
      exact h3
theorem og_of {O : List Op} (h : OG1 O) (hp : ¬ ptm O = true) : OG O := by
  cases O with
  | nil => trivial
  | cons o O =>
    obtain ⟨⟨h1, h2, h3, h4, h5⟩, h6⟩ := h
    refine ⟨⟨h1, h2, h3, h4, fun q => ?_⟩, h6⟩
    have := h5 q
    rw [ptm_c, decide_eq_true q, Bool.true_and, decide_eq_true_eq] at hp
    omega
theorem rd_ptm {T : List (List Int32)} {o0 o1 o2 o3 o4 o5 : Nat → Int32} {O : List Op} (hO : O.length ≤ 100) (h : OE T o0 o1 o2 o3 o4 o5 O) (hg : OG1 O) (hp : sP O ≤ 100000) (a b c d e g i j : Int32) : p_Reader_isPartTooMany (nI O.length) a b c d e g i j 100 o0 o1 o2 o3 o4 o5 = some (b1 (ptm O)) := by
  unfold p_Reader_isPartTooMany
  cases O with
  | nil => rfl
  | cons o O =>
    rw [List.length_cons] at hO ⊢
    obtain ⟨⟨e1, e2, e3, e4, e5, e6⟩, _⟩ := h
    have g1 := hg.1
    obtain ⟨g1, g2, g3, g4, g5⟩ := g1
    have hpd : o.2.2.2.2.2 ≤ 100000 ∨ ¬ o.2.2.1 = 4 := by
      by_cases q : o.2.2.1 = 4
      · have := g5 q
        exact Or.inl (by omega)
      · exact Or.inr q
    rw [if_neg (nI_nle (by omega) (by omega)), nI_pred, ck_t (ixb_t (by omega) (by omega)), nI_clamp (by omega), e3, e6]
    rw [ptm_c]
    by_cases q : o.2.2.1 = 4
    · rw [if_pos (by rw [q]; rfl), ck_t (ixb_t (by omega) (by omega)), decide_eq_true q, Bool.true_and]
      by_cases q2 : 8 < o.2.2.2.2.2
      · rw [if_neg (show ¬ nI o.2.2.2.2.2 ≤ 8 from nI_ge (a := 8) q2 (by omega)), decide_eq_true q2]
        rfl
      · rw [if_pos (show nI o.2.2.2.2.2 ≤ 8 from nI_le (b := 8) (by omega) (by omega)), decide_eq_false q2]
        rfl
    · rw [if_neg (show ¬ nI o.2.2.1 = 4 from nI_nn (b := 4) q (by omega) (by omega)), decide_eq_false q]
      rfl
/-- a step that takes the first sign and goes on -/
theorem px_in {L : Nat} {c0 c : Cs} {T : List (List Int32)} {k : Tk} {i : Nat} {nd vs lk sym : Int32} {sn : Nat} {sf : Nat → Int32} {vn : Nat} {vf : Nat → Int64} {fn : Nat} {ff : Nat → Int32} {ps : Int32} {pn : Nat} {pf vnf : Nat → Int32} {ks : Int32} {kn : Nat} {kf : Nat → Int32} {o0 o1 o2 o3 o4 o5 : Nat → Int32} {md nx : Nat} {O : List Op} {i' : Nat} {ln : List Int32} {lb fi : Nat} {E : List Ev} {dep sta nxm lnm lbh fst pas : Int32} (hD : DS T c nd vs lk sym sn sf vn vf fn ff ps pn pf vnf ks kn kf) (hp : pre c0 c) (hs : c.2.2.2.2 ≤ 19000) (hc : c = E.foldl apc c0) (a1 : dep = nI O.length) (a2 : sta = nI md) (a3 : nxm = nI nx) (a4 : md = 2 → nm T ln lnm ∧ lbh = nI lb) (a5 : md ≠ 1 ∨ O ≠ [] → fst = nI fi) (a6 : OE T o0 o1 o2 o3 o4 o5 O) (a7 : IV L md nx O i' lb E c.2.2.1) (a8 : fi ≤ L) (a9 : (pas = 1 ∧ i' = k.2.2.1) ∨ (pas = 0 ∧ i' = i)) : PX L c0 T k i (md, nx, O, i', ln, lb, fi, E, none) dep sta nxm lnm lbh fst (-1) pas o0 o1 o2 o3 o4 o5 nd vs lk sym sn sf vn vf fn ff ps pn pf vnf ks kn kf :=
  ⟨c, hD, hp, hs, Or.inr ⟨rfl, rfl, hc, ⟨a1, a2, a3, a4, a5, a6⟩, a7, a8, a9⟩⟩
theorem px_br {L : Nat} {c0 c : Cs} {T : List (List Int32)} {k : Tk} {i : Nat} {nd vs lk sym : Int32} {sn : Nat} {sf : Nat → Int32} {vn : Nat} {vf : Nat → Int64} {fn : Nat} {ff : Nat → Int32} {ps : Int32} {pn : Nat} {pf vnf : Nat → Int32} {ks : Int32} {kn : Nat} {kf : Nat → Int32} {o0 o1 o2 o3 o4 o5 : Nat → Int32} {md nx : Nat} {O : List Op} {i' : Nat} {ln : List Int32} {lb fi : Nat} {E : List Ev} {dep sta nxm lnm lbh fst pas : Int32} (hD : DS T c nd vs lk sym sn sf vn vf fn ff ps pn pf vnf ks kn kf) (hp : pre c0 c) (hs : c.2.2.2.2 ≤ 19000) {q : Nat} (hq : q ≤ L) : PX L c0 T k i (md, nx, O, i', ln, lb, fi, E, some q) dep sta nxm lnm lbh fst (nI q) pas o0 o1 o2 o3 o4 o5 nd vs lk sym sn sf vn vf fn ff ps pn pf vnf ks kn kf :=
  ⟨c, hD, hp, hs, Or.inl ⟨q, hq, rfl, rfl⟩⟩
theorem cs1 (n : Nat) (hn : 400 < n) {L : Nat} (hL : L ≤ 4096) {c0 : Cs} (h00 : c0.2.2.2.2 = 0) {T U : List (List Int32)} (hT : T = KT ++ U) (hN : T.Nodup) (hTl : T.length < 65536) {k : Tk} {nx : Nat} {O : List Op} {i : Nat} {ln : List Int32} {lb fi : Nat} {E : List Ev} {dep sta nxm lnm lbh fst : Int32} {kin pla beh nam : Int32} {num : Int64} {o0 o1 o2 o3 o4 o5 : Nat → Int32} (hk : TKR T k kin pla beh nam num) (k1 : i ≤ k.2.1) (k2 : k.2.1 ≤ k.2.2.1) (k3 : k.2.2.1 ≤ L) (k4 : k.1 ≠ 5 → k.2.1 < k.2.2.1) (k5 : k.1 ≤ 125) {nd vs lk sym : Int32} {sn : Nat} {sf : Nat → Int32} {vn : Nat} {vf : Nat → Int64} {fn : Nat} {ff : Nat → Int32} {ps : Int32} {pn : Nat} {pf vnf : Nat → Int32} {ks : Int32} {kn : Nat} {kf : Nat → Int32} (hD : DS T (E.foldl apc c0) nd vs lk sym sn sf vn vf fn ff ps pn pf vnf ks kn kf) (hp : pre c0 (E.foldl apc c0)) (hR : RC T (1, nx, O, i, ln, lb, fi, E, none) dep sta nxm lnm lbh fst o0 o1 o2 o3 o4 o5) (hI : IV L 1 nx O i lb E (E.foldl apc c0).2.2.1) (hf : fi ≤ L) (tmu tsy nb pb vb : Int32) : wp (p_Reader_beginTerm n dep sta nxm lnm lbh sym fst (-1) tmu kin pla beh 0 nam num nd vs lk tsy nb pb vb sn sf vn vf fn ff ps 200 vnf 100 o0 o1 o2 o3 o4 o5 ks kn kf) (fun ((dep', sta', nxm', lnm', lbh', sym', fst', brk', pas', nd', vs', lk', sn', sf', vn', vf', fn', ff', vnf', o0', o1', o2', o3', o4', o5', ks', kn', kf'), mq, sk) => PX L c0 T k i (st1 k nx O i ln lb fi E) dep' sta' nxm' lnm' lbh' fst' brk' pas' o0' o1' o2' o3' o4' o5' nd' vs' lk' sym' sn' sf' vn' vf' fn' ff' ps pn pf vnf' ks' kn' kf' ∧ wc (3 * sn + pn + kn) (3 * sn' + pn + kn') mq sk) := by
  obtain ⟨r1, r2, r3, r4, r5, r6⟩ := hR
  dsimp only at r1 r2 r3 r4 r5 r6
  subst r1 r2 r3
  obtain ⟨i1, i2, i3, i4, i5⟩ := hI
  have i6 : OG1 O ∧ (E.foldl apc c0).2.2.1.length = sK O ∧ E.length + sP O ≤ 2 * i := by
    rcases i5 with z | z | z | z | z
    · exact z.2
    · exact absurd z.1 (by decide)
    · exact absurd z.1 (by decide)
    · exact absurd z.1 (by decide)
    · exact absurd z.1 (by decide)
  obtain ⟨g1, g2, g3⟩ := i6
  have sy := fold_sy c0 E
  rw [h00, Nat.zero_add] at sy
  obtain ⟨rfl, rfl, rfl, t3, t1, t2⟩ := hk
  -- behind the first place
  have B : ∀ (fi' : Nat), fi' ≤ L → fi' = (if O = [] then k.2.1 else fi) → wp (p_Reader_beginTerm_18 n (nI O.length) (nI 1) (nI nx) lnm lbh sym (-1) tmu (nI k.1) (nI k.2.1) (nI k.2.2.1) 0 nam num nd vs lk tsy nb pb vb sn sf vn vf fn ff ps 200 vnf 100 o0 o1 o2 o3 o4 o5 ks kn kf (nI fi')) (fun ((dep', sta', nxm', lnm', lbh', sym', fst', brk', pas', nd', vs', lk', sn', sf', vn', vf', fn', ff', vnf', o0', o1', o2', o3', o4', o5', ks', kn', kf'), mq, sk) => PX L c0 T k i (st1 k nx O i ln lb fi E) dep' sta' nxm' lnm' lbh' fst' brk' pas' o0' o1' o2' o3' o4' o5' nd' vs' lk' sym' sn' sf' vn' vf' fn' ff' ps pn pf vnf' ks' kn' kf' ∧ wc (3 * sn + pn + kn) (3 * sn' + pn + kn') mq sk) := fun fi' hfi' ef => by
    unfold p_Reader_beginTerm_18 st1
    rw [← ef]
    unfold p_Reader_breakHere p_Signs_place
    by_cases q1 : O.length = 100
    · rw [if_pos (show O.length = 100 ∨ ptm O = true from Or.inl q1)]
      exact wp_it (by rw [q1]; rfl) (wp_bs rfl (wp_some ⟨px_br hD hp (by omega) (by omega), wc_refl _⟩))
    refine wp_if (nI_nn (b := 100) q1 (by omega) (by omega)) (wp_bs (rd_ptm i4 r6 g1 (by omega) _ _ _ _ _ _ _ _) ?_)
    by_cases q2 : ptm O = true
    · rw [if_pos (show O.length = 100 ∨ ptm O = true from Or.inr q2)]
      exact wp_if (b1_f.mpr q2) (wp_bs rfl (wp_some ⟨px_br hD hp (by omega) (by omega), wc_refl _⟩))
    rw [if_neg (show ¬ (O.length = 100 ∨ ptm O = true) from fun z => z.elim q1 q2)]
    have g4 := og_of g1 q2
    refine wp_it (b1_0 q2) (wp_ck (ixb_t (by omega) (by omega)) ?_)
    unfold p_Open_beginWith
    refine wp_bs rfl ?_
    dsimp only
    unfold p_Reader_takeFirstSign p_Signs_kind p_Signs_pass p_Signs_name p_Signs_number p_Signs_behind p_Open_awaitPart p_Reader_awaitTerm p_Reader_breakHere p_Signs_place
    simp only [Option.bind_some]
    have hok : OK1 (nx, 0, 0, [], 0, 0) := ⟨i2, Nat.zero_le _, Nat.zero_le _⟩
    have hom : OM T (nx, 0, 0, [], 0, 0) (nI nx) 0 0 (o3 O.length) (o4 O.length) 0 := ⟨rfl, rfl, rfl, fun z => absurd rfl z, fun z => z.elim (fun z => nn z rfl) (fun z => nn z rfl), rfl⟩
    by_cases c1 : k.1 = 1
    · rw [if_neg (show ¬ k.1 = 3 by omega), if_pos c1, if_pos (show nI k.1 = 1 by rw [c1]; rfl)]
      have hk5 := k4 (by omega)
      refine wp_assoc (wp_bind (ds_var n (by omega) hD (t1 c1) hTl hN tsy nb pb vb) ?_)
      rintro ⟨r, vs', lk', vnf'⟩ ⟨rf, V', b, e1, e2, e3, e4⟩
      dsimp only at e1 e2 e3 e4 ⊢
      obtain ⟨h1, h2, h3, h4, h5, h6, h7, h8⟩ := hD
      subst h4
      rw [e1]
      refine wp_assoc (wp_bind (rd_push _ _ _ _ _ _ _ _ h5 h6 (by omega) rf) ?_)
      rintro ⟨⟨s', y', ks', kn', kf'⟩, m2, k2⟩ ⟨d1, d2, d3, d4, d5, d6⟩
      dsimp only at d1 d2 d3 d4 d5 d6 ⊢
      subst d1
      rw [al_s]
      refine wp_bs rfl ?_
      dsimp only
      refine wp_als ⟨px_in (c := apc (E.foldl apc c0) (none, k.2.2.2.1, 100)) ?_ (pre_ap hp _) ?_ ?_ (nI_1 _) rfl rfl (fun z => nn z rfl) (fun _ => rfl) ?_ ?_ hfi' (Or.inl ⟨rfl, rfl⟩), wc_add _ ⟨d5, d6⟩⟩
      · rw [e2]
        refine ⟨h1, e3, e4, d2, d3, d4, ?_, ?_⟩
        · dsimp only
          omega
        · simp only [List.length_append, List.length_singleton]
          omega
      · rw [ap_sy]
        omega
      · rw [fold_1]
      · rw [nI_clamp (by omega)]
        exact oe_top r6 hom
      · refine ⟨k3, i2, i3, by rw [List.length_cons]; omega, Or.inr (Or.inr (Or.inl ⟨rfl, _, _, rfl, hok, g4, ?_, ?_⟩))⟩
        · rw [ap_K, if_neg (show ¬ ((none : Option Int64) = none ∧ 100 ≠ 100) from fun z => z.2 rfl), g2]
        · rw [List.length_append, List.length_singleton]
          omega
    rw [if_neg (show ¬ nI k.1 = 1 from nI_nn (b := 1) c1 (by omega) (by omega))]
    by_cases c2 : k.1 = 2
    · rw [if_neg (show ¬ k.1 = 3 by omega), if_neg c1, if_pos c2, if_pos (show nI k.1 = 2 by rw [c2]; rfl)]
      have hk5 := k4 (by omega)
      refine wp_assoc (wp_bind (ds_int hD (by omega) num (nI O.length + 1) (nI 1) (nI nx) lnm lbh (nI fi') (-1) tmu tsy nb pb vb) ?_)
      rintro ⟨⟨s', sym', nd', sn', sf', vn', vf', fn', ff', ks', kn', kf'⟩, m1, s1⟩ ⟨e1, e2, e3⟩
      dsimp only at e1 e2 e3 ⊢
      subst e1
      rw [al_s]
      refine wp_bs rfl ?_
      dsimp only
      rw [t2 c2] at e2
      refine wp_als ⟨px_in e2 (pre_ap hp _) ?_ ?_ (nI_1 _) rfl rfl (fun z => nn z rfl) (fun _ => rfl) ?_ ?_ hfi' (Or.inl ⟨rfl, rfl⟩), e3⟩
      · rw [ap_sy]
        omega
      · rw [fold_1]
      · rw [nI_clamp (by omega)]
        exact oe_top r6 hom
      · refine ⟨k3, i2, i3, by rw [List.length_cons]; omega, Or.inr (Or.inr (Or.inl ⟨rfl, _, _, rfl, hok, g4, ?_, ?_⟩))⟩
        · rw [ap_K, if_neg (show ¬ ((some (lN k.2.2.2.2) : Option Int64) = none ∧ 0 ≠ 100) from fun z => by cases z.1), g2]
        · rw [List.length_append, List.length_singleton]
          omega
    rw [if_neg (show ¬ nI k.1 = 2 from nI_nn (b := 2) c2 (by omega) (by omega))]
    by_cases c3 : k.1 = 3
    · rw [if_pos c3, if_pos (show nI k.1 = 3 by rw [c3]; rfl), Option.bind_some]
      have hk5 := k4 (by omega)
      refine wp_als ⟨px_in hD hp (by omega) rfl (nI_1 _) rfl rfl (fun _ => ⟨t3 c3, rfl⟩) (fun _ => rfl) ?_ ?_ hfi' (Or.inl ⟨rfl, rfl⟩), wc_refl _⟩
      · rw [nI_clamp (by omega)]
        exact oe_top r6 hom
      · exact ⟨k3, i2, k3, by rw [List.length_cons]; omega, Or.inr (Or.inl ⟨rfl, _, _, rfl, rfl, hok, g4, g2, by omega⟩)⟩
    rw [if_neg c3, if_neg c1, if_neg c2, if_neg (show ¬ nI k.1 = 3 from nI_nn (b := 3) c3 (by omega) (by omega))]
    have nmE : nm T [91, 93] 0 := ⟨0, by rw [hT, List.length_append]; show 0 < 24 + _; omega, by rw [hT]; rfl, rfl⟩
    have nmD : nm T [46] 1 := ⟨1, by rw [hT, List.length_append]; show 1 < 24 + _; omega, by rw [hT]; rfl, rfl⟩
    by_cases c4 : k.1 = 40
    · rw [if_pos c4, if_pos (show nI k.1 = 40 by rw [c4]; rfl), Option.bind_some]
      have hk5 := k4 (by omega)
      refine wp_als ⟨px_in hD hp (by omega) rfl (nI_1 _) rfl rfl (fun z => nn z rfl) (fun _ => rfl) ?_ ?_ hfi' (Or.inl ⟨rfl, rfl⟩), wc_refl _⟩
      · rw [nI_clamp (by omega)]
        exact oe_top r6 ⟨rfl, rfl, rfl, fun _ => nmE, fun z => z.elim (fun z => nn z rfl) (fun z => nn z rfl), rfl⟩
      · refine ⟨k3, by decide, i3, by rw [List.length_cons]; omega, Or.inl ⟨rfl, ⟨⟨⟨i2, Nat.zero_le _, Nat.zero_le _⟩, nle rfl, nle rfl, fun z => absurd (show 4 ≤ 3 from z) (by decide), fun z => nn z rfl⟩, g4⟩, ?_, ?_⟩⟩
        · rw [sK, g2]
          show _ = 0 + _
          omega
        · rw [sP]
          show _ + (0 + _) ≤ _
          omega
    rw [if_neg c4, if_neg (show ¬ nI k.1 = 40 from nI_nn (b := 40) c4 (by omega) (by omega))]
    by_cases c5 : k.1 = 91
    · rw [if_pos c5, if_pos (show nI k.1 = 91 by rw [c5]; rfl), Option.bind_some]
      have hk5 := k4 (by omega)
      refine wp_als ⟨px_in hD hp (by omega) rfl (nI_1 _) rfl rfl (fun z => nn z rfl) (fun _ => rfl) ?_ ?_ hfi' (Or.inl ⟨rfl, rfl⟩), wc_refl _⟩
      · rw [nI_clamp (by omega)]
        exact oe_top r6 ⟨rfl, rfl, rfl, fun _ => nmD, fun z => z.elim (fun z => nn z rfl) (fun z => nn z rfl), rfl⟩
      · refine ⟨k3, by decide, i3, by rw [List.length_cons]; omega, Or.inl ⟨rfl, ⟨⟨⟨i2, Nat.zero_le _, Nat.zero_le _⟩, nle rfl, nle rfl, fun _ => nle rfl, fun z => nn z rfl⟩, g4⟩, ?_, ?_⟩⟩
        · rw [sK, g2]
          show _ = 0 + _
          omega
        · rw [sP]
          show _ + (2 + _) ≤ _
          omega
    rw [if_neg c5, if_neg (show ¬ nI k.1 = 91 from nI_nn (b := 91) c5 (by omega) (by omega)), Option.bind_some]
    exact wp_als ⟨px_br hD hp (by omega) (by omega), wc_refl _⟩
  unfold p_Reader_beginTerm p_Signs_place
  by_cases q : O = []
  · refine wp_it (by rw [q]; rfl) (wp_bs rfl ?_)
    exact B k.2.1 (by omega) (by rw [if_pos q])
  · have : O.length ≠ 0 := fun z => q (List.eq_nil_of_length_eq_zero z)
    refine wp_if (nI_nn (b := 0) this (by omega) (by omega)) ?_
    rw [show fst = nI fi from r5 (Or.inr q)]
    exact B fi hf (by rw [if_neg q])
/-! ===== behind a name, behind a left side ===== -/
theorem rd_sop {T U : List (List Int32)} (hT : T = KT ++ U) (hN : T.Nodup) (hTl : T.length < 65536) {k : Tk} {kin pla beh nam : Int32} {num : Int64} (hk : TKR T k kin pla beh nam num) (k5 : k.1 ≤ 125) (a b c d e g i j m p q r : Int32) : ∃ x, p_Reader_sidesOperator a b c d e g i j m kin pla beh p nam num q r = some x ∧ ((sop k = none ∧ x = -1) ∨ (∃ w, sop k = some w ∧ nm T w x ∧ 0 < (lvl w).1)) := by
  obtain ⟨rfl, rfl, rfl, t3, t1, t2⟩ := hk
  unfold p_Reader_sidesOperator p_Reader_sidesOperator_57 p_Reader_sidesOperator_58 p_Signs_kind p_Signs_name
  simp only [Option.bind_some]
  have nmC : nm T [44] 2 := ⟨2, by rw [hT, List.length_append]; show 2 < 24 + _; omega, by rw [hT]; rfl, rfl⟩
  by_cases c1 : k.1 = 44
  · exact ⟨2, by rw [if_pos (show nI k.1 = 44 by rw [c1]; rfl)], Or.inr ⟨[44], by unfold sop; rw [if_pos c1], nmC, by decide⟩⟩
  rw [if_neg (show ¬ nI k.1 = 44 from nI_nn (b := 44) c1 (by omega) (by omega))]
  by_cases c2 : k.1 = 3
  · rw [if_pos (show nI k.1 = 3 by rw [c2]; rfl)]
    have hn := t3 c2
    by_cases c3 : k.2.2.2.1 = [44]
    · rw [if_pos ((nm_eq hn nmC hTl hN).mpr c3), if_pos trivial]
      refine ⟨-1, rfl, Or.inl ⟨?_, rfl⟩⟩
      unfold sop
      rw [if_neg c1, if_neg (show ¬ (k.1 = 3 ∧ k.2.2.2.1 ≠ [44] ∧ 0 < (lvl k.2.2.2.1).1) from fun z => z.2.1 c3)]
    · rw [if_neg (fun z => c3 ((nm_eq hn nmC hTl hN).mp z)), kn_sidesL hT hN hn hTl, Option.bind_some]
      have := (lvl_lt k.2.2.2.1).1
      by_cases c4 : 0 < (lvl k.2.2.2.1).1
      · rw [if_neg (nI_nle c4 (by omega)), if_neg (by decide)]
        refine ⟨nam, rfl, Or.inr ⟨k.2.2.2.1, ?_, hn, c4⟩⟩
        unfold sop
        rw [if_neg c1, if_pos (show k.1 = 3 ∧ k.2.2.2.1 ≠ [44] ∧ 0 < (lvl k.2.2.2.1).1 from ⟨c2, c3, c4⟩)]
      · rw [if_pos (show nI (lvl k.2.2.2.1).1 ≤ 0 by rw [show (lvl k.2.2.2.1).1 = 0 by omega]; decide), if_pos trivial]
        refine ⟨-1, rfl, Or.inl ⟨?_, rfl⟩⟩
        unfold sop
        rw [if_neg c1, if_neg (show ¬ (k.1 = 3 ∧ k.2.2.2.1 ≠ [44] ∧ 0 < (lvl k.2.2.2.1).1) from fun z => c4 z.2.2)]
  · rw [if_neg (show ¬ nI k.1 = 3 from nI_nn (b := 3) c2 (by omega) (by omega)), if_pos trivial]
    refine ⟨-1, rfl, Or.inl ⟨?_, rfl⟩⟩
    unfold sop
    rw [if_neg c1, if_neg (show ¬ (k.1 = 3 ∧ k.2.2.2.1 ≠ [44] ∧ 0 < (lvl k.2.2.2.1).1) from fun z => c2 z.1)]
theorem rd_cbg {T U : List (List Int32)} (hT : T = KT ++ U) (hN : T.Nodup) (hTl : T.length < 65536) {k : Tk} {kin pla beh nam : Int32} {num : Int64} (hk : TKR T k kin pla beh nam num) (k5 : k.1 ≤ 125) (a b c d e g i j m p q r : Int32) : p_Reader_canTermBegin a b c d e g i j m kin pla beh p nam num q r = some (b1 (cbg k)) := by
  obtain ⟨x, e1, e2⟩ := rd_sop hT hN hTl hk k5 a b c d e g i j m p q r
  obtain ⟨rfl, rfl, rfl, t3, t1, t2⟩ := hk
  unfold p_Reader_canTermBegin
  rw [e1]
  unfold p_Signs_kind p_Signs_name cbg
  simp only [Option.bind_some]
  by_cases h4 : k.1 = 4
  · rw [if_pos (show nI k.1 = 4 by rw [h4]; rfl), if_pos (show k.1 = 4 ∨ k.1 = 41 ∨ k.1 = 44 ∨ k.1 = 93 ∨ k.1 = 124 ∨ k.1 = 125 by omega)]
    rfl
  rw [if_neg (show ¬ nI k.1 = 4 from nI_nn (b := 4) h4 (by omega) (by omega))]
  by_cases h41 : k.1 = 41
  · rw [if_pos (show nI k.1 = 41 by rw [h41]; rfl), if_pos (show k.1 = 4 ∨ k.1 = 41 ∨ k.1 = 44 ∨ k.1 = 93 ∨ k.1 = 124 ∨ k.1 = 125 by omega)]
    rfl
  rw [if_neg (show ¬ nI k.1 = 41 from nI_nn (b := 41) h41 (by omega) (by omega))]
  by_cases h44 : k.1 = 44
  · rw [if_pos (show nI k.1 = 44 by rw [h44]; rfl), if_pos (show k.1 = 4 ∨ k.1 = 41 ∨ k.1 = 44 ∨ k.1 = 93 ∨ k.1 = 124 ∨ k.1 = 125 by omega)]
    rfl
  rw [if_neg (show ¬ nI k.1 = 44 from nI_nn (b := 44) h44 (by omega) (by omega))]
  by_cases h93 : k.1 = 93
  · rw [if_pos (show nI k.1 = 93 by rw [h93]; rfl), if_pos (show k.1 = 4 ∨ k.1 = 41 ∨ k.1 = 44 ∨ k.1 = 93 ∨ k.1 = 124 ∨ k.1 = 125 by omega)]
    rfl
  rw [if_neg (show ¬ nI k.1 = 93 from nI_nn (b := 93) h93 (by omega) (by omega))]
  by_cases h124 : k.1 = 124
  · rw [if_pos (show nI k.1 = 124 by rw [h124]; rfl), if_pos (show k.1 = 4 ∨ k.1 = 41 ∨ k.1 = 44 ∨ k.1 = 93 ∨ k.1 = 124 ∨ k.1 = 125 by omega)]
    rfl
  rw [if_neg (show ¬ nI k.1 = 124 from nI_nn (b := 124) h124 (by omega) (by omega))]
  by_cases h125 : k.1 = 125
  · rw [if_pos (show nI k.1 = 125 by rw [h125]; rfl), if_pos (show k.1 = 4 ∨ k.1 = 41 ∨ k.1 = 44 ∨ k.1 = 93 ∨ k.1 = 124 ∨ k.1 = 125 by omega)]
    rfl
  rw [if_neg (show ¬ nI k.1 = 125 from nI_nn (b := 125) h125 (by omega) (by omega)), if_neg (show ¬ (k.1 = 4 ∨ k.1 = 41 ∨ k.1 = 44 ∨ k.1 = 93 ∨ k.1 = 124 ∨ k.1 = 125) by omega)]
  rcases e2 with ⟨e2, rfl⟩ | ⟨w, e2, e3, e4⟩
  · rw [if_pos rfl, e2]
    rfl
  · rw [e2, if_neg (nm_m1 e3 hTl)]
    have hw : k.1 = 3 ∧ w = k.2.2.2.1 := by
      unfold sop at e2
      rw [if_neg h44] at e2
      by_cases z : k.1 = 3 ∧ k.2.2.2.1 ≠ [44] ∧ 0 < (lvl k.2.2.2.1).1
      · rw [if_pos z] at e2
        injection e2 with e2
        exact ⟨z.1, e2.symm⟩
      · rw [if_neg z] at e2
        cases e2
    rw [kn_pref hT hN (t3 hw.1) hTl, Option.bind_some, ← hw.2]
    have := (lvl_lt w).2.2.2
    by_cases c4 : 0 < (lvl w).2.2.2
    · rw [if_neg (nI_nle c4 (by omega))]
      dsimp only
      rw [decide_eq_true c4]
      rfl
    · rw [if_pos (show nI (lvl w).2.2.2 ≤ 0 by rw [show (lvl w).2.2.2 = 0 by omega]; decide)]
      dsimp only
      rw [decide_eq_false c4]
      rfl
def Q2 (L : Nat) (c0 : Cs) (T : List (List Int32)) (k : Tk) (i : Nat) (s : Ps) (dep lnm lbh fst : Int32) (o0 o1 o2 o3 o4 o5 : Nat → Int32) (j : Nat) (vs lk : Int32) (ps : Int32) (pn : Nat) (pf vnf : Nat → Int32) (W : Nat) : (Int32 × Int32 × Int32 × Int32 × Int32 × Nat × (Nat → Int32) × Nat × (Nat → Int64) × Nat × (Nat → Int32) × Int32 × Nat × (Nat → Int32) × Int32 × Int32 × Int32 × Int32) × Nat × Nat → Prop :=
  fun ((sta', nxm', sym', pas', nd', sn', sf', vn', vf', fn', ff', ks', kn', kf', aw', nn', nl', pa'), mq, sk) => PX L c0 T k i s dep sta' nxm' lnm lbh fst (-1) pas' (upd o0 j (o0 j)) (upd o1 j (o1 j)) (upd o2 j aw') (upd o3 j nn') (upd o4 j nl') (upd o5 j pa') nd' vs lk sym' sn' sf' vn' vf' fn' ff' ps pn pf vnf ks' kn' kf' ∧ wc W (3 * sn' + pn + kn') mq sk
theorem cs2 (n : Nat) (hn : 20000 < n) {L : Nat} (hL : L ≤ 4096) {c0 : Cs} (h00 : c0.2.2.2.2 = 0) {T U : List (List Int32)} (hT : T = KT ++ U) (hN : T.Nodup) (hTl : T.length < 65536) {k : Tk} {nx : Nat} {O : List Op} {i : Nat} {ln : List Int32} {lb fi : Nat} {E : List Ev} {o : Op} {dep sta nxm lnm lbh fst : Int32} {kin pla beh nam : Int32} {num : Int64} {o0 o1 o2 o3 o4 o5 : Nat → Int32} (hk : TKR T k kin pla beh nam num) (k1 : i ≤ k.2.1) (k2 : k.2.1 ≤ k.2.2.1) (k3 : k.2.2.1 ≤ L) (k4 : k.1 ≠ 5 → k.2.1 < k.2.2.1) (k5 : k.1 ≤ 125) {nd vs lk sym : Int32} {sn : Nat} {sf : Nat → Int32} {vn : Nat} {vf : Nat → Int64} {fn : Nat} {ff : Nat → Int32} {ps : Int32} {pn : Nat} {pf vnf : Nat → Int32} {ks : Int32} {kn : Nat} {kf : Nat → Int32} (hD : DS T (E.foldl apc c0) nd vs lk sym sn sf vn vf fn ff ps pn pf vnf ks kn kf) (hp : pre c0 (E.foldl apc c0)) (hR : RC T (2, nx, o :: O, i, ln, lb, fi, E, none) dep sta nxm lnm lbh fst o0 o1 o2 o3 o4 o5) (hI : IV L 2 nx (o :: O) i lb E (E.foldl apc c0).2.2.1) (hf : fi ≤ L) (tmu tsz sbf tsy nb pb vb : Int32) : wp (p_Reader_goOnBehindName dep sta nxm lnm lbh sym fst (-1) tmu kin pla beh 0 nam num tsz sbf nd vs lk tsy nb pb vb sn sf vn vf fn ff ps ks kn kf (o0 O.length) (o1 O.length) (o2 O.length) (o3 O.length) (o4 O.length) (o5 O.length)) (Q2 L c0 T k i (st2 k nx o O i ln lb fi E) dep lnm lbh fst o0 o1 o2 o3 o4 o5 O.length vs lk ps pn pf vnf (3 * sn + pn + kn)) := by
  obtain ⟨r1, r2, r3, r4, r5, r6⟩ := hR
  dsimp only at r1 r2 r3 r4 r5 r6
  obtain ⟨r8, r7⟩ := r4 rfl
  have r5 := r5 (Or.inl (by decide))
  clear r4
  subst r2 r3 r7
  have r4 := r8
  obtain ⟨om, r6⟩ := r6
  obtain ⟨m1, m2, m3, m4, m5, m6⟩ := om
  obtain ⟨i1, i2, i3, i4, i5⟩ := hI
  have i6 : o.2.2.1 = 0 ∧ OK1 o ∧ OG O ∧ (E.foldl apc c0).2.2.1.length = sK O ∧ E.length + sP O + 1 ≤ 2 * i := by
    rcases i5 with z | ⟨_, o', O', z, z2⟩ | z | z | z
    · exact absurd z.1 (by decide)
    · injection z with z3 z4
      subst z3 z4
      exact z2
    · exact absurd z.1 (by decide)
    · exact absurd z.1 (by decide)
    · exact absurd z.1 (by decide)
  obtain ⟨g0, g1, g2, g3, g4⟩ := i6
  have sy := fold_sy c0 E
  rw [h00, Nat.zero_add] at sy
  have hk0 := hk
  obtain ⟨e1, e2, e3, t3, t1, t2⟩ := hk
  rw [List.length_cons] at i4 r1
  have lkb := lvl_lt ln
  have AT : wp ((p_Reader_addAtom lnm dep (nI 2) (nI nx) lnm (nI lb) sym fst (-1) tmu nd vs lk tsy nb pb vb sn sf vn vf fn ff ps ks kn kf).bind (fun ((sta', sym', nd', sn', sf', vn', vf', fn', ff', ks', kn', kf'), mq, sk) => al mq sk (some ((sta', nI nx, sym', (0 : Int32), nd', sn', sf', vn', vf', fn', ff', ks', kn', kf', o2 O.length, o3 O.length, o4 O.length, o5 O.length), 0, 0)))) (Q2 L c0 T k i (3, nx, o :: O, i, ln, lb, fi, E ++ [(none, ln, 0)], none) dep lnm (nI lb) fst o0 o1 o2 o3 o4 o5 O.length vs lk ps pn pf vnf (3 * sn + pn + kn)) := by
    refine wp_bind (ds_atom hD (by omega) r4 hTl dep (nI 2) (nI nx) lnm (nI lb) fst (-1) tmu tsy nb pb vb) ?_
    rintro ⟨⟨s', sym', nd', sn', sf', vn', vf', fn', ff', ks', kn', kf'⟩, m1', s1'⟩ ⟨e1', e2', e3'⟩
    dsimp only at e1' e2' e3' ⊢
    subst e1'
    refine wp_als ⟨px_in e2' (pre_ap hp _) ?_ ?_ (by rw [r1]; rfl) rfl rfl (fun z => nn z rfl) (fun _ => r5) ?_ ?_ hf (Or.inr ⟨rfl, rfl⟩), e3'⟩
    · rw [ap_sy]
      omega
    · rw [fold_1]
    · exact oe_top r6 ⟨m1, m2, m3, m4, m5, m6⟩
    · refine ⟨i1, i2, i3, by rw [List.length_cons]; omega, Or.inr (Or.inr (Or.inl ⟨rfl, _, _, rfl, g1, g2, ?_, ?_⟩))⟩
      · rw [ap_K, if_pos (show (none : Option Int64) = none ∧ 0 ≠ 100 from ⟨rfl, by decide⟩), g3]
        rfl
      · rw [List.length_append, List.length_singleton]
        omega
  have N : wp (p_Reader_goOnBehindName_119 dep (nI 2) (nI nx) lnm (nI lb) sym fst (-1) tmu kin pla beh 0 nam num tsz sbf nd vs lk tsy nb pb vb sn sf vn vf fn ff ps ks kn kf (o0 O.length) (o1 O.length) (o2 O.length) (o3 O.length) (o4 O.length) (o5 O.length) (nI (lvl ln).2.2.2)) (Q2 L c0 T k i (if 0 < (lvl ln).2.2.2 ∧ (lvl ln).2.2.2 ≤ o.1 ∧ cbg k = true then (1, (lvl ln).2.2.2, (o.1, o.2.1, 2, ln, (lvl ln).2.2.2, o.2.2.2.2.2) :: O, i, ln, lb, fi, E, none) else (3, nx, o :: O, i, ln, lb, fi, E ++ [(none, ln, 0)], none)) dep lnm (nI lb) fst o0 o1 o2 o3 o4 o5 O.length vs lk ps pn pf vnf (3 * sn + pn + kn)) := by
    unfold p_Reader_goOnBehindName_119
    by_cases c1 : 0 < (lvl ln).2.2.2
    · refine wp_if (nI_nle c1 (by omega)) ?_
      rw [m1]
      by_cases c2 : (lvl ln).2.2.2 ≤ o.1
      · refine wp_if (nI_nlt c2 (by have := g1.1; omega)) (wp_bs (rd_cbg hT hN hTl hk0 k5 _ _ _ _ _ _ _ _ _ _ _ _) ?_)
        by_cases c3 : cbg k = true
        · rw [if_pos (show 0 < (lvl ln).2.2.2 ∧ (lvl ln).2.2.2 ≤ o.1 ∧ cbg k = true from ⟨c1, c2, c3⟩)]
          unfold p_Open_awaitOperand p_Reader_awaitTerm
          refine wp_if (b1_f.mpr c3) (wp_bs rfl (wp_bs rfl (wp_some ⟨px_in hD hp (by omega) rfl (by rw [r1]; rfl) rfl rfl (fun z => nn z rfl) (fun _ => r5) ?_ ?_ hf (Or.inr ⟨rfl, rfl⟩), wc_refl _⟩)))
          · exact oe_top r6 ⟨m1, m2, rfl, fun _ => r4, fun _ => rfl, m6⟩
          · refine ⟨i1, by omega, i3, by rw [List.length_cons]; omega, Or.inl ⟨rfl, ⟨⟨⟨g1.1, g1.2.1, by show (lvl ln).2.2.2 ≤ 1200; omega⟩, nle rfl, nle rfl, fun z => absurd (show 4 ≤ 2 from z) (by decide), fun z => nn z rfl⟩, g2⟩, ?_, ?_⟩⟩
            · rw [sK, g3]
              show _ = 0 + _
              omega
            · rw [sP]
              show _ + (1 + _) ≤ _
              omega
        · rw [if_neg (show ¬ (0 < (lvl ln).2.2.2 ∧ (lvl ln).2.2.2 ≤ o.1 ∧ cbg k = true) from fun z => c3 z.2.2)]
          exact wp_it (b1_0 c3) AT
      · rw [if_neg (show ¬ (0 < (lvl ln).2.2.2 ∧ (lvl ln).2.2.2 ≤ o.1 ∧ cbg k = true) from fun z => c2 z.2.1)]
        exact wp_it (nI_lt (by omega) (by omega)) AT
    · rw [if_neg (show ¬ (0 < (lvl ln).2.2.2 ∧ (lvl ln).2.2.2 ≤ o.1 ∧ cbg k = true) from fun z => c1 z.1)]
      exact wp_it (show nI (lvl ln).2.2.2 ≤ 0 by rw [show (lvl ln).2.2.2 = 0 by omega]; decide) AT
  have nmM : nm T [45] 3 := ⟨3, by rw [hT, List.length_append]; show 3 < 24 + _; omega, by rw [hT]; rfl, rfl⟩
  subst e1 e2 e3
  unfold p_Reader_goOnBehindName p_Signs_place st2
  refine wp_bs rfl ?_
  unfold p_Reader_goOnBehindName_19
  rw [kn_pref hT hN r4 hTl]
  by_cases c1 : k.2.1 = lb
  · refine wp_it (by rw [c1]) (wp_bs rfl (wp_if (by decide) ?_))
    unfold p_Signs_kind p_Signs_pass p_Open_awaitPart p_Reader_awaitTerm
    refine wp_bs rfl ?_
    by_cases c2 : k.1 = 40
    · rw [if_pos (show k.2.1 = lb ∧ k.1 = 40 from ⟨c1, c2⟩)]
      have hk5 := k4 (by omega)
      refine wp_it (by rw [c2]; rfl) (wp_bs rfl (wp_bs rfl (wp_bs rfl (wp_some ⟨px_in hD hp (by omega) rfl (by rw [r1]; rfl) rfl rfl (fun z => nn z rfl) (fun _ => r5) ?_ ?_ hf (Or.inl ⟨rfl, rfl⟩), wc_refl _⟩))))
      · exact oe_top r6 ⟨m1, m2, rfl, fun _ => r4, fun z => z.elim (fun z => nn z rfl) (fun z => nn z rfl), rfl⟩
      · refine ⟨k3, by decide, i3, by rw [List.length_cons]; omega, Or.inl ⟨rfl, ⟨⟨⟨g1.1, g1.2.1, g1.2.2⟩, nle rfl, nle rfl, fun _ => nle rfl, fun _ => nle rfl⟩, g2⟩, ?_, ?_⟩⟩
        · rw [sK, g3]
          show _ = 0 + _
          omega
        · rw [sP]
          show _ + (1 + _) ≤ _
          omega
    · rw [if_neg (show ¬ (k.2.1 = lb ∧ k.1 = 40) from fun z => c2 z.2)]
      refine wp_if (nI_nn (b := 40) c2 (by omega) (by omega)) ?_
      unfold p_Reader_goOnBehindName_74 p_Signs_kind p_Signs_pass p_Signs_number
      refine wp_if (by decide) ?_
      by_cases c3 : ln = [45]
      · refine wp_it ((nm_eq r4 nmM hTl hN).mpr c3) (wp_bs rfl ?_)
        by_cases c4 : k.1 = 2
        · rw [if_pos (show k.2.1 = lb ∧ ln = [45] ∧ k.1 = 2 from ⟨c1, c3, c4⟩)]
          have hk5 := k4 (by omega)
          refine wp_it (by rw [c4]; rfl) (wp_bs rfl (wp_bs rfl (wp_bind (ds_int hD (by omega) (-num) dep (nI 2) (nI nx) lnm (nI lb) fst (-1) tmu tsy nb pb vb) ?_)))
          rintro ⟨⟨s', sym', nd', sn', sf', vn', vf', fn', ff', ks', kn', kf'⟩, m1', s1'⟩ ⟨e1', e2', e3'⟩
          dsimp only at e1' e2' e3' ⊢
          subst e1'
          rw [t2 c4] at e2'
          refine wp_als ⟨px_in e2' (pre_ap hp _) ?_ ?_ (by rw [r1]; rfl) rfl rfl (fun z => nn z rfl) (fun _ => r5) ?_ ?_ hf (Or.inl ⟨rfl, rfl⟩), e3'⟩
          · rw [ap_sy]
            omega
          · rw [fold_1]
          · exact oe_top r6 ⟨m1, m2, m3, m4, m5, m6⟩
          · refine ⟨k3, i2, i3, by rw [List.length_cons]; omega, Or.inr (Or.inr (Or.inl ⟨rfl, _, _, rfl, g1, g2, ?_, ?_⟩))⟩
            · rw [ap_K, if_neg (show ¬ ((some (-lN k.2.2.2.2) : Option Int64) = none ∧ 0 ≠ 100) from fun z => by cases z.1), g3]
            · rw [List.length_append, List.length_singleton]
              omega
        · rw [if_neg (show ¬ (k.2.1 = lb ∧ ln = [45] ∧ k.1 = 2) from fun z => c4 z.2.2)]
          exact wp_if (nI_nn (b := 2) c4 (by omega) (by omega)) N
      · rw [if_neg (show ¬ (k.2.1 = lb ∧ ln = [45] ∧ k.1 = 2) from fun z => c3 z.2.1)]
        exact wp_if (fun z => c3 ((nm_eq r4 nmM hTl hN).mp z)) N
  · rw [if_neg (show ¬ (k.2.1 = lb ∧ k.1 = 40) from fun z => c1 z.1), if_neg (show ¬ (k.2.1 = lb ∧ ln = [45] ∧ k.1 = 2) from fun z => c1 z.1)]
    refine wp_if (nI_nn c1 (by omega) (by omega)) (wp_bs rfl (wp_it rfl ?_))
    unfold p_Reader_goOnBehindName_74
    exact wp_it rfl N
theorem cs3 (n : Nat) (hn : 20000 < n) {L : Nat} (hL : L ≤ 4096) {c0 : Cs} (h00 : c0.2.2.2.2 = 0) {T U : List (List Int32)} (hT : T = KT ++ U) (hN : T.Nodup) (hTl : T.length < 65536) {k : Tk} {nx : Nat} {O : List Op} {i : Nat} {ln : List Int32} {lb fi : Nat} {E : List Ev} {o : Op} {dep sta nxm lnm lbh fst : Int32} {kin pla beh nam : Int32} {num : Int64} {o0 o1 o2 o3 o4 o5 : Nat → Int32} (hk : TKR T k kin pla beh nam num) (k1 : i ≤ k.2.1) (k2 : k.2.1 ≤ k.2.2.1) (k3 : k.2.2.1 ≤ L) (k4 : k.1 ≠ 5 → k.2.1 < k.2.2.1) (k5 : k.1 ≤ 125) {nd vs lk sym : Int32} {sn : Nat} {sf : Nat → Int32} {vn : Nat} {vf : Nat → Int64} {fn : Nat} {ff : Nat → Int32} {ps : Int32} {pn : Nat} {pf vnf : Nat → Int32} {ks : Int32} {kn : Nat} {kf : Nat → Int32} (hD : DS T (E.foldl apc c0) nd vs lk sym sn sf vn vf fn ff ps pn pf vnf ks kn kf) (hp : pre c0 (E.foldl apc c0)) (hR : RC T (3, nx, o :: O, i, ln, lb, fi, E, none) dep sta nxm lnm lbh fst o0 o1 o2 o3 o4 o5) (hI : IV L 3 nx (o :: O) i lb E (E.foldl apc c0).2.2.1) (hf : fi ≤ L) (tmu tsz sbf : Int32) : wp (p_Reader_goOnBehindLeftSide dep sta nxm lnm lbh sym fst (-1) tmu kin pla beh 0 nam num tsz sbf (o0 O.length) (o1 O.length) (o2 O.length) (o3 O.length) (o4 O.length) (o5 O.length)) (fun (dep', sta', nxm', pas', aw', nn', nl') => PX L c0 T k i (st3 k nx o O i ln lb fi E) dep' sta' nxm' lnm lbh fst (-1) pas' (upd o0 O.length (o0 O.length)) (upd o1 O.length (o1 O.length)) (upd o2 O.length aw') (upd o3 O.length nn') (upd o4 O.length nl') (upd o5 O.length (o5 O.length)) nd vs lk sym sn sf vn vf fn ff ps pn pf vnf ks kn kf) := by
  obtain ⟨r1, r2, r3, r4, r5, r6⟩ := hR
  dsimp only at r1 r2 r3 r4 r5 r6
  replace r5 := r5 (Or.inl (by decide))
  subst r2 r3
  obtain ⟨om, r6⟩ := r6
  obtain ⟨m1, m2, m3, m4, m5, m6⟩ := om
  obtain ⟨i1, i2, i3, i4, i5⟩ := hI
  have i6 : OK1 o ∧ OG O ∧ (E.foldl apc c0).2.2.1.length = sK O + 1 ∧ E.length + sP O ≤ 2 * i := by
    rcases i5 with z | z | ⟨_, o', O', z, z2⟩ | z | z
    · exact absurd z.1 (by decide)
    · exact absurd z.1 (by decide)
    · injection z with z3 z4
      subst z3 z4
      exact z2
    · exact absurd z.1 (by decide)
    · exact absurd z.1 (by decide)
  obtain ⟨g1, g2, g3, g4⟩ := i6
  have sy := fold_sy c0 E
  rw [h00, Nat.zero_add] at sy
  rw [List.length_cons] at i4 r1
  obtain ⟨x, e1, e2⟩ := rd_sop hT hN hTl hk k5 dep (nI 3) (nI nx) lnm lbh sym fst (-1) tmu 0 tsz sbf
  have P : ∀ (aw nn' nl : Int32), wp (p_Reader_goOnBehindLeftSide_70 dep (nI nx) 0 aw nn' nl) (fun (dep', sta', nxm', pas', aw', nn', nl') => PX L c0 T k i ((if O = [] then 5 else 4), nx, O, i, ln, lb, fi, E, none) dep' sta' nxm' lnm lbh fst (-1) pas' (upd o0 O.length (o0 O.length)) (upd o1 O.length (o1 O.length)) (upd o2 O.length aw') (upd o3 O.length nn') (upd o4 O.length nl') (upd o5 O.length (o5 O.length)) nd vs lk sym sn sf vn vf fn ff ps pn pf vnf ks kn kf) := fun aw nn' nl => by
    unfold p_Reader_goOnBehindLeftSide_70
    rw [r1, nI_pred]
    cases O with
    | nil =>
      rw [if_pos rfl]
      refine wp_it (by decide) (wp_some (px_in hD hp (by omega) rfl rfl rfl rfl (fun z => nn z rfl) (fun _ => r5) trivial ?_ hf (Or.inr ⟨rfl, rfl⟩)))
      exact ⟨i1, i2, i3, by decide, Or.inr (Or.inr (Or.inr (Or.inr ⟨by decide, by decide, rfl, g3, g4⟩)))⟩
    | cons o' O =>
      rw [if_neg (show ¬ o' :: O = [] by simp)]
      refine wp_if (nI_nle (by rw [List.length_cons]; omega) (by omega)) (wp_some (px_in hD hp (by omega) rfl rfl rfl rfl (fun z => nn z rfl) (fun _ => r5) (oe_upd r6 (Nat.le_refl _)) ?_ hf (Or.inr ⟨rfl, rfl⟩)))
      exact ⟨i1, i2, i3, by omega, Or.inr (Or.inr (Or.inr (Or.inl ⟨rfl, _, _, rfl, g2, g3, g4⟩)))⟩
  unfold p_Reader_goOnBehindLeftSide st3
  refine wp_bs e1 ?_
  rcases e2 with ⟨e2, rfl⟩ | ⟨w, e2, e3, e4⟩
  · rw [e2]
    have z : p_Names_sidesLevel (-1) tsz sbf = some 0 := rfl
    exact wp_bs z (wp_it (by decide) (P _ _ _))
  · rw [e2]
    dsimp only
    have lb1 := lvl_lt w
    refine wp_bs (kn_sidesL hT hN e3 hTl _ _) (wp_if (nI_nle e4 (by omega)) ?_)
    have g11 := g1.1
    have g12 := g1.2.1
    rw [m1, m2]
    by_cases c1 : (lvl w).1 ≤ o.1
    · refine wp_if (nI_nlt c1 (by omega)) (wp_bs (kn_leftM hT hN e3 hTl _ _) ?_)
      by_cases c2 : o.2.1 ≤ (lvl w).2.1
      · rw [if_pos (show (lvl w).1 ≤ o.1 ∧ o.2.1 ≤ (lvl w).2.1 from ⟨c1, c2⟩)]
        unfold p_Signs_pass p_Open_awaitOperand p_Reader_awaitTerm
        have hk5 : k.2.1 < k.2.2.1 := k4 (fun z => by
          unfold sop at e2
          rw [if_neg (by omega), if_neg (by omega)] at e2
          cases e2)
        refine wp_if (nI_nlt c2 (by omega)) (wp_bs rfl (wp_bs rfl (wp_bs (kn_rightM hT hN e3 hTl _ _) (wp_bs rfl (wp_some (px_in hD hp (by omega) rfl (by rw [r1]; rfl) rfl rfl (fun z => nn z rfl) (fun _ => r5) ?_ ?_ hf (Or.inl ⟨rfl, rfl⟩)))))))
        · rw [← m1, ← m2]
          exact oe_top r6 ⟨m1, m2, rfl, fun _ => e3, fun _ => rfl, m6⟩
        · refine ⟨k3, by omega, i3, by rw [List.length_cons]; omega, Or.inl ⟨rfl, ⟨⟨⟨g1.1, g1.2.1, by show (lvl w).1 ≤ 1200; omega⟩, nle rfl, nle rfl, fun z => absurd (show 4 ≤ 1 from z) (by decide), fun z => nn z rfl⟩, g2⟩, ?_, ?_⟩⟩
          · rw [sK, g3]
            show _ = 1 + _
            omega
          · rw [sP]
            show _ + (1 + _) ≤ _
            omega
      · rw [if_neg (show ¬ ((lvl w).1 ≤ o.1 ∧ o.2.1 ≤ (lvl w).2.1) from fun z => c2 z.2), ← m1, ← m2]
        exact wp_it (by rw [m2]; exact nI_lt (by omega) (by omega)) (P _ _ _)
    · rw [if_neg (show ¬ ((lvl w).1 ≤ o.1 ∧ o.2.1 ≤ (lvl w).2.1) from fun z => c1 z.1), ← m1, ← m2]
      exact wp_it (by rw [m1]; exact nI_lt (by omega) (by omega)) (P _ _ _)
/-! ===== behind an inner term ===== -/
theorem rd_pass {k : Tk} {kin : Int32} (hk : kin = nI k.1) (k5 : k.1 ≤ 125) (v : Nat) (hv : v < 1000) (sb a b c d e g i j m pla beh nam : Int32) (num : Int64) : p_Reader_passOnly (nI v) sb a b c d e g i j m kin pla beh 0 nam num = some (if k.1 = v then (sb, j, 1) else (b, pla, 0)) := by
  subst hk
  unfold p_Reader_passOnly p_Signs_kind p_Signs_pass p_Reader_breakHere p_Signs_place
  simp only [Option.bind_some]
  by_cases q : k.1 = v
  · rw [if_pos (by rw [q]), if_pos q]
  · rw [if_neg (nI_nn q (by omega) (by omega)), if_neg q]
def cls (P : Nat) (w : List Int32) (c : Cs) : Cs := (List.replicate P (none, w, 2)).foldl apc c
theorem cls_s (P : Nat) (w : List Int32) (c : Cs) : cls (P + 1) w c = cls P w (apc c (none, w, 2)) := by
  unfold cls
  rw [List.replicate_succ, List.foldl_cons]
theorem pre_cls {c0 : Cs} (w : List Int32) : ∀ (P : Nat) (c : Cs), pre c0 c → pre c0 (cls P w c) := by
  intro P
  induction P with
  | zero => intro c h; exact h
  | succ P ih => intro c h; rw [cls_s]; exact ih _ (pre_ap h _)
theorem cls_K (w : List Int32) : ∀ (P : Nat) (c : Cs), P + 1 ≤ c.2.2.1.length → (cls P w c).2.2.1.length = c.2.2.1.length - P := by
  intro P
  induction P with
  | zero => intro c h; rfl
  | succ P ih =>
    intro c h
    have e : (apc c (none, w, 2)).2.2.1.length = c.2.2.1.length - 2 + 1 := by
      rw [ap_K, if_pos (show (none : Option Int64) = none ∧ 2 ≠ 100 from ⟨rfl, by decide⟩)]
    rw [cls_s, ih _ (by omega), e]
    omega
theorem cl_loop (n : Nat) (hn : 20000 < n) {T : List (List Int32)} {w : List Int32} {x : Int32} (hw : nm T w x) (hT : T.length < 65536) (dep nxm lnm lbh fst tmu vs lk t1 t2 t3 t4 brk pas : Int32) (vnf : Nat → Int32) (PP : Nat) (hPP : PP ≤ 20000) : ∀ (P i f : Nat) (c : Cs) (nd sym sta : Int32) (sn : Nat) (sf : Nat → Int32) (vn : Nat) (vf : Nat → Int64) (fn : Nat) (ff : Nat → Int32) (ps : Int32) (pn : Nat) (pf : Nat → Int32) (ks : Int32) (kn : Nat) (kf : Nat → Int32), i + P = PP → P < f → P + 1 ≤ c.2.2.1.length → c.2.2.2.2 + P < 19900 → DS T c nd vs lk sym sn sf vn vf fn ff ps pn pf vnf ks kn kf → wp (p_Reader_closeList_9 n dep nxm lnm lbh fst tmu vs lk t1 t2 t3 t4 x (nI PP) brk pas f (nI i) nd ps ks sta sym sn sf vn vf fn ff pn pf kn kf) (fun ((sta', sym', brk', pas', nd', sn', sf', vn', vf', fn', ff', ps', pn', pf', ks', kn', kf'), mq, sk) => (sta' = 3 ∨ (P = 0 ∧ sta' = sta)) ∧ brk' = brk ∧ pas' = pas ∧ DS T (cls P w c) nd' vs lk sym' sn' sf' vn' vf' fn' ff' ps' pn' pf' vnf ks' kn' kf' ∧ wc (3 * sn + pn + kn) (3 * sn' + pn' + kn') mq sk) := by
  intro P
  induction P with
  | zero =>
    intro i f c nd sym sta sn sf vn vf fn ff ps pn pf ks kn kf hi hf hK hs hD
    obtain ⟨f, rfl⟩ : ∃ z, f = z + 1 := ⟨f - 1, by omega⟩
    rw [p_Reader_closeList_9]
    exact wp_it (nI_le (by omega) (by omega)) (wp_some ⟨Or.inr ⟨rfl, rfl⟩, rfl, rfl, hD, wc_refl _⟩)
  | succ P ih =>
    intro i f c nd sym sta sn sf vn vf fn ff ps pn pf ks kn kf hi hf hK hs hD
    obtain ⟨f, rfl⟩ : ∃ z, f = z + 1 := ⟨f - 1, by omega⟩
    rw [p_Reader_closeList_9]
    refine wp_if (nI_ge (by omega) (by omega)) (wp_bind (ds_compound n (by omega) hD (by omega) hw hT (k := 2) (by omega) (by decide) dep sta nxm lnm lbh fst brk tmu t1 t2 t3 t4) ?_)
    rintro ⟨⟨s', sym', nd', sn', sf', vn', vf', fn', ff', ps', pn', pf', ks', kn', kf'⟩, m1, s1⟩ ⟨e1, e2, e3⟩
    dsimp only at e1 e2 e3 ⊢
    refine wp_al ?_
    rw [nI_1]
    have e : (apc c (none, w, 2)).2.2.1.length = c.2.2.1.length - 2 + 1 := by
      rw [ap_K, if_pos (show (none : Option Int64) = none ∧ 2 ≠ 100 from ⟨rfl, by decide⟩)]
    refine wp_mono (ih (i + 1) f _ nd' sym' s' sn' sf' vn' vf' fn' ff' ps' pn' pf' ks' kn' kf' (by omega) (by omega) (by omega) (by rw [ap_sy]; omega) e2) ?_
    rintro ⟨⟨s2, y2, b2, p2, nd2, sn2, sf2, vn2, vf2, fn2, ff2, ps2, pn2, pf2, ks2, kn2, kf2⟩, m2, k2⟩ ⟨d1, d2, d3, d4, d5⟩
    dsimp only at d1 d2 d3 d4 d5 ⊢
    refine ⟨Or.inl ?_, d2, d3, by rw [cls_s]; exact d4, wc_trans e3 d5⟩
    rcases d1 with z | z
    · exact z
    · rw [z.2, e1]
def Q4 (L : Nat) (c0 : Cs) (T : List (List Int32)) (k : Tk) (i : Nat) (s : Ps) (dep lnm lbh fst : Int32) (o0 o1 o2 o3 o4 o5 : Nat → Int32) (j : Nat) (vs lk : Int32) (vnf : Nat → Int32) (W : Nat) : (Int32 × Int32 × Int32 × Int32 × Int32 × Int32 × Nat × (Nat → Int32) × Nat × (Nat → Int64) × Nat × (Nat → Int32) × Int32 × Nat × (Nat → Int32) × Int32 × Nat × (Nat → Int32) × Int32 × Int32 × Int32) × Nat × Nat → Prop :=
  fun ((sta', nxm', sym', brk', pas', nd', sn', sf', vn', vf', fn', ff', ps', pn', pf', ks', kn', kf', le', aw', pa'), mq, sk) => PX L c0 T k i s dep sta' nxm' lnm lbh fst brk' pas' (upd o0 j (o0 j)) (upd o1 j le') (upd o2 j aw') (upd o3 j (o3 j)) (upd o4 j (o4 j)) (upd o5 j pa') nd' vs lk sym' sn' sf' vn' vf' fn' ff' ps' pn' pf' vnf ks' kn' kf' ∧ wc W (3 * sn' + pn' + kn') mq sk
theorem cs4 (n : Nat) (hn : 20000 < n) {L : Nat} (hL : L ≤ 4096) {c0 : Cs} (h00 : c0.2.2.2.2 = 0) {T U : List (List Int32)} (hT : T = KT ++ U) (hN : T.Nodup) (hTl : T.length < 65536) {k : Tk} {nx : Nat} {O : List Op} {i : Nat} {ln : List Int32} {lb fi : Nat} {E : List Ev} {o : Op} {dep sta nxm lnm lbh fst : Int32} {kin pla beh nam : Int32} {num : Int64} {o0 o1 o2 o3 o4 o5 : Nat → Int32} (hk : TKR T k kin pla beh nam num) (k1 : i ≤ k.2.1) (k2 : k.2.1 ≤ k.2.2.1) (k3 : k.2.2.1 ≤ L) (k4 : k.1 ≠ 5 → k.2.1 < k.2.2.1) (k5 : k.1 ≤ 125) {nd vs lk sym : Int32} {sn : Nat} {sf : Nat → Int32} {vn : Nat} {vf : Nat → Int64} {fn : Nat} {ff : Nat → Int32} {ps : Int32} {pn : Nat} {pf vnf : Nat → Int32} {ks : Int32} {kn : Nat} {kf : Nat → Int32} (hD : DS T (E.foldl apc c0) nd vs lk sym sn sf vn vf fn ff ps pn pf vnf ks kn kf) (hp : pre c0 (E.foldl apc c0)) (hR : RC T (4, nx, o :: O, i, ln, lb, fi, E, none) dep sta nxm lnm lbh fst o0 o1 o2 o3 o4 o5) (hI : IV L 4 nx (o :: O) i lb E (E.foldl apc c0).2.2.1) (hf : fi ≤ L) (tmu tsy nb pb vb : Int32) : wp (p_Reader_goOnBehindInner n dep sta nxm lnm lbh sym fst (-1) tmu kin pla beh 0 nam num nd vs lk tsy nb pb vb sn sf vn vf fn ff ps pn pf ks kn kf (o0 O.length) (o1 O.length) (o2 O.length) (o3 O.length) (o4 O.length) (o5 O.length)) (Q4 L c0 T k i (st4 k nx o O i ln lb fi E) dep lnm lbh fst o0 o1 o2 o3 o4 o5 O.length vs lk vnf (3 * sn + pn + kn)) := by
  obtain ⟨r1, r2, r3, r4, r5, r6⟩ := hR
  dsimp only at r1 r2 r3 r4 r5 r6
  replace r5 := r5 (Or.inl (by decide))
  subst r2 r3
  obtain ⟨om, r6⟩ := r6
  obtain ⟨m1, m2, m3, m4, m5, m6⟩ := om
  obtain ⟨i1, i2, i3, i4, i5⟩ := hI
  have i6 : OG (o :: O) ∧ (E.foldl apc c0).2.2.1.length = sK (o :: O) + 1 ∧ E.length + sP (o :: O) ≤ 2 * i := by
    rcases i5 with z | z | z | ⟨_, o', O', z, z2⟩ | z
    · exact absurd z.1 (by decide)
    · exact absurd z.1 (by decide)
    · exact absurd z.1 (by decide)
    · exact z2
    · exact absurd z.1 (by decide)
  obtain ⟨⟨⟨g1, g5, g6, g7, g8⟩, g2⟩, g3, g4⟩ := i6
  rw [sK] at g3
  rw [sP] at g4
  have sy := fold_sy c0 E
  rw [h00, Nat.zero_add] at sy
  rw [List.length_cons] at i4 r1
  obtain ⟨e1, e2, e3, t3, t1, t2⟩ := hk
  have m4 := m4 (by omega)
  have hpa : o.2.2.2.2.2 ≤ 9000 ∨ o.2.2.1 ≤ 3 := by
    by_cases z5 : o.2.2.1 = 5
    · have : pd o = o.2.2.2.2.2 + 1 := by unfold pd; rw [if_neg (by omega), if_pos z5]
      exact Or.inl (by omega)
    · by_cases z6 : o.2.2.1 = 6
      · have : pd o = o.2.2.2.2.2 := by unfold pd; rw [if_neg (by omega), if_neg (by omega), if_pos z6]
        exact Or.inl (by omega)
      · by_cases z4 : o.2.2.1 = 4
        · have := g8 z4
          exact Or.inl (by omega)
        · exact Or.inr (by omega)
  unfold p_Reader_goOnBehindInner st4
  rw [m3]
  -- operators
  have OPR : ∀ (a : Nat), (a = 1 ∨ a = 2) → o.2.2.1 = a → wp ((p_Reader_addCompound n (o3 O.length) (nI (3 - a)) dep (nI 4) (nI nx) lnm lbh sym fst (-1) tmu nd vs lk tsy nb pb vb sn sf vn vf fn ff ps pn pf ks kn kf).bind (fun ((a_state_2, a_symbols_2, t_nodes_2, t_shapes_n_2, t_shapes_f_2, t_values_n_2, t_values_f_2, t_firstParts_n_2, t_firstParts_f_2, t_parts_size_2, t_parts_items_n_2, t_parts_items_f_2, v_size_2, v_items_n_2, v_items_f_2), mk2, sk2) => al mk2 sk2 (some ((a_state_2, nI nx, a_symbols_2, (-1 : Int32), (0 : Int32), t_nodes_2, t_shapes_n_2, t_shapes_f_2, t_values_n_2, t_values_f_2, t_firstParts_n_2, t_firstParts_f_2, t_parts_size_2, t_parts_items_n_2, t_parts_items_f_2, v_size_2, v_items_n_2, v_items_f_2, o4 O.length, nI o.2.2.1, o5 O.length), 0, 0)))) (Q4 L c0 T k i (3, nx, (o.1, o.2.2.2.2.1, o.2.2) :: O, i, ln, lb, fi, E ++ [(none, o.2.2.2.1, 3 - a)], none) dep lnm lbh fst o0 o1 o2 o3 o4 o5 O.length vs lk vnf (3 * sn + pn + kn)) := fun a ha ea => by
    have hkd : kd o = 2 - a := by
      unfold kd
      rcases ha with rfl | rfl
      · rw [if_pos ea]
      · rw [if_neg (by omega), if_neg (by omega), if_neg (by omega)]
    have hpd : pd o = 1 := by
      unfold pd
      rw [if_pos (by omega)]
    refine wp_bind (ds_compound n (by omega) hD (by omega) m4 hTl (k := 3 - a) (by omega) (by omega) dep (nI 4) (nI nx) lnm lbh fst (-1) tmu tsy nb pb vb) ?_
    rintro ⟨⟨s', sym', nd', sn', sf', vn', vf', fn', ff', ps', pn', pf', ks', kn', kf'⟩, m1', s1'⟩ ⟨e1', e2', e3'⟩
    dsimp only at e1' e2' e3' ⊢
    subst e1'
    refine wp_als ⟨px_in e2' (pre_ap hp _) ?_ ?_ (by rw [r1]; rfl) rfl rfl (fun z => nn z rfl) (fun _ => r5) ?_ ?_ hf (Or.inr ⟨rfl, rfl⟩), e3'⟩
    · rw [ap_sy]
      omega
    · rw [fold_1]
    · exact oe_top r6 ⟨m1, m5 (by omega), rfl, fun _ => m4, fun z => m5 (by omega), m6⟩
    · refine ⟨i1, i2, i3, by rw [List.length_cons]; omega, Or.inr (Or.inr (Or.inl ⟨rfl, _, _, rfl, ⟨g1.1, g1.2.2, g1.2.2⟩, g2, ?_, ?_⟩))⟩
      · rw [ap_K, if_pos (show (none : Option Int64) = none ∧ 3 - a ≠ 100 from ⟨rfl, by omega⟩)]
        dsimp only
        omega
      · rw [List.length_append, List.length_singleton]
        omega
  by_cases a1 : o.2.2.1 = 1
  · rw [if_pos a1]
    exact wp_it (by rw [a1]; rfl) (OPR 1 (Or.inl rfl) a1)
  rw [if_neg a1]
  refine wp_if (nI_nn (b := 1) a1 (by omega) (by omega)) ?_
  by_cases a2 : o.2.2.1 = 2
  · rw [if_pos a2]
    exact wp_it (by rw [a2]; rfl) (OPR 2 (Or.inr rfl) a2)
  rw [if_neg a2]
  refine wp_if (nI_nn (b := 2) a2 (by omega) (by omega)) ?_
  have OT : OE T (upd o0 O.length (o0 O.length)) (upd o1 O.length (o1 O.length)) (upd o2 O.length (nI o.2.2.1)) (upd o3 O.length (o3 O.length)) (upd o4 O.length (o4 O.length)) (upd o5 O.length (o5 O.length)) (o :: O) := oe_top r6 ⟨m1, m2, rfl, fun _ => m4, m5, m6⟩
  by_cases a3 : o.2.2.1 = 3
  · rw [if_pos a3]
    have hkd : kd o = 0 := by
      unfold kd
      rw [if_neg a1, if_neg (by omega), if_neg (by omega)]
    have hpd : pd o = 0 := by
      unfold pd
      rw [if_neg (by omega), if_neg (by omega), if_neg (by omega)]
    refine wp_it (by rw [a3]; rfl) (wp_bs (rd_pass e1 k5 41 (by decide) _ _ _ _ _ _ _ _ _ _ _ _ _ _) ?_)
    by_cases b1' : k.1 = 41
    · rw [if_pos b1', if_pos b1']
      have hk5 := k4 (by omega)
      refine wp_some ⟨px_in hD hp (by omega) rfl (by rw [r1]; rfl) rfl rfl (fun z => nn z rfl) (fun _ => r5) OT ?_ hf (Or.inl ⟨rfl, rfl⟩), wc_refl _⟩
      exact ⟨k3, i2, i3, by rw [List.length_cons]; omega, Or.inr (Or.inr (Or.inl ⟨rfl, _, _, rfl, g1, g2, by omega, by omega⟩))⟩
    · rw [if_neg b1', if_neg b1', e2]
      exact wp_some ⟨px_br hD hp (by omega) (by omega), wc_refl _⟩
  rw [if_neg a3]
  refine wp_if (nI_nn (b := 3) a3 (by omega) (by omega)) ?_
  by_cases a4 : o.2.2.1 = 4
  · rw [if_pos a4]
    have hkd : kd o = o.2.2.2.2.2 - 1 := by
      unfold kd
      rw [if_neg a1, if_pos (by omega)]
    have hpd : pd o = 1 := by
      unfold pd
      rw [if_pos (by omega)]
    have g7 := g7 (by omega)
    have g8 := g8 a4
    refine wp_it (by rw [a4]; rfl) ?_
    unfold p_Reader_goOnBehindPart p_Signs_kind p_Signs_pass p_Reader_awaitTerm
    rw [Option.bind_some, e1]
    by_cases b1' : k.1 = 44
    · rw [if_pos b1', if_pos (show nI k.1 = 44 by rw [b1']; rfl), Option.bind_some, Option.bind_some]
      have hk5 := k4 (by omega)
      refine wp_bs rfl (wp_als ⟨px_in hD hp (by omega) rfl (by rw [r1]; rfl) rfl rfl (fun z => nn z rfl) (fun _ => r5) ?_ ?_ hf (Or.inl ⟨rfl, rfl⟩), wc_refl _⟩)
      · exact oe_top r6 ⟨m1, m2, rfl, fun _ => m4, m5, by rw [m6, nI_1]⟩
      · refine ⟨k3, by decide, i3, by rw [List.length_cons]; omega, Or.inl ⟨rfl, ⟨⟨g1, g5, g6, fun _ => by dsimp only; omega, fun _ => by dsimp only; omega⟩, g2⟩, ?_, ?_⟩⟩
        · rw [sK]
          have : kd (o.1, o.2.1, o.2.2.1, o.2.2.2.1, o.2.2.2.2.1, o.2.2.2.2.2 + 1) = o.2.2.2.2.2 := by
            unfold kd
            dsimp only
            rw [if_neg a1, if_pos (by omega)]
            omega
          omega
        · rw [sP]
          have : pd (o.1, o.2.1, o.2.2.1, o.2.2.2.1, o.2.2.2.2.1, o.2.2.2.2.2 + 1) = 1 := by
            unfold pd
            dsimp only
            rw [if_pos (by omega)]
          omega
    · rw [if_neg b1', if_neg (show ¬ nI k.1 = 44 from nI_nn (b := 44) b1' (by omega) (by omega)), m6]
      refine wp_assoc (wp_bs (rd_pass (kin := nI k.1) rfl k5 41 (by decide) _ _ _ _ _ _ _ _ _ _ _ _ _ _) ?_)
      by_cases b2 : k.1 = 41
      · rw [if_pos b2, if_pos b2]
        have hk5 := k4 (by omega)
        refine wp_assoc (wp_bind (ds_compound n (by omega) hD (by omega) m4 hTl (k := o.2.2.2.2.2) (by omega) (by omega) dep 3 (nI nx) lnm lbh fst (-1) tmu tsy nb pb vb) ?_)
        rintro ⟨⟨s', sym', nd', sn', sf', vn', vf', fn', ff', ps', pn', pf', ks', kn', kf'⟩, m1', s1'⟩ ⟨e1', e2', e3'⟩
        dsimp only at e1' e2' e3' ⊢
        subst e1'
        rw [al_s]
        refine wp_bs rfl ?_
        dsimp only
        refine wp_als ⟨px_in e2' (pre_ap hp _) ?_ ?_ (by rw [r1]; rfl) rfl rfl (fun z => nn z rfl) (fun _ => r5) (by rw [← m6]; exact OT) ?_ hf (Or.inl ⟨rfl, rfl⟩), e3'⟩
        · rw [ap_sy]
          omega
        · rw [fold_1]
        · refine ⟨k3, i2, i3, by rw [List.length_cons]; omega, Or.inr (Or.inr (Or.inl ⟨rfl, _, _, rfl, g1, g2, ?_, ?_⟩))⟩
          · rw [ap_K, if_pos (show (none : Option Int64) = none ∧ o.2.2.2.2.2 ≠ 100 from ⟨rfl, by omega⟩)]
            dsimp only
            omega
          · rw [List.length_append, List.length_singleton]
            omega
      · rw [if_neg b2, if_neg b2]
        refine wp_assoc (wp_bind (ds_compound n (by omega) hD (by omega) m4 hTl (k := o.2.2.2.2.2) (by omega) (by omega) dep (nI 4) (nI nx) lnm lbh fst pla tmu tsy nb pb vb) ?_)
        rintro ⟨⟨s', sym', nd', sn', sf', vn', vf', fn', ff', ps', pn', pf', ks', kn', kf'⟩, m1', s1'⟩ ⟨e1', e2', e3'⟩
        dsimp only at e1' e2' e3' ⊢
        rw [al_s]
        refine wp_bs rfl ?_
        dsimp only
        rw [e2]
        exact wp_als ⟨px_br e2' (pre_ap hp _) (by rw [ap_sy]; omega) (by omega), e3'⟩
  rw [if_neg a4]
  refine wp_if (nI_nn (b := 4) a4 (by omega) (by omega)) ?_
  by_cases a5 : o.2.2.1 = 5
  · rw [if_pos a5]
    have hkd : kd o = o.2.2.2.2.2 - 1 := by
      unfold kd
      rw [if_neg a1, if_pos (by omega)]
    have hpd : pd o = o.2.2.2.2.2 + 1 := by
      unfold pd
      rw [if_neg (by omega), if_pos a5]
    have g7 := g7 (by omega)
    refine wp_it (by rw [a5]; rfl) ?_
    unfold p_Reader_goOnBehindItem p_Signs_kind p_Signs_pass p_Reader_awaitTerm
    rw [Option.bind_some, e1]
    by_cases b1' : k.1 = 44
    · rw [if_pos b1', if_pos (show nI k.1 = 44 by rw [b1']; rfl), Option.bind_some, Option.bind_some]
      have hk5 := k4 (by omega)
      refine wp_bs rfl (wp_als ⟨px_in hD hp (by omega) rfl (by rw [r1]; rfl) rfl rfl (fun z => nn z rfl) (fun _ => r5) ?_ ?_ hf (Or.inl ⟨rfl, rfl⟩), wc_refl _⟩)
      · exact oe_top r6 ⟨m1, m2, rfl, fun _ => m4, m5, by rw [m6, nI_1]⟩
      · refine ⟨k3, by decide, i3, by rw [List.length_cons]; omega, Or.inl ⟨rfl, ⟨⟨g1, g5, g6, fun _ => by dsimp only; omega, fun z => absurd z a4⟩, g2⟩, ?_, ?_⟩⟩
        · rw [sK]
          have : kd (o.1, o.2.1, o.2.2.1, o.2.2.2.1, o.2.2.2.2.1, o.2.2.2.2.2 + 1) = o.2.2.2.2.2 := by
            unfold kd
            dsimp only
            rw [if_neg a1, if_pos (by omega)]
            omega
          omega
        · rw [sP]
          have : pd (o.1, o.2.1, o.2.2.1, o.2.2.2.1, o.2.2.2.2.1, o.2.2.2.2.2 + 1) = o.2.2.2.2.2 + 2 := by
            unfold pd
            dsimp only
            rw [if_neg (by omega), if_pos a5]
          omega
    · rw [if_neg b1', if_neg (show ¬ nI k.1 = 44 from nI_nn (b := 44) b1' (by omega) (by omega)), Option.bind_some]
      have k6 : kd (o.1, o.2.1, 6, o.2.2.2) = o.2.2.2.2.2 := rfl
      have p6 : pd (o.1, o.2.1, 6, o.2.2.2) = o.2.2.2.2.2 := rfl
      by_cases b2 : k.1 = 124
      · rw [if_pos b2, if_pos (show nI k.1 = 124 by rw [b2]; rfl), Option.bind_some, Option.bind_some]
        have hk5 := k4 (by omega)
        refine wp_bs rfl (wp_als ⟨px_in hD hp (by omega) rfl (by rw [r1]; rfl) rfl rfl (fun z => nn z rfl) (fun _ => r5) ?_ ?_ hf (Or.inl ⟨rfl, rfl⟩), wc_refl _⟩)
        · exact oe_top r6 ⟨m1, m2, rfl, fun _ => m4, fun z => z.elim (fun z => nn z rfl) (fun z => nn z rfl), m6⟩
        · refine ⟨k3, by decide, i3, by rw [List.length_cons]; omega, Or.inl ⟨rfl, ⟨⟨g1, nle rfl, nle rfl, fun _ => g7, fun z => nn z rfl⟩, g2⟩, ?_, ?_⟩⟩
          · rw [sK, k6]
            omega
          · rw [sP, p6]
            omega
      · rw [if_neg b2, if_neg (show ¬ nI k.1 = 124 from nI_nn (b := 124) b2 (by omega) (by omega))]
        have nmE : nm T [91, 93] 0 := ⟨0, by rw [hT, List.length_append]; show 0 < 24 + _; omega, by rw [hT]; rfl, rfl⟩
        refine wp_assoc (wp_bind (ds_atom hD (by omega) nmE hTl dep (nI 4) (nI nx) lnm lbh fst (-1) tmu tsy nb pb vb) ?_)
        rintro ⟨⟨s', sym', nd', sn', sf', vn', vf', fn', ff', ks', kn', kf'⟩, m1', s1'⟩ ⟨e1', e2', e3'⟩
        dsimp only at e1' e2' e3' ⊢
        rw [al_s]
        refine wp_bs rfl ?_
        dsimp only
        refine wp_als ⟨px_in e2' (pre_ap hp _) ?_ ?_ (by rw [r1]; rfl) rfl rfl (fun z => nn z rfl) (fun _ => r5) ?_ ?_ hf (Or.inr ⟨rfl, rfl⟩), e3'⟩
        · rw [ap_sy]
          omega
        · rw [fold_1]
        · exact oe_top r6 ⟨m1, m2, rfl, fun _ => m4, fun z => z.elim (fun z => nn z rfl) (fun z => nn z rfl), m6⟩
        · refine ⟨i1, i2, i3, by rw [List.length_cons]; omega, Or.inr (Or.inr (Or.inr (Or.inl ⟨rfl, _, _, rfl, ⟨⟨g1, nle rfl, nle rfl, fun _ => g7, fun z => nn z rfl⟩, g2⟩, ?_, ?_⟩)))⟩
          · rw [ap_K, if_pos (show (none : Option Int64) = none ∧ 0 ≠ 100 from ⟨rfl, by decide⟩), sK, k6]
            dsimp only
            omega
          · rw [List.length_append, List.length_singleton, sP, p6]
            omega
  rw [if_neg a5]
  refine wp_if (nI_nn (b := 5) a5 (by omega) (by omega)) ?_
  have a6 : o.2.2.1 = 6 := by omega
  have hkd : kd o = o.2.2.2.2.2 := by
    unfold kd
    rw [if_neg a1, if_neg (by omega), if_pos a6]
  have hpd : pd o = o.2.2.2.2.2 := by
    unfold pd
    rw [if_neg (by omega), if_neg a5, if_pos a6]
  have g7 := g7 (by omega)
  unfold p_Reader_closeList
  rw [m6]
  refine wp_assoc (wp_bs (rd_pass e1 k5 93 (by decide) _ _ _ _ _ _ _ _ _ _ _ _ _ _) ?_)
  by_cases b1' : k.1 = 93
  · rw [if_pos b1', if_pos b1']
    have hk5 := k4 (by omega)
    have CL := cl_loop n hn m4 hTl dep (nI nx) lnm lbh fst tmu vs lk tsy nb pb vb (-1) 1 vnf o.2.2.2.2.2 (by omega) o.2.2.2.2.2 0 n (E.foldl apc c0) nd sym 3 sn sf vn vf fn ff ps pn pf ks kn kf (by omega) (by omega) (by omega) (by omega) hD
    rw [nI_0] at CL
    refine wp_bind CL ?_
    rintro ⟨⟨s', sym', b', p', nd', sn', sf', vn', vf', fn', ff', ps', pn', pf', ks', kn', kf'⟩, m1', s1'⟩ ⟨d1, d2, d3, d4, d5⟩
    dsimp only at d1 d2 d3 d4 d5 ⊢
    have d1 : s' = 3 := d1.elim id (fun z => z.2)
    subst d1 d2 d3
    refine wp_als ⟨px_in d4 (pre_cls _ _ _ hp) ?_ ?_ (by rw [r1]; rfl) rfl rfl (fun z => nn z rfl) (fun _ => r5) (by rw [← m6]; exact OT) ?_ hf (Or.inl ⟨rfl, rfl⟩), d5⟩
    · unfold cls
      rw [fold_sy, List.length_replicate]
      omega
    · rw [List.foldl_append]
      rfl
    · refine ⟨k3, i2, i3, by rw [List.length_cons]; omega, Or.inr (Or.inr (Or.inl ⟨rfl, _, _, rfl, g1, g2, ?_, ?_⟩))⟩
      · rw [cls_K _ _ _ (by omega)]
        omega
      · rw [List.length_append, List.length_replicate]
        omega
  · rw [if_neg b1', if_neg b1']
    have CL := cl_loop n hn m4 hTl dep (nI nx) lnm lbh fst tmu vs lk tsy nb pb vb pla 0 vnf o.2.2.2.2.2 (by omega) o.2.2.2.2.2 0 n (E.foldl apc c0) nd sym (nI 4) sn sf vn vf fn ff ps pn pf ks kn kf (by omega) (by omega) (by omega) (by omega) hD
    rw [nI_0] at CL
    refine wp_bind CL ?_
    rintro ⟨⟨s', sym', b', p', nd', sn', sf', vn', vf', fn', ff', ps', pn', pf', ks', kn', kf'⟩, m1', s1'⟩ ⟨d1, d2, d3, d4, d5⟩
    dsimp only at d1 d2 d3 d4 d5 ⊢
    rw [d2, e2]
    refine wp_als ⟨px_br d4 (pre_cls _ _ _ hp) ?_ (by omega), d5⟩
    unfold cls
    rw [fold_sy, List.length_replicate]
    omega
/-! ===== the class's reader, to the end of the tape ===== -/
def tb (T : List (List Int32)) (Z j : Nat) : Prop := T.flatten.length + T.length ≤ Z + 2 * j
/-- at the loop's head -/
def CR (l : List Int32) (Z : Nat) (T0 : List (List Int32)) (c0 : Cs) (s : Ps) (os dep sta nxm lnm lbh sym fst brk kin pla beh pas nam : Int32) (num : Int64) (ts es nd vs lk ps ks : Int32) (tn : Nat) (tf : Nat → Int32) (en : Nat) (ef : Nat → Int32) (on : Nat) (of nf : Nat → Int32) (sn : Nat) (sf : Nat → Int32) (vn : Nat) (vf : Nat → Int64) (fn : Nat) (ff : Nat → Int32) (pn : Nat) (pf vnf o0 o1 o2 o3 o4 o5 : Nat → Int32) (kn : Nat) (kf : Nat → Int32) : Prop :=
  ∃ T p c, NC T p ts tn tf es en ef os on of nf ∧ p.length ≤ 40000 ∧ (∃ U, T = T0 ++ U) ∧ DS T c nd vs lk sym sn sf vn vf fn ff ps pn pf vnf ks kn kf ∧ pre c0 c ∧ c.2.2.2.2 ≤ 19000 ∧ tb T Z l.length ∧
    ((∃ q, q ≤ l.length ∧ s.2.2.2.2.2.2.2.2 = some q ∧ brk = nI q) ∨
     (s.2.2.2.2.2.2.2.2 = none ∧ brk = -1 ∧ c = s.2.2.2.2.2.2.2.1.foldl apc c0 ∧ RC T s dep sta nxm lnm lbh fst o0 o1 o2 o3 o4 o5 ∧ IV l.length s.1 s.2.1 s.2.2.1 s.2.2.2.1 s.2.2.2.2.2.1 s.2.2.2.2.2.2.2.1 c.2.2.1 ∧ s.2.2.2.2.2.2.1 ≤ l.length ∧
       ((pas = 1 ∧ beh = nI s.2.2.2.1 ∧ tb T Z s.2.2.2.1) ∨ (pas = 0 ∧ TKR T (tkn l s.2.2.2.1) kin pla beh nam num ∧ tb T Z (tkn l s.2.2.2.1).2.2.1))))
/-- a sign is looked at -/
theorem lk_ok {l : List Int32} {s : Int32} {N : Nat} {f : Nat → Int32} (hB : BY l s N f) (hl4 : l.length ≤ 4096) {T : List (List Int32)} {p : List Int32} {ts : Int32} {tn : Nat} {tf : Nat → Int32} {es : Int32} {en : Nat} {ef : Nat → Int32} {os : Int32} {on : Nat} {of nf : Nat → Int32} (h : NC T p ts tn tf es en ef os on of nf) (hp : p.length ≤ 40000) {Z i : Nat} (hi : i ≤ l.length) (hZ : Z + 2 * l.length + 4100 < 32768) {kin pla beh pas nam : Int32} {num : Int64} (hs : (pas = 1 ∧ beh = nI i ∧ tb T Z i) ∨ (pas = 0 ∧ TKR T (tkn l i) kin pla beh nam num ∧ tb T Z (tkn l i).2.2.1)) (sb : Int32) : wp (p_Signs_look pure_n kin pla beh pas nam num s N f ts sb tn tf es en ef os on of 128 nf) (fun ((kin', pla', beh', pas', nam', num', ts', tn', tf', es', en', ef', os', on', of', nf'), mq, sk) => pas' = 0 ∧ ∃ T' p', NC T' p' ts' tn' tf' es' en' ef' os' on' of' nf' ∧ p'.length ≤ 40000 ∧ (∃ U, T' = T ++ U) ∧ TKR T' (tkn l i) kin' pla' beh' nam' num' ∧ tb T' Z (tkn l i).2.2.1 ∧ wc (tn + en + on) (tn' + en' + on') mq sk) := by
  obtain ⟨l1, l2, l3, l4, l5, l6⟩ := tk_len l hi
  have l7 : (tkn l i).2.2.2.1.length + (tkn l i).2.1 ≤ (tkn l i).2.2.1 := by omega
  clear l5
  rcases hs with ⟨rfl, rfl, ht⟩ | ⟨rfl, hk, ht⟩
  · have ht' := ht
    unfold tb at ht'
    refine wp_mono (cl_look kin pla nam sb num hB hl4 h hp (by omega) hi) ?_
    rintro ⟨⟨kin', pla', beh', pas', nam', num', ts', tn', tf', es', en', ef', os', on', of', nf'⟩, mq, sk⟩ ⟨a1, a2, a3, a4, a5, T', p', a6, a7, a8, a9, a10, a11⟩
    dsimp only at a1 a2 a3 a4 a5 a6 a7 a8 a9 a10 a11 ⊢
    refine ⟨a5, T', p', a6, a7, ?_, ⟨a2, a3, a4, a9, a10, a11⟩, ?_, a1⟩
    · rcases a8 with z | ⟨_, z⟩
      · exact ⟨[], by rw [List.append_nil]; exact z⟩
      · exact ⟨_, z⟩
    · unfold tb
      rcases a8 with z | ⟨z1, z⟩
      · rw [z]
        omega
      · have := l4 (by omega)
        rw [z, List.flatten_append, List.length_append, List.length_append, List.length_singleton, List.flatten_singleton]
        omega
  · unfold p_Signs_look
    exact wp_it rfl (wp_some ⟨rfl, T, p, h, hp, ⟨[], by rw [List.append_nil]⟩, hk, ht, wc_refl _⟩)
theorem rc_app {T U : List (List Int32)} {s : Ps} {dep sta nxm lnm lbh fst : Int32} {o0 o1 o2 o3 o4 o5 : Nat → Int32} (h : RC T s dep sta nxm lnm lbh fst o0 o1 o2 o3 o4 o5) : RC (T ++ U) s dep sta nxm lnm lbh fst o0 o1 o2 o3 o4 o5 := by
  obtain ⟨h1, h2, h3, h4, h5, h6⟩ := h
  exact ⟨h1, h2, h3, fun q => ⟨nm_app (h4 q).1, (h4 q).2⟩, h5, oe_app h6⟩
/-- behind a step: at the head again -/
theorem cr_px {l : List Int32} {Z : Nat} {T0 : List (List Int32)} {c0 : Cs} {T : List (List Int32)} {p : List Int32} {s : Ps} {i : Nat} {ts : Int32} {tn : Nat} {tf : Nat → Int32} {es : Int32} {en : Nat} {ef : Nat → Int32} {os : Int32} {on : Nat} {of nf : Nat → Int32} {nd vs lk sym : Int32} {sn : Nat} {sf : Nat → Int32} {vn : Nat} {vf : Nat → Int64} {fn : Nat} {ff : Nat → Int32} {ps : Int32} {pn : Nat} {pf vnf : Nat → Int32} {ks : Int32} {kn : Nat} {kf : Nat → Int32} {o0 o1 o2 o3 o4 o5 : Nat → Int32} {dep sta nxm lnm lbh fst brk kin pla beh pas nam : Int32} {num : Int64} (h : NC T p ts tn tf es en ef os on of nf) (hp : p.length ≤ 40000) (hT : ∃ U, T = T0 ++ U) (hi : i ≤ l.length) (hk : TKR T (tkn l i) kin pla beh nam num) (ht : tb T Z (tkn l i).2.2.1) (hx : PX l.length c0 T (tkn l i) i s dep sta nxm lnm lbh fst brk pas o0 o1 o2 o3 o4 o5 nd vs lk sym sn sf vn vf fn ff ps pn pf vnf ks kn kf) : CR l Z T0 c0 s os dep sta nxm lnm lbh sym fst brk kin pla beh pas nam num ts es nd vs lk ps ks tn tf en ef on of nf sn sf vn vf fn ff pn pf vnf o0 o1 o2 o3 o4 o5 kn kf := by
  obtain ⟨l1, l2, l3, l4, l5, l6⟩ := tk_len l hi
  obtain ⟨c, x1, x2, x3, x4⟩ := hx
  refine ⟨T, p, c, h, hp, hT, x1, x2, x3, ?_, ?_⟩
  · unfold tb at ht ⊢
    omega
  rcases x4 with x | ⟨y1, y2, y3, y4, y5, y6, y7⟩
  · exact Or.inl x
  · refine Or.inr ⟨y1, y2, y3, y4, y5, y6, ?_⟩
    rcases y7 with ⟨z1, z2⟩ | ⟨z1, z2⟩
    · refine Or.inl ⟨z1, ?_, ?_⟩
      · rw [z2]
        exact hk.2.2.1
      · rw [z2]
        exact ht
    · rw [z2]
      exact Or.inr ⟨z1, hk, ht⟩
/-- at the end -/
def FR (l : List Int32) (Z : Nat) (T0 : List (List Int32)) (c0 : Cs) (s : Ps) (W : Nat) (sbf nb pb vb : Int32) : (Int32 × Int32 × Int32 × Int32 × Int32 × Int32 × Int32 × Int32 × Int32 × Int32 × Int32 × Int32 × Int32 × Int64 × Int32 × Int32 × Nat × (Nat → Int32) × Int32 × Nat × (Nat → Int32) × Int32 × Nat × (Nat → Int32) × (Nat → Int32) × Int32 × Int32 × Int32 × Int32 × Int32 × Int32 × Nat × (Nat → Int32) × Nat × (Nat → Int64) × Nat × (Nat → Int32) × Int32 × Nat × (Nat → Int32) × (Nat → Int32) × (Nat → Int32) × (Nat → Int32) × (Nat → Int32) × (Nat → Int32) × (Nat → Int32) × (Nat → Int32) × Int32 × Nat × (Nat → Int32)) × Nat × Nat → Prop :=
  fun ((dep', sta', nxm', lnm', lbh', sym', fst', brk', kin', pla', beh', pas', nam', num', ts', sbf', tn', tf', es', en', ef', os', on', of', nf', nd', vs', lk', nb', pb', vb', sn', sf', vn', vf', fn', ff', ps', pn', pf', vnf', o0', o1', o2', o3', o4', o5', ks', kn', kf'), mq, sk) => sbf' = sbf ∧ nb' = nb ∧ pb' = pb ∧ vb' = vb ∧ CR l Z T0 c0 s os' dep' sta' nxm' lnm' lbh' sym' fst' brk' kin' pla' beh' pas' nam' num' ts' es' nd' vs' lk' ps' ks' tn' tf' en' ef' on' of' nf' sn' sf' vn' vf' fn' ff' pn' pf' vnf' o0' o1' o2' o3' o4' o5' kn' kf' ∧ wc W (tn' + en' + on' + 3 * sn' + pn' + kn') mq sk
theorem fr_mono {l : List Int32} {Z : Nat} {T0 : List (List Int32)} {c0 : Cs} {s : Ps} {W W1 m k : Nat} {sbf nb pb vb : Int32} (h : wc W W1 m k) {x : Option ((Int32 × Int32 × Int32 × Int32 × Int32 × Int32 × Int32 × Int32 × Int32 × Int32 × Int32 × Int32 × Int32 × Int64 × Int32 × Int32 × Nat × (Nat → Int32) × Int32 × Nat × (Nat → Int32) × Int32 × Nat × (Nat → Int32) × (Nat → Int32) × Int32 × Int32 × Int32 × Int32 × Int32 × Int32 × Nat × (Nat → Int32) × Nat × (Nat → Int64) × Nat × (Nat → Int32) × Int32 × Nat × (Nat → Int32) × (Nat → Int32) × (Nat → Int32) × (Nat → Int32) × (Nat → Int32) × (Nat → Int32) × (Nat → Int32) × (Nat → Int32) × Int32 × Nat × (Nat → Int32)) × Nat × Nat)} (hx : wp x (FR l Z T0 c0 s W1 sbf nb pb vb)) : wp (al m k x) (FR l Z T0 c0 s W sbf nb pb vb) := by
  refine wp_al (wp_mono hx ?_)
  rintro ⟨⟨dep', sta', nxm', lnm', lbh', sym', fst', brk', kin', pla', beh', pas', nam', num', ts', sbf', tn', tf', es', en', ef', os', on', of', nf', nd', vs', lk', nb', pb', vb', sn', sf', vn', vf', fn', ff', ps', pn', pf', vnf', o0', o1', o2', o3', o4', o5', ks', kn', kf'⟩, mq, sk⟩ ⟨a1, a2, a3, a4, a5, a6⟩
  exact ⟨a1, a2, a3, a4, a5, wc_trans h a6⟩
theorem ct_loop {l : List Int32} {s : Int32} {N : Nat} {f : Nat → Int32} (hB : BY l s N f) (hl4 : l.length ≤ 4096) {Z : Nat} (hZ : Z + 2 * l.length + 4100 < 32768) {T0 U0 : List (List Int32)} (hT0 : T0 = KT ++ U0) {c0 : Cs} (h00 : c0.2.2.2.2 = 0) (tmu tsy sbf nb pb vb : Int32) : ∀ (m : Nat) (st : Ps) (fu x : Nat) (os dep sta nxm lnm lbh sym fst brk kin pla beh pas nam : Int32) (num : Int64) (ts es nd vs lk ps ks : Int32) (tn : Nat) (tf : Nat → Int32) (en : Nat) (ef : Nat → Int32) (on : Nat) (of nf : Nat → Int32) (sn : Nat) (sf : Nat → Int32) (vn : Nat) (vf : Nat → Int64) (fn : Nat) (ff : Nat → Int32) (pn : Nat) (pf vnf o0 o1 o2 o3 o4 o5 : Nat → Int32) (kn : Nat) (kf : Nat → Int32), CR l Z T0 c0 st os dep sta nxm lnm lbh sym fst brk kin pla beh pas nam num ts es nd vs lk ps ks tn tf en ef on of nf sn sf vn vf fn ff pn pf vnf o0 o1 o2 o3 o4 o5 kn kf → ((rn l m st).2.2.2.2.2.2.2.2 ≠ none ∨ 7 ≤ (rn l m st).1) → m < fu → x + m < 1000000 → wp (p_Reader_takeTape_6 pure_n tmu s N f 128 tsy 200 100 sbf nb pb vb fu (nI x) os dep sta nxm lnm lbh sym fst brk kin pla beh pas nam num ts es nd vs lk ps ks tn tf en ef on of nf sn sf vn vf fn ff pn pf vnf o0 o1 o2 o3 o4 o5 kn kf) (FR l Z T0 c0 (rn l m st) (tn + en + on + 3 * sn + pn + kn) sbf nb pb vb) := by
  have hpn := pure_ge
  -- at its end
  have EX : ∀ (st : Ps) (fu x : Nat) (os dep sta nxm lnm lbh sym fst brk kin pla beh pas nam : Int32) (num : Int64) (ts es nd vs lk ps ks : Int32) (tn : Nat) (tf : Nat → Int32) (en : Nat) (ef : Nat → Int32) (on : Nat) (of nf : Nat → Int32) (sn : Nat) (sf : Nat → Int32) (vn : Nat) (vf : Nat → Int64) (fn : Nat) (ff : Nat → Int32) (pn : Nat) (pf vnf o0 o1 o2 o3 o4 o5 : Nat → Int32) (kn : Nat) (kf : Nat → Int32), CR l Z T0 c0 st os dep sta nxm lnm lbh sym fst brk kin pla beh pas nam num ts es nd vs lk ps ks tn tf en ef on of nf sn sf vn vf fn ff pn pf vnf o0 o1 o2 o3 o4 o5 kn kf → (st.2.2.2.2.2.2.2.2 ≠ none ∨ 7 ≤ st.1) → x < 1000000 → wp (p_Reader_takeTape_6 pure_n tmu s N f 128 tsy 200 100 sbf nb pb vb (fu + 1) (nI x) os dep sta nxm lnm lbh sym fst brk kin pla beh pas nam num ts es nd vs lk ps ks tn tf en ef on of nf sn sf vn vf fn ff pn pf vnf o0 o1 o2 o3 o4 o5 kn kf) (FR l Z T0 c0 st (tn + en + on + 3 * sn + pn + kn) sbf nb pb vb) := by
    intro st fu x os dep sta nxm lnm lbh sym fst brk kin pla beh pas nam num ts es nd vs lk ps ks tn tf en ef on of nf sn sf vn vf fn ff pn pf vnf o0 o1 o2 o3 o4 o5 kn kf hC hf hx
    rw [p_Reader_takeTape_6]
    refine wp_if (show ¬ (1000000 : Int32) ≤ nI x from nI_ge (a := x) (b := 1000000) hx (by omega)) ?_
    by_cases q : sta = 7
    · exact wp_it q (wp_some ⟨rfl, rfl, rfl, rfl, hC, wc_refl _⟩)
    · refine wp_if q (wp_if ?_ (wp_some ⟨rfl, rfl, rfl, rfl, hC, wc_refl _⟩))
      obtain ⟨T, p, c, _, _, _, _, _, _, _, z⟩ := hC
      rcases z with ⟨w, w1, w2, w3⟩ | ⟨y1, y2, y3, y4, y5, y6, y7⟩
      · intro e
        have : nI w < 0 := by rw [← w3, e]; decide
        exact nI_pos (by omega) this
      · rcases hf with z | z
        · exact absurd y1 z
        · obtain ⟨_, r2, _⟩ := y4
          obtain ⟨_, _, _, _, i5⟩ := y5
          have : st.1 = 7 := by omega
          rw [this] at r2
          exact absurd r2 q
  intro m
  induction m with
  | zero =>
    intro st fu x os dep sta nxm lnm lbh sym fst brk kin pla beh pas nam num ts es nd vs lk ps ks tn tf en ef on of nf sn sf vn vf fn ff pn pf vnf o0 o1 o2 o3 o4 o5 kn kf hC hf hfu hx
    obtain ⟨fu, rfl⟩ : ∃ z, fu = z + 1 := ⟨fu - 1, by omega⟩
    exact EX st fu x os dep sta nxm lnm lbh sym fst brk kin pla beh pas nam num ts es nd vs lk ps ks tn tf en ef on of nf sn sf vn vf fn ff pn pf vnf o0 o1 o2 o3 o4 o5 kn kf hC hf (by omega)
  | succ m ih =>
    intro st fu x os dep sta nxm lnm lbh sym fst brk kin pla beh pas nam num ts es nd vs lk ps ks tn tf en ef on of nf sn sf vn vf fn ff pn pf vnf o0 o1 o2 o3 o4 o5 kn kf hC hf hfu hx
    obtain ⟨fu, rfl⟩ : ∃ z, fu = z + 1 := ⟨fu - 1, by omega⟩
    by_cases fin : st.2.2.2.2.2.2.2.2 ≠ none ∨ 7 ≤ st.1
    · have fix : ∀ j, rn l j st = st := by
        intro j
        induction j with
        | zero => rfl
        | succ j ih =>
          have : stp l st = st := by
            obtain ⟨md, nx, O, i, ln, lb, fi, E, br⟩ := st
            unfold stp
            exact if_pos fin
          rw [rn, this, ih]
      rw [fix]
      exact EX st fu x os dep sta nxm lnm lbh sym fst brk kin pla beh pas nam num ts es nd vs lk ps ks tn tf en ef on of nf sn sf vn vf fn ff pn pf vnf o0 o1 o2 o3 o4 o5 kn kf hC fin (by omega)
    · rw [rn] at hf ⊢
      obtain ⟨md, nx, O, i, ln, lb, fi, E, br⟩ := st
      obtain ⟨T, p, c, h1, h2, h3, h4, h5, h6, h7, h8⟩ := hC
      have y : br = none ∧ brk = -1 ∧ c = E.foldl apc c0 ∧ RC T (md, nx, O, i, ln, lb, fi, E, br) dep sta nxm lnm lbh fst o0 o1 o2 o3 o4 o5 ∧ IV l.length md nx O i lb E c.2.2.1 ∧ fi ≤ l.length ∧ ((pas = 1 ∧ beh = nI i ∧ tb T Z i) ∨ (pas = 0 ∧ TKR T (tkn l i) kin pla beh nam num ∧ tb T Z (tkn l i).2.2.1)) := by
        rcases h8 with ⟨q, _, w2, _⟩ | z
        · exact absurd (Or.inl (by rw [w2]; simp)) fin
        · exact z
      obtain ⟨rfl, rfl, rfl, y4, y5, y6, y7⟩ := y
      have hmd : md < 7 := by
        rcases Nat.lt_or_ge md 7 with z | z
        · exact z
        · exact absurd (Or.inr z) fin
      have hsta : sta = nI md := y4.2.1
      have hi : i ≤ l.length := y5.1
      rw [p_Reader_takeTape_6]
      refine wp_if (show ¬ (1000000 : Int32) ≤ nI x from nI_ge (a := x) (b := 1000000) (by omega) (by omega)) (wp_if (by rw [hsta]; exact nI_nn (b := 7) (by omega) (by omega) (by omega)) (wp_it rfl (wp_bind (lk_ok hB hl4 h1 h2 hi hZ y7 sbf) ?_)))
      rintro ⟨⟨kin', pla', beh', pas', nam', num', ts', tn', tf', es', en', ef', os', on', of', nf'⟩, mq, sk⟩ ⟨a1, T', p', a2, a3, ⟨U, a4⟩, a5, a6, a7⟩
      dsimp only at a1 a2 a3 a4 a5 a6 a7 ⊢
      subst a1 a4
      obtain ⟨V, e0⟩ := h3
      have hTT : T ++ U = KT ++ (U0 ++ (V ++ U)) := by rw [e0, hT0]; simp only [List.append_assoc]
      have h3' : ∃ U', T ++ U = T0 ++ U' := ⟨V ++ U, by rw [e0, List.append_assoc]⟩
      have hNd : (T ++ U).Nodup := a2.2.2.2.2.2
      have hTl : (T ++ U).length < 65536 := by have := a2.2.2.2.2.1.1; omega
      have hD := ds_app (U := U) h4
      have hR := rc_app (U := U) y4
      obtain ⟨l1, l2, l3, l4, l5, l6⟩ := tk_len l hi
      have hh : (n : Nat) → n = pure_n → 20000 < n := fun n e => by rw [e]; decide
      by_cases d1 : md = 1
      · subst d1
        refine fr_mono (W1 := tn' + en' + on' + 3 * sn + pn + kn) ⟨by have := a7.1; omega, by have := a7.2; omega⟩ ?_
        refine wp_it (by rw [hsta]; rfl) (wp_bind (cs1 pure_n (by decide) hl4 h00 hTT hNd hTl a5 l1 l2 l3 l4 l6 hD h5 hR y5 y6 tmu tsy nb pb vb) ?_)
        rintro ⟨⟨dep2, sta2, nxm2, lnm2, lbh2, sym2, fst2, brk2, pas2, nd2, vs2, lk2, sn2, sf2, vn2, vf2, fn2, ff2, vnf2, o02, o12, o22, o32, o42, o52, ks2, kn2, kf2⟩, m2, s2⟩ ⟨x1, x2⟩
        dsimp only at x1 x2 ⊢
        refine fr_mono (W1 := tn' + en' + on' + 3 * sn2 + pn + kn2) ⟨by have := x2.1; omega, by have := x2.2; omega⟩ ?_
        rw [nI_1]
        rw [← stp1] at x1
        exact ih _ fu (x + 1) _ _ _ _ _ _ _ _ _ _ _ _ _ _ _ _ _ _ _ _ _ _ _ _ _ _ _ _ _ _ _ _ _ _ _ _ _ _ _ _ _ _ _ _ _ _ (cr_px a2 a3 h3' hi a5 a6 x1) hf (by omega) (by omega)
      refine fr_mono (W1 := tn' + en' + on' + 3 * sn + pn + kn) ⟨by have := a7.1; omega, by have := a7.2; omega⟩ ?_
      refine wp_if (by rw [hsta]; exact nI_nn (b := 1) d1 (by omega) (by omega)) ?_
      have hO : md ≤ 4 → ∃ o O', O = o :: O' := fun z => by
        obtain ⟨_, _, _, _, i5⟩ := y5
        rcases i5 with w | ⟨_, o, O', w, _⟩ | ⟨_, o, O', w, _⟩ | ⟨_, o, O', w, _⟩ | w
        · exact absurd w.1 d1
        · exact ⟨o, O', w⟩
        · exact ⟨o, O', w⟩
        · exact ⟨o, O', w⟩
        · have := w.1
          omega
      by_cases d2 : md = 2
      · subst d2
        obtain ⟨o, O, rfl⟩ := hO (by decide)
        have hdep : dep = nI (O.length + 1) := y4.1
        have hlen := y5.2.2.2.1
        rw [List.length_cons] at hlen
        have ej : (dep - 1).toNatClampNeg = O.length := by rw [hdep, nI_pred, nI_clamp (by omega)]
        refine wp_it (by rw [hsta]; rfl) (wp_ck (by rw [hdep, nI_pred]; exact ixb_t (by omega) (by omega)) ?_)
        rw [ej]
        refine wp_bind (cs2 pure_n (by decide) hl4 h00 hTT hNd hTl a5 l1 l2 l3 l4 l6 hD h5 hR y5 y6 tmu ts' sbf tsy nb pb vb) ?_
        rintro ⟨⟨sta2, nxm2, sym2, pas2, nd2, sn2, sf2, vn2, vf2, fn2, ff2, ks2, kn2, kf2, aw2, nn2, nl2, pa2⟩, m2, s2⟩ ⟨x1, x2⟩
        dsimp only at x1 x2 ⊢
        refine fr_mono (W1 := tn' + en' + on' + 3 * sn2 + pn + kn2) ⟨by have := x2.1; omega, by have := x2.2; omega⟩ ?_
        rw [nI_1]
        rw [← stp2] at x1
        exact ih _ fu (x + 1) _ _ _ _ _ _ _ _ _ _ _ _ _ _ _ _ _ _ _ _ _ _ _ _ _ _ _ _ _ _ _ _ _ _ _ _ _ _ _ _ _ _ _ _ _ _ (cr_px a2 a3 h3' hi a5 a6 x1) hf (by omega) (by omega)
      refine wp_if (by rw [hsta]; exact nI_nn (b := 2) d2 (by omega) (by omega)) ?_
      by_cases d3 : md = 3
      · subst d3
        obtain ⟨o, O, rfl⟩ := hO (by decide)
        have hdep : dep = nI (O.length + 1) := y4.1
        have hlen := y5.2.2.2.1
        rw [List.length_cons] at hlen
        have ej : (dep - 1).toNatClampNeg = O.length := by rw [hdep, nI_pred, nI_clamp (by omega)]
        refine wp_it (by rw [hsta]; rfl) (wp_ck (by rw [hdep, nI_pred]; exact ixb_t (by omega) (by omega)) ?_)
        rw [ej]
        refine wp_bind (cs3 pure_n (by decide) hl4 h00 hTT hNd hTl a5 l1 l2 l3 l4 l6 hD h5 hR y5 y6 tmu ts' sbf) ?_
        rintro ⟨dep2, sta2, nxm2, pas2, aw2, nn2, nl2⟩ x1
        dsimp only at x1 ⊢
        rw [nI_1]
        rw [← stp3] at x1
        exact ih _ fu (x + 1) _ _ _ _ _ _ _ _ _ _ _ _ _ _ _ _ _ _ _ _ _ _ _ _ _ _ _ _ _ _ _ _ _ _ _ _ _ _ _ _ _ _ _ _ _ _ (cr_px a2 a3 h3' hi a5 a6 x1) hf (by omega) (by omega)
      refine wp_if (by rw [hsta]; exact nI_nn (b := 3) d3 (by omega) (by omega)) ?_
      by_cases d4 : md = 4
      · subst d4
        obtain ⟨o, O, rfl⟩ := hO (by decide)
        have hdep : dep = nI (O.length + 1) := y4.1
        have hlen := y5.2.2.2.1
        rw [List.length_cons] at hlen
        have ej : (dep - 1).toNatClampNeg = O.length := by rw [hdep, nI_pred, nI_clamp (by omega)]
        refine wp_it (by rw [hsta]; rfl) (wp_ck (by rw [hdep, nI_pred]; exact ixb_t (by omega) (by omega)) ?_)
        rw [ej]
        refine wp_bind (cs4 pure_n (by decide) hl4 h00 hTT hNd hTl a5 l1 l2 l3 l4 l6 hD h5 hR y5 y6 tmu tsy nb pb vb) ?_
        rintro ⟨⟨sta2, nxm2, sym2, brk2, pas2, nd2, sn2, sf2, vn2, vf2, fn2, ff2, ps2, pn2, pf2, ks2, kn2, kf2, le2, aw2, pa2⟩, m2, s2⟩ ⟨x1, x2⟩
        dsimp only at x1 x2 ⊢
        refine fr_mono (W1 := tn' + en' + on' + 3 * sn2 + pn2 + kn2) ⟨by have := x2.1; omega, by have := x2.2; omega⟩ ?_
        rw [nI_1]
        rw [← stp4] at x1
        exact ih _ fu (x + 1) _ _ _ _ _ _ _ _ _ _ _ _ _ _ _ _ _ _ _ _ _ _ _ _ _ _ _ _ _ _ _ _ _ _ _ _ _ _ _ _ _ _ _ _ _ _ (cr_px a2 a3 h3' hi a5 a6 x1) hf (by omega) (by omega)
      refine wp_if (by rw [hsta]; exact nI_nn (b := 4) d4 (by omega) (by omega)) ?_
      have y8 : 5 ≤ md ∧ md ≤ 7 ∧ O = [] ∧ (E.foldl apc c0).2.2.1.length = 1 ∧ E.length ≤ 2 * i := by
        obtain ⟨_, _, _, _, i5⟩ := y5
        rcases i5 with w | w | w | w | w
        · exact absurd w.1 d1
        · exact absurd w.1 d2
        · exact absurd w.1 d3
        · exact absurd w.1 d4
        · exact w
      obtain ⟨z1, z2, rfl, z4, z5⟩ := y8
      obtain ⟨r1, r2, r3, r4, r5, r6⟩ := hR
      dsimp only at r1 r2 r3 r4 r5 r6
      have r5' := r5 (Or.inl d1)
      by_cases d5 : md = 5
      · subst d5
        refine wp_it (by rw [hsta]; rfl) (wp_bs (rd_pass a5.1 l6 4 (by decide) _ _ _ _ _ _ _ _ _ _ _ _ _ _) ?_)
        rw [stp5, nI_1] at *
        by_cases t4 : (tkn l i).1 = 4
        · rw [if_pos t4] at hf ⊢
          rw [if_pos t4]
          have l4' := l4 (by omega)
          refine ih _ fu (x + 1) _ _ _ _ _ _ _ _ _ _ _ _ _ _ _ _ _ _ _ _ _ _ _ _ _ _ _ _ _ _ _ _ _ _ _ _ _ _ _ _ _ _ _ _ _ _ (cr_px a2 a3 h3' hi a5 a6 (px_in hD h5 h6 rfl r1 rfl r3 (fun z => nn z rfl) (fun _ => r5') r6 ?_ y6 (Or.inl ⟨rfl, rfl⟩))) hf (by omega) (by omega)
          exact ⟨l3, y5.2.1, y5.2.2.1, by decide, Or.inr (Or.inr (Or.inr (Or.inr ⟨by decide, by decide, rfl, z4, by omega⟩)))⟩
        · rw [if_neg t4] at hf ⊢
          rw [if_neg t4]
          have hx : PX l.length c0 (T ++ U) (tkn l i) i (5, nx, [], i, ln, lb, fi, E, some (tkn l i).2.1) dep sta nxm lnm lbh fst pla' 0 o0 o1 o2 o3 o4 o5 nd vs lk sym sn sf vn vf fn ff ps pn pf vnf ks kn kf := by
            rw [a5.2.1]
            exact px_br hD h5 h6 (by omega)
          exact ih _ fu (x + 1) _ _ _ _ _ _ _ _ _ _ _ _ _ _ _ _ _ _ _ _ _ _ _ _ _ _ _ _ _ _ _ _ _ _ _ _ _ _ _ _ _ _ _ _ _ _ (cr_px a2 a3 h3' hi a5 a6 hx) hf (by omega) (by omega)
      · have d6 : md = 6 := by omega
        subst d6
        refine wp_if (by rw [hsta]; exact nI_nn (b := 5) d5 (by omega) (by omega)) (wp_bs (rd_pass a5.1 l6 5 (by decide) _ _ _ _ _ _ _ _ _ _ _ _ _ _) ?_)
        rw [stp6, nI_1] at *
        by_cases t4 : (tkn l i).1 = 5
        · rw [if_pos t4] at hf ⊢
          rw [if_pos t4]
          refine ih _ fu (x + 1) _ _ _ _ _ _ _ _ _ _ _ _ _ _ _ _ _ _ _ _ _ _ _ _ _ _ _ _ _ _ _ _ _ _ _ _ _ _ _ _ _ _ _ _ _ _ (cr_px a2 a3 h3' hi a5 a6 (px_in hD h5 h6 rfl r1 rfl r3 (fun z => nn z rfl) (fun _ => r5') r6 ?_ y6 (Or.inl ⟨rfl, rfl⟩))) hf (by omega) (by omega)
          exact ⟨l3, y5.2.1, y5.2.2.1, by decide, Or.inr (Or.inr (Or.inr (Or.inr ⟨by decide, by decide, rfl, z4, by omega⟩)))⟩
        · rw [if_neg t4] at hf ⊢
          rw [if_neg t4]
          have hx : PX l.length c0 (T ++ U) (tkn l i) i (6, nx, [], i, ln, lb, fi, E, some (tkn l i).2.1) dep sta nxm lnm lbh fst pla' 0 o0 o1 o2 o3 o4 o5 nd vs lk sym sn sf vn vf fn ff ps pn pf vnf ks kn kf := by
            rw [a5.2.1]
            exact px_br hD h5 h6 (by omega)
          exact ih _ fu (x + 1) _ _ _ _ _ _ _ _ _ _ _ _ _ _ _ _ _ _ _ _ _ _ _ _ _ _ _ _ _ _ _ _ _ _ _ _ _ _ _ _ _ _ _ _ _ _ (cr_px a2 a3 h3' hi a5 a6 hx) hf (by omega) (by omega)
/-! ===== the machine ends ===== -/
def wt (md : Nat) : List Op → Nat
  | [] => if md = 2 then 1 else if md = 4 then 1 else if md = 5 then 1 else 0
  | o :: _ => if md = 2 then 1 else if md = 4 then (if o.2.2.1 = 5 then 2 else 1) else if md = 5 then 1 else 0
def ph (L : Nat) (s : Ps) : Nat := 6 * (L - s.2.2.2.1) + 3 * s.2.2.1.length + wt s.1 s.2.2.1
def fin (s : Ps) : Prop := s.2.2.2.2.2.2.2.2 ≠ none ∨ 7 ≤ s.1
def GD (L : Nat) (s s' : Ps) : Prop := fin s' ∨ (ph L s' < ph L s ∧ s'.2.2.2.1 ≤ L ∧ 1 ≤ s'.1)
theorem gd_b {L : Nat} {s : Ps} {md nx : Nat} {O : List Op} {i : Nat} {ln : List Int32} {lb fi : Nat} {E : List Ev} {q : Nat} : GD L s (md, nx, O, i, ln, lb, fi, E, some q) := Or.inl (Or.inl (by simp))
theorem gd_s {L : Nat} {md nx : Nat} {O : List Op} {i : Nat} {ln : List Int32} {lb fi : Nat} {E : List Ev} {b : Option Nat} {md' nx' : Nat} {O' : List Op} {i' : Nat} {ln' : List Int32} {lb' fi' : Nat} {E' : List Ev} {b' : Option Nat} (h1 : 6 * (L - i') + 3 * O'.length + wt md' O' < 6 * (L - i) + 3 * O.length + wt md O) (h2 : i' ≤ L) (h3 : 1 ≤ md') : GD L (md, nx, O, i, ln, lb, fi, E, b) (md', nx', O', i', ln', lb', fi', E', b') := Or.inr ⟨h1, h2, h3⟩
theorem wt_n (md : Nat) : wt md [] = if md = 2 then 1 else if md = 4 then 1 else if md = 5 then 1 else 0 := rfl
theorem wt_c (md : Nat) (o : Op) (O : List Op) : wt md (o :: O) = if md = 2 then 1 else if md = 4 then (if o.2.2.1 = 5 then 2 else 1) else if md = 5 then 1 else 0 := rfl
theorem ite_le {c : Prop} {i : Decidable c} {a b n : Nat} (h1 : a ≤ n) (h2 : b ≤ n) : @ite Nat c i a b ≤ n := by
  by_cases h : c
  · rw [if_pos h]
    exact h1
  · rw [if_neg h]
    exact h2
theorem wt_le (md : Nat) (O : List Op) : wt md O ≤ 2 := by
  cases O with
  | nil =>
    rw [wt_n]
    exact ite_le (by decide) (ite_le (by decide) (ite_le (by decide) (by decide)))
  | cons o O =>
    rw [wt_c]
    exact ite_le (by decide) (ite_le (ite_le (by decide) (by decide)) (ite_le (by decide) (by decide)))
theorem wt_0 (md : Nat) (h : md ≠ 2) (h4 : md ≠ 4) (h5 : md ≠ 5) (O : List Op) : wt md O = 0 := by
  cases O with
  | nil => rw [wt_n, if_neg h, if_neg h4, if_neg h5]
  | cons o O => rw [wt_c, if_neg h, if_neg h4, if_neg h5]
theorem wt_2 (O : List Op) : wt 2 O = 1 := by
  cases O with
  | nil => rfl
  | cons o O => rfl
theorem wt_5 (O : List Op) : wt 5 O = 1 := by
  cases O with
  | nil => rfl
  | cons o O => rfl
theorem wt_4 (o : Op) (O : List Op) : wt 4 (o :: O) = if o.2.2.1 = 5 then 2 else 1 := rfl
theorem ph_dec (l : List Int32) {md nx : Nat} {O : List Op} {i : Nat} {ln : List Int32} {lb fi : Nat} {E : List Ev} (hi : i ≤ l.length) (h1 : 1 ≤ md) (h7 : md < 7) : GD l.length (md, nx, O, i, ln, lb, fi, E, none) (stp l (md, nx, O, i, ln, lb, fi, E, none)) := by
  obtain ⟨l1, l2, l3, l4, l5, l6⟩ := tk_len l hi
  have w1 := wt_0 1 (by decide) (by decide) (by decide)
  have w3 := wt_0 3 (by decide) (by decide) (by decide)
  by_cases d1 : md = 1
  · subst d1
    rw [stp1]
    unfold st1
    by_cases q : O.length = 100 ∨ ptm O = true
    · rw [if_pos q]
      exact gd_b
    rw [if_neg q]
    by_cases c3 : (tkn l i).1 = 3
    · rw [if_pos c3]
      have := l4 (by omega)
      refine gd_s ?_ l3 (by decide)
      rw [wt_2, w1, List.length_cons]
      omega
    rw [if_neg c3]
    by_cases c1 : (tkn l i).1 = 1
    · rw [if_pos c1]
      have := l4 (by omega)
      refine gd_s ?_ l3 (by decide)
      rw [w3, w1, List.length_cons]
      omega
    rw [if_neg c1]
    by_cases c2 : (tkn l i).1 = 2
    · rw [if_pos c2]
      have := l4 (by omega)
      refine gd_s ?_ l3 (by decide)
      rw [w3, w1, List.length_cons]
      omega
    rw [if_neg c2]
    by_cases c4 : (tkn l i).1 = 40
    · rw [if_pos c4]
      have := l4 (by omega)
      refine gd_s ?_ l3 (by decide)
      rw [w1, w1, List.length_cons]
      omega
    rw [if_neg c4]
    by_cases c5 : (tkn l i).1 = 91
    · rw [if_pos c5]
      have := l4 (by omega)
      refine gd_s ?_ l3 (by decide)
      rw [w1, w1, List.length_cons]
      omega
    rw [if_neg c5]
    exact gd_b
  by_cases d5 : md = 5
  · subst d5
    rw [stp5]
    by_cases c : (tkn l i).1 = 4
    · rw [if_pos c]
      have := l4 (by omega)
      refine gd_s ?_ l3 (by decide)
      rw [wt_0 6 (by decide) (by decide) (by decide), wt_5]
      omega
    · rw [if_neg c]
      exact gd_b
  by_cases d6 : md = 6
  · subst d6
    rw [stp6]
    by_cases c : (tkn l i).1 = 5
    · rw [if_pos c]
      exact Or.inl (Or.inr (Nat.le_refl _))
    · rw [if_neg c]
      exact gd_b
  cases O with
  | nil =>
    have : stp l (md, nx, [], i, ln, lb, fi, E, none) = (md, nx, [], i, ln, lb, fi, E, some i) := by
      unfold stp
      dsimp only
      rw [if_neg (by simp; omega), if_neg d1, if_neg d5, if_neg d6]
    rw [this]
    exact gd_b
  | cons o O =>
    by_cases d2 : md = 2
    · subst d2
      rw [stp2]
      unfold st2
      by_cases q1 : (tkn l i).2.1 = lb ∧ (tkn l i).1 = 40
      · rw [if_pos q1]
        have := l4 (by omega)
        refine gd_s ?_ l3 (by decide)
        rw [w1, wt_2, List.length_cons, List.length_cons]
        omega
      rw [if_neg q1]
      by_cases q2 : (tkn l i).2.1 = lb ∧ ln = [45] ∧ (tkn l i).1 = 2
      · rw [if_pos q2]
        have := l4 (by omega)
        refine gd_s ?_ l3 (by decide)
        rw [w3, wt_2]
        omega
      rw [if_neg q2]
      by_cases q3 : 0 < (lvl ln).2.2.2 ∧ (lvl ln).2.2.2 ≤ o.1 ∧ cbg (tkn l i) = true
      · rw [if_pos q3]
        refine gd_s ?_ hi (by decide)
        rw [w1, wt_2, List.length_cons, List.length_cons]
        omega
      · rw [if_neg q3]
        refine gd_s ?_ hi (by decide)
        rw [w3, wt_2]
        omega
    by_cases d3 : md = 3
    · subst d3
      rw [stp3]
      unfold st3
      have PP : GD l.length (3, nx, o :: O, i, ln, lb, fi, E, none) ((if O = [] then 5 else 4), nx, O, i, ln, lb, fi, E, none) := by
        refine gd_s ?_ hi ?_
        · rw [w3, List.length_cons]
          have := wt_le (if O = [] then 5 else 4) O
          omega
        · split <;> decide
      cases hs : sop (tkn l i) with
      | none => exact PP
      | some w =>
        dsimp only
        by_cases q : (lvl w).1 ≤ o.1 ∧ o.2.1 ≤ (lvl w).2.1
        · rw [if_pos q]
          have : (tkn l i).2.1 < (tkn l i).2.2.1 := l4 (fun z => by
            unfold sop at hs
            rw [if_neg (by omega), if_neg (by omega)] at hs
            cases hs)
          refine gd_s ?_ l3 (by decide)
          rw [w1, w3, List.length_cons, List.length_cons]
          omega
        · rw [if_neg q]
          exact PP
    have d4 : md = 4 := by omega
    subst d4
    rw [stp4]
    unfold st4
    have w4 : 1 ≤ wt 4 (o :: O) := by
      rw [wt_4]
      split <;> decide
    have G3 : ∀ (o' : Op) (i' : Nat) (E' : List Ev), i ≤ i' → i' ≤ l.length → GD l.length (4, nx, o :: O, i, ln, lb, fi, E, none) (3, nx, o' :: O, i', ln, lb, fi, E', none) := fun o' i' E' a b => by
      refine gd_s ?_ b (by decide)
      rw [w3, List.length_cons, List.length_cons]
      omega
    have G1 : ∀ (o' : Op) (E' : List Ev), (tkn l i).1 ≠ 5 → GD l.length (4, nx, o :: O, i, ln, lb, fi, E, none) (1, 999, o' :: O, (tkn l i).2.2.1, ln, lb, fi, E', none) := fun o' E' z => by
      have := l4 z
      refine gd_s ?_ l3 (by decide)
      rw [w1, List.length_cons, List.length_cons]
      omega
    by_cases a1 : o.2.2.1 = 1
    · rw [if_pos a1]
      exact G3 _ _ _ (Nat.le_refl _) hi
    rw [if_neg a1]
    by_cases a2 : o.2.2.1 = 2
    · rw [if_pos a2]
      exact G3 _ _ _ (Nat.le_refl _) hi
    rw [if_neg a2]
    by_cases a3 : o.2.2.1 = 3
    · rw [if_pos a3]
      by_cases b : (tkn l i).1 = 41
      · rw [if_pos b]
        exact G3 _ _ _ (by omega) l3
      · rw [if_neg b]
        exact gd_b
    rw [if_neg a3]
    by_cases a4 : o.2.2.1 = 4
    · rw [if_pos a4]
      by_cases b : (tkn l i).1 = 44
      · rw [if_pos b]
        exact G1 _ _ (by omega)
      rw [if_neg b]
      by_cases b : (tkn l i).1 = 41
      · rw [if_pos b]
        exact G3 _ _ _ (by omega) l3
      · rw [if_neg b]
        exact gd_b
    rw [if_neg a4]
    by_cases a5 : o.2.2.1 = 5
    · rw [if_pos a5]
      by_cases b : (tkn l i).1 = 44
      · rw [if_pos b]
        exact G1 _ _ (by omega)
      rw [if_neg b]
      by_cases b : (tkn l i).1 = 124
      · rw [if_pos b]
        exact G1 _ _ (by omega)
      · rw [if_neg b]
        refine gd_s ?_ hi (by decide)
        rw [wt_4, wt_4, if_pos a5, if_neg (show ¬ (6 = 5) by decide), List.length_cons, List.length_cons]
        omega
    rw [if_neg a5]
    by_cases b : (tkn l i).1 = 93
    · rw [if_pos b]
      exact G3 _ _ _ (by omega) l3
    · rw [if_neg b]
      exact gd_b
theorem fin_fix (l : List Int32) {s : Ps} (h : fin s) : ∀ j, rn l j s = s := by
  intro j
  induction j with
  | zero => rfl
  | succ j ih =>
    have : stp l s = s := by
      obtain ⟨md, nx, O, i, ln, lb, fi, E, br⟩ := s
      unfold stp
      exact if_pos h
    rw [rn, this, ih]
theorem fin_bd (l : List Int32) : ∀ (m : Nat) (s : Ps), s.2.2.2.1 ≤ l.length → 1 ≤ s.1 → fin (rn l m s) → ∃ m', m' ≤ ph l.length s + 1 ∧ rn l m' s = rn l m s := by
  intro m
  induction m with
  | zero => intro s _ _ _; exact ⟨0, Nat.zero_le _, rfl⟩
  | succ m ih =>
    intro s hi h1 hf
    by_cases q : fin s
    · exact ⟨0, Nat.zero_le _, by rw [fin_fix l q, fin_fix l q]⟩
    · obtain ⟨md, nx, O, i, ln, lb, fi, E, br⟩ := s
      have hbr : br = none := by
        cases br with
        | none => rfl
        | some z => exact absurd (Or.inl (by simp)) q
      subst hbr
      have h7 : md < 7 := by
        rcases Nat.lt_or_ge md 7 with z | z
        · exact z
        · exact absurd (Or.inr z) q
      rw [rn] at hf ⊢
      rcases ph_dec l (nx := nx) (O := O) (ln := ln) (lb := lb) (fi := fi) (E := E) hi h1 h7 with z | ⟨z1, z2, z3⟩
      · refine ⟨1, by omega, ?_⟩
        rw [fin_fix l z]
        rfl
      · obtain ⟨m', a1, a2⟩ := ih _ z2 z3 hf
        refine ⟨m' + 1, Nat.succ_le_succ (Nat.le_trans a1 z1), ?_⟩
        rw [rn]
        exact a2
/-- the machine's beginning -/
def s0 : Ps := (1, 1200, [], 0, [], 0, 0, [], none)
theorem s0_bd {l : List Int32} (hl : l.length ≤ 4096) {m : Nat} (hf : fin (rn l m s0)) : ∃ m', m' ≤ 30000 ∧ rn l m' s0 = rn l m s0 := by
  obtain ⟨m', h1, h2⟩ := fin_bd l m s0 (Nat.zero_le _) (by decide) hf
  refine ⟨m', ?_, h2⟩
  have : ph l.length s0 = 6 * (l.length - 0) + 3 * 0 + 0 := rfl
  omega
/-! ===== the reference makes nodes ===== -/
/-- a node of the reference, and what it stands for -/
def RX (TR : List (List Int32)) (S : List Nd) (M : List Rf) (P : Nat) (kf nf ff mf pf : Nat → Int32) (bf : Nat → Int64) (x : Nat) (r : Rf) : Prop :=
  (r.1 = true ∧ kf x = 0 ∧ nf x = nI r.2 ∧ mf x = 0) ∨
  (r.1 = false ∧ ∃ d, S[r.2]? = some d ∧ ((∃ z, d.1 = some z ∧ d.2.2 = [] ∧ kf x = 1 ∧ bf x = z ∧ mf x = 0) ∨
    (d.1 = none ∧ kf x = 2 ∧ nm TR d.2.1 (nf x) ∧ mf x = nI d.2.2.length ∧ d.2.2.length ≤ 8 ∧ ∃ o, (d.2.2 ≠ [] → ff x = nI o) ∧ o + d.2.2.length ≤ P ∧ ∀ (k : Nat) (t : Rf), d.2.2[k]? = some t → ∃ y, y < x ∧ pf (o + k) = nI y ∧ M[y]? = some t)))
/-- the reference's nodes -/
def RT (TR : List (List Int32)) (S : List Nd) (M : List Rf) (P : Nat) (sz pt : Int32) (kf nf ff mf pf : Nat → Int32) (bf : Nat → Int64) : Prop :=
  sz = nI M.length ∧ pt = nI P ∧ M.length ≤ 300000 ∧ P ≤ 300000 ∧ (∀ (x : Nat) (r : Rf), M[x]? = some r → RX TR S M P kf nf ff mf pf bf x r) ∧ (∀ (x y i : Nat), M[x]? = some (false, i) → M[y]? = some (false, i) → x = y)
theorem rx_mono {TR U : List (List Int32)} {S S2 : List Nd} {M M2 : List Rf} {P P2 : Nat} {kf nf ff mf pf kf' nf' ff' mf' pf' : Nat → Int32} {bf bf' : Nat → Int64} {x : Nat} {r : Rf} (h : RX TR S M P kf nf ff mf pf bf x r) (hP : P ≤ P2) (a1 : kf' x = kf x) (a2 : nf' x = nf x) (a3 : ff' x = ff x) (a4 : mf' x = mf x) (a5 : bf' x = bf x) (a6 : ∀ j, j < P → pf' j = pf j) : RX (TR ++ U) (S ++ S2) (M ++ M2) P2 kf' nf' ff' mf' pf' bf' x r := by
  rcases h with ⟨h1, h2, h3, h4⟩ | ⟨h1, d, h2, h3⟩
  · exact Or.inl ⟨h1, by rw [a1]; exact h2, by rw [a2]; exact h3, by rw [a4]; exact h4⟩
  · refine Or.inr ⟨h1, d, ?_, ?_⟩
    · obtain ⟨hi, _⟩ := List.getElem?_eq_some_iff.mp h2
      rw [List.getElem?_append_left hi]
      exact h2
    rcases h3 with ⟨z, b1, b2, b3, b4, b5⟩ | ⟨b1, b2, b3, b4, b5, o, b6, b7, b8⟩
    · exact Or.inl ⟨z, b1, b2, by rw [a1]; exact b3, by rw [a5]; exact b4, by rw [a4]; exact b5⟩
    · refine Or.inr ⟨b1, by rw [a1]; exact b2, by rw [a2]; exact nm_app b3, by rw [a4]; exact b4, b5, o, fun z => by rw [a3]; exact b6 z, by omega, fun k t hk => ?_⟩
      obtain ⟨y, c1, c2, c3⟩ := b8 k t hk
      obtain ⟨hk2, _⟩ := List.getElem?_eq_some_iff.mp hk
      obtain ⟨hy, _⟩ := List.getElem?_eq_some_iff.mp c3
      exact ⟨y, c1, by rw [a6 _ (by omega)]; exact c2, by rw [List.getElem?_append_left hy]; exact c3⟩
theorem rt_app {TR : List (List Int32)} (U : List (List Int32)) {S : List Nd} {M : List Rf} {P : Nat} {sz pt : Int32} {kf nf ff mf pf : Nat → Int32} {bf : Nat → Int64} (h : RT TR S M P sz pt kf nf ff mf pf bf) : RT (TR ++ U) S M P sz pt kf nf ff mf pf bf := by
  obtain ⟨h1, h2, h3, h4, h5, h6⟩ := h
  refine ⟨h1, h2, h3, h4, fun x r hx => ?_, h6⟩
  have := rx_mono (U := U) (S2 := []) (M2 := []) (h5 x r hx) (Nat.le_refl _) (kf' := kf) (nf' := nf) (ff' := ff) (mf' := mf) (pf' := pf) (bf' := bf) rfl rfl rfl rfl rfl (fun _ _ => rfl)
  rw [List.append_nil, List.append_nil] at this
  exact this
/-- one more node -/
theorem rt_more {TR : List (List Int32)} {S S2 : List Nd} {M : List Rf} {P P2 : Nat} {sz pt : Int32} {kf nf ff mf pf kf' nf' ff' mf' pf' : Nat → Int32} {bf bf' : Nat → Int64} (h : RT TR S M P sz pt kf nf ff mf pf bf) {r : Rf} (hr : r.1 = false → r.2 = S.length) (hM : M.length < 300000) (hP : P ≤ P2) (hP2 : P2 ≤ 300000) (a1 : ∀ x, x < M.length → kf' x = kf x ∧ nf' x = nf x ∧ ff' x = ff x ∧ mf' x = mf x ∧ bf' x = bf x) (a6 : ∀ j, j < P → pf' j = pf j) (hx : RX TR (S ++ S2) (M ++ [r]) P2 kf' nf' ff' mf' pf' bf' M.length r) : RT TR (S ++ S2) (M ++ [r]) P2 (nI (M.length + 1)) (nI P2) kf' nf' ff' mf' pf' bf' := by
  obtain ⟨h1, h2, h3, h4, h5, h6⟩ := h
  have ln : (M ++ [r]).length = M.length + 1 := by rw [List.length_append, List.length_singleton]
  have old : ∀ (x i : Nat), x < M.length → M[x]? = some (false, i) → i < S.length := fun x i hx' e => by
    rcases h5 x _ e with ⟨z, _⟩ | ⟨_, d, z, _⟩
    · cases z
    · exact (List.getElem?_eq_some_iff.mp z).1
  have sp : ∀ (x : Nat) (t : Rf), (M ++ [r])[x]? = some t → (x < M.length ∧ M[x]? = some t) ∨ (x = M.length ∧ t = r) := fun x t e => by
    obtain ⟨hx', _⟩ := List.getElem?_eq_some_iff.mp e
    rw [ln] at hx'
    by_cases q : x = M.length
    · subst q
      rw [List.getElem?_append_right (Nat.le_refl _), Nat.sub_self] at e
      exact Or.inr ⟨rfl, by injection e with e; exact e.symm⟩
    · rw [List.getElem?_append_left (by omega)] at e
      exact Or.inl ⟨by omega, e⟩
  refine ⟨by rw [ln], rfl, by omega, hP2, fun x t e => ?_, fun x y i e1 e2 => ?_⟩
  · rcases sp x t e with ⟨q1, q2⟩ | ⟨rfl, rfl⟩
    · obtain ⟨b1, b2, b3, b4, b5⟩ := a1 x q1
      have := rx_mono (U := []) (S2 := S2) (M2 := [r]) (h5 x t q2) hP b1 b2 b3 b4 b5 a6
      rw [List.append_nil] at this
      exact this
    · exact hx
  · rcases sp x _ e1 with ⟨q1, q2⟩ | ⟨q1, q2⟩
    · rcases sp y _ e2 with ⟨q3, q4⟩ | ⟨q3, q4⟩
      · exact h6 x y i q2 q4
      · have w1 := old x i q1 q2
        have w2 := hr (by rw [← q4])
        rw [← q4] at w2
        dsimp only at w2
        omega
    · rcases sp y _ e2 with ⟨q3, q4⟩ | ⟨q3, q4⟩
      · have w1 := old y i q3 q4
        have w2 := hr (by rw [← q2])
        rw [← q2] at w2
        dsimp only at w2
        omega
      · omega
theorem mt_int {TR : List (List Int32)} {S : List Nd} {M : List Rf} {P : Nat} {sz pt : Int32} {kf nf ff mf pf : Nat → Int32} {bf : Nat → Int64} (h : RT TR S M P sz pt kf nf ff mf pf bf) (hM : M.length < 300000) (z : Int64) : ∃ kf' mf' bf', p_MoTerms_integer z sz pt 404300 kf 404300 mf 404300 bf = some (nI M.length, nI (M.length + 1), kf', mf', bf') ∧ RT TR (S ++ [(some z, [], [])]) (M ++ [(false, S.length)]) P (nI (M.length + 1)) pt kf' nf ff mf' pf bf' ∧ (∀ x, x < M.length → kf' x = kf x ∧ mf' x = mf x ∧ bf' x = bf x) := by
  have h0 := h
  obtain ⟨rfl, rfl, h3, h4, h5, h6⟩ := h
  refine ⟨upd kf M.length 1, upd mf M.length 0, vp_updL bf M.length z, ?_, ?_, fun x hx => ⟨pk_un (by omega), pk_un (by omega), pk_uLn (by omega)⟩⟩
  · unfold p_MoTerms_integer
    rw [ck_t (ixb_t (by omega) (by omega)), ck_t (ixb_t (by omega) (by omega)), ck_t (ixb_t (by omega) (by omega)), nI_1, nI_clamp (by omega)]
  · refine rt_more h0 (fun _ => rfl) hM (Nat.le_refl _) h4 (fun x hx => ⟨pk_un (by omega), rfl, rfl, pk_un (by omega), pk_uLn (by omega)⟩) (fun _ _ => rfl) ?_
    refine Or.inr ⟨rfl, (some z, [], []), ?_, Or.inl ⟨z, rfl, rfl, pk_us, pk_uLs, pk_us⟩⟩
    rw [List.getElem?_append_right (Nat.le_refl _), Nat.sub_self]
    rfl
theorem mt_var {TR : List (List Int32)} {S : List Nd} {M : List Rf} {P : Nat} {sz pt : Int32} {kf nf ff mf pf : Nat → Int32} {bf : Nat → Int64} (h : RT TR S M P sz pt kf nf ff mf pf bf) (hM : M.length < 300000) (v : Nat) : ∃ kf' nf' mf', p_MoTerms_variable (nI v) sz pt 404300 kf 404300 nf 404300 mf = some (nI M.length, nI (M.length + 1), kf', nf', mf') ∧ RT TR S (M ++ [(true, v)]) P (nI (M.length + 1)) pt kf' nf' ff mf' pf bf ∧ (∀ x, x < M.length → kf' x = kf x ∧ nf' x = nf x ∧ mf' x = mf x) := by
  have h0 := h
  obtain ⟨rfl, rfl, h3, h4, h5, h6⟩ := h
  refine ⟨upd kf M.length 0, upd nf M.length (nI v), upd mf M.length 0, ?_, ?_, fun x hx => ⟨pk_un (by omega), pk_un (by omega), pk_un (by omega)⟩⟩
  · unfold p_MoTerms_variable
    rw [ck_t (ixb_t (by omega) (by omega)), ck_t (ixb_t (by omega) (by omega)), ck_t (ixb_t (by omega) (by omega)), nI_1, nI_clamp (by omega)]
  · have := rt_more (S2 := []) (r := (true, v)) (kf' := upd kf M.length 0) (nf' := upd nf M.length (nI v)) (ff' := ff) (mf' := upd mf M.length 0) (pf' := pf) (bf' := bf) h0 (fun z => by cases z) hM (Nat.le_refl _) h4 (fun x hx => ⟨pk_un (by omega), pk_un (by omega), rfl, pk_un (by omega), rfl⟩) (fun _ _ => rfl) (Or.inl ⟨rfl, pk_us, pk_us, pk_us⟩)
    rw [List.append_nil] at this
    exact this
theorem mt_atom {TR : List (List Int32)} {S : List Nd} {M : List Rf} {P : Nat} {sz pt : Int32} {kf nf ff mf pf : Nat → Int32} {bf : Nat → Int64} (h : RT TR S M P sz pt kf nf ff mf pf bf) (hM : M.length < 300000) {w : List Int32} {x : Int32} (hw : nm TR w x) : ∃ kf' nf' mf', p_MoTerms_atom x sz pt 404300 kf 404300 nf 404300 mf = some (nI M.length, nI (M.length + 1), kf', nf', mf') ∧ RT TR (S ++ [(none, w, [])]) (M ++ [(false, S.length)]) P (nI (M.length + 1)) pt kf' nf' ff mf' pf bf ∧ (∀ x, x < M.length → kf' x = kf x ∧ nf' x = nf x ∧ mf' x = mf x) := by
  have h0 := h
  obtain ⟨rfl, rfl, h3, h4, h5, h6⟩ := h
  refine ⟨upd kf M.length 2, upd nf M.length x, upd mf M.length 0, ?_, ?_, fun y hy => ⟨pk_un (by omega), pk_un (by omega), pk_un (by omega)⟩⟩
  · unfold p_MoTerms_atom
    rw [ck_t (ixb_t (by omega) (by omega)), ck_t (ixb_t (by omega) (by omega)), ck_t (ixb_t (by omega) (by omega)), nI_1, nI_clamp (by omega)]
  · refine rt_more h0 (fun _ => rfl) hM (Nat.le_refl _) h4 (fun x hx => ⟨pk_un (by omega), pk_un (by omega), rfl, pk_un (by omega), rfl⟩) (fun _ _ => rfl) ?_
    refine Or.inr ⟨rfl, (none, w, []), ?_, Or.inr ⟨rfl, pk_us, by rw [pk_us]; exact hw, pk_us, Nat.zero_le _, 0, fun z => absurd rfl z, Nat.zero_le _, fun k t e => by cases e⟩⟩
    rw [List.getElem?_append_right (Nat.le_refl _), Nat.sub_self]
    rfl
/-- rows of values -/
def RS (M : List Rf) (K : List Rf) (stf : Nat → Int32) : Prop := ∀ (j : Nat) (r : Rf), K[j]? = some r → ∃ y, stf j = nI y ∧ M[y]? = some r
theorem rs_app {M M2 : List Rf} {K : List Rf} {stf : Nat → Int32} (h : RS M K stf) : RS (M ++ M2) K stf := fun j r e => by
  obtain ⟨y, h1, h2⟩ := h j r e
  obtain ⟨hy, _⟩ := List.getElem?_eq_some_iff.mp h2
  exact ⟨y, h1, by rw [List.getElem?_append_left hy]; exact h2⟩
theorem rs_push {M : List Rf} {K : List Rf} {stf : Nat → Int32} (h : RS M K stf) {y : Nat} {r : Rf} (hy : M[y]? = some r) : RS M (K ++ [r]) (upd stf K.length (nI y)) := fun j t e => by
  obtain ⟨hj, _⟩ := List.getElem?_eq_some_iff.mp e
  rw [List.length_append, List.length_singleton] at hj
  by_cases q : j = K.length
  · subst q
    rw [List.getElem?_append_right (Nat.le_refl _), Nat.sub_self] at e
    obtain rfl : r = t := by injection e
    exact ⟨y, pk_us, hy⟩
  · rw [List.getElem?_append_left (by omega)] at e
    obtain ⟨y', h1, h2⟩ := h j t e
    exact ⟨y', by rw [pk_un q]; exact h1, h2⟩
theorem rs_take {M : List Rf} {K : List Rf} {stf : Nat → Int32} (h : RS M K stf) (n : Nat) : RS M (K.take n) stf := fun j r e => by
  obtain ⟨hj, _⟩ := List.getElem?_eq_some_iff.mp e
  rw [List.length_take] at hj
  rw [List.getElem?_take_of_lt (by omega)] at e
  exact h j r e
